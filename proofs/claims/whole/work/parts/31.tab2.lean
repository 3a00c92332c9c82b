section Tab
variable {D : zD} {G : zG} {h : zH} {d : Nat}
theorem a_X4_shape1 (hd : 1 ≤ d) (x0 x1 x2 : Int) (ht : z_is G x0 3) (p1 : z_in x1) (p2 : z_in x2) (c : (1 ≤ x1 ∧ x1 ≤ 12) ∧ 1 ≤ x2 ∧ x2 ≤ 6) : z_Ei D M_X4_shape d [(2, x0), (0, x1), (0, x2)] G h 1 (z_wr (z_wr h x0 1 x1) x0 2 x2) :=
  z_begin mo_X4_shape rfl (nle rfl) (b_X4_shape_0 p1 (fun _ _ => p2) (fun _ _ _ _ => ht) (fun _ => by omega) (fun _ _ => by omega) (fun _ _ _ => by omega) (fun _ _ _ _ => ⟨rfl, rfl, rfl⟩) (fun _ _ _ _ => by omega))
theorem a_X4_shape0 (hd : 1 ≤ d) (x0 x1 x2 : Int) (ht : z_is G x0 3) (p1 : z_in x1) (p2 : z_in x2) (c : ¬ ((1 ≤ x1 ∧ x1 ≤ 12) ∧ 1 ≤ x2 ∧ x2 ≤ 6)) : z_Ei D M_X4_shape d [(2, x0), (0, x1), (0, x2)] G h 0 h :=
  z_begin mo_X4_shape rfl (nle rfl) (b_X4_shape_0 p1 (fun _ _ => p2) (fun _ _ _ _ => ht) (fun _ => ⟨rfl, rfl, rfl⟩) (fun _ _ => ⟨rfl, rfl, rfl⟩) (fun _ _ _ => ⟨rfl, rfl, rfl⟩) (fun _ _ _ _ => by omega) (fun _ _ _ _ => ⟨rfl, rfl, rfl⟩))
theorem a_X4_has (hd : 1 ≤ d) (x0 x1 x2 : Int) (ht : z_is G x0 3) (p1 : z_in x1) (p2 : z_in x2) (q1 : z_in (h x0 1)) (q2 : z_in (h x0 2)) : z_Ei D M_X4_has d [(2, x0), (0, x1), (0, x2)] G h (z_b ((0 ≤ x1 ∧ x1 < h x0 1) ∧ 0 ≤ x2 ∧ x2 < h x0 2)) h :=
  z_begin mo_X4_has rfl (nle rfl) (b_X4_has_0 p1 (fun _ => ht) (fun _ => q1) (fun _ _ => p2) (fun _ _ _ => q2) (fun _ => ⟨by rw [z_b0 (by omega)], rfl, rfl⟩) (fun _ _ => ⟨by rw [z_b0 (by omega)], rfl, rfl⟩) (fun _ _ _ => ⟨by rw [z_b0 (by omega)], rfl, rfl⟩) (fun _ _ _ _ => ⟨by rw [z_b0 (by omega)], rfl, rfl⟩) (fun _ _ _ _ => ⟨by rw [z_b1 (by omega)], rfl, rfl⟩))
theorem a_X4_at (hd : 1 ≤ d) (x0 x1 x2 C v : Int) (ht : z_is G x0 3) (hC : h x0 2 = C) (h0 : 0 ≤ x1 * C + x2) (h1 : x1 * C + x2 < 72) (hv : h (x0 + 1) (x1 * C + x2) = v) : z_El D M_X4_at d [(2, x0), (0, x1), (0, x2)] G h v h := by
  subst hC; subst hv
  exact z_begin mo_X4_at rfl (nle rfl) (b_X4_at_0 ht ⟨by omega, by omega⟩ (fun _ _ => h0) (fun _ _ => h1) (fun _ => by omega) (fun _ _ => by omega) (fun _ _ => ⟨rfl, rfl, rfl⟩))
theorem a_X4_put (hd : 1 ≤ d) (x0 x1 x2 x3 C : Int) (ht : z_is G x0 3) (hC : h x0 2 = C) (h0 : 0 ≤ x1 * C + x2) (h1 : x1 * C + x2 < 72) : z_Ev D M_X4_put d [(2, x0), (0, x1), (0, x2), (1, x3)] G h (z_wr h (x0 + 1) (x1 * C + x2) x3) := by
  subst hC
  exact z_begin mo_X4_put rfl (nle rfl) (b_X4_put_0 ht ⟨by omega, by omega⟩ (fun _ _ => h0) (fun _ _ => h1) (fun _ => by omega) (fun _ _ => by omega) (fun _ _ => ⟨rfl, rfl, rfl⟩))
theorem a_X4_become (hd : 1 ≤ d) (x0 x1 R C : Int) (h0 : z_is G x0 3) (h1 : z_is G x1 3) (hR : h x1 1 = R) (hC : h x1 2 = C) (p1 : 0 ≤ R * C) (p2 : R * C ≤ 72) : z_Ev D M_X4_become d [(2, x0), (2, x1)] G h (z_cp (z_wr (z_wr h x0 1 R) x0 2 C) (x1 + 1) 0 (x0 + 1) 0 (R * C)) := by
  subst hR; subst hC
  exact z_begin mo_X4_become rfl (nle rfl) (b_X4_become_0 hd h1 h0 p1 (by omega) ⟨rfl, rfl, rfl⟩)
end Tab
