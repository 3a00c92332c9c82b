section Tab5
variable {D : zD} {G : zG} {h : zH} {d : Nat}
theorem l_numbers (hd : 3 ≤ d) (x0 : Int) (t0 : z_is G x0 3) (o : okS h x0) (c : okC h x0) : ∀ (n : Nat) (x1 x2 : Int), x2 = h x0 1 * h x0 2 - n → 0 ≤ x2 → x1 = zct (fun i => znum (h (x0 + 1) i)) x2.toNat →
    z_Y D M_X4_numbers d 4 [(0, 2, x0), (1, 0, x1), (2, 0, x2)] [] G h (fun o G' h' => o = .inl (some (0, zct (fun i => znum (h (x0 + 1) i)) (h x0 1 * h x0 2).toNat)) ∧ G' = G ∧ h' = h) := by
  have rc := o.rc
  intro n
  induction n with
  | zero =>
    intro x1 x2 e h4 e3
    exact b_X4_numbers_4 hd t0 ⟨by omega, by omega⟩ ⟨by omega, by omega⟩ (fun c => by omega) (fun c => by omega) (fun c => by omega) (fun c => by omega) (fun _ => ⟨by rw [e3, show x2 = h x0 1 * h x0 2 by omega], rfl, rfl⟩) (fun c => by omega) (fun c => by omega)
  | succ n ih =>
    intro x1 x2 e h4 e3
    have hc := c x2 h4 (by omega)
    have e4 : (x2 + 1).toNat = x2.toNat + 1 := by omega
    have ee : ((x2.toNat : Nat) : Int) = x2 := Int.toNat_of_nonneg h4
    refine b_X4_numbers_4 hd t0 ⟨by omega, by omega⟩ ⟨by omega, by omega⟩ (fun _ => h4) (fun c => by omega) (fun _ => hc.1) (fun _ => hc.2) (fun c => by omega) (fun c1 c2 => ?_) (fun c1 c2 => ?_)
    · refine ih (x1 + 1) (x2 + 1) (by omega) (by omega) ?_
      rw [e4, zct, z_b1 (by rw [ee]; exact c2), ← e3]
    · refine ih x1 (x2 + 1) (by omega) (by omega) ?_
      rw [e4, zct, z_b0 (by rw [ee]; exact c2), ← e3]
      omega
theorem a_X4_numbers (hd : 3 ≤ d) (x0 : Int) (t0 : z_is G x0 3) (o : okS h x0) (c : okC h x0) : z_Ei D M_X4_numbers d [(2, x0)] G h (zct (fun i => znum (h (x0 + 1) i)) (h x0 1 * h x0 2).toNat) h := by
  have rc := o.rc
  exact z_begin mo_X4_numbers rfl (nle rfl) (b_X4_numbers_0 (l_numbers hd x0 t0 o c (h x0 1 * h x0 2).toNat 0 0 (by omega) (by omega) rfl))
theorem l_isSame (x0 x1 : Int) (t0 : z_is G x0 3) (t1 : z_is G x1 3) (o : okS h x0) (c : okC h x0) (c' : okC h x1) (eR : h x0 1 = h x1 1) (eC : h x0 2 = h x1 2) : ∀ (n : Nat) (x2 : Int), x2 = h x0 1 * h x0 2 - n → 0 ≤ x2 → (∀ i : Int, 0 ≤ i → i < x2 → h (x0 + 1) i = h (x1 + 1) i) →
    z_Y D M_X4_isSame d 26 [(0, 2, x0), (1, 2, x1), (2, 0, x2)] [] G h (fun o G' h' => o = .inl (some (0, z_b (∀ i : Int, 0 ≤ i → i < h x0 1 * h x0 2 → h (x0 + 1) i = h (x1 + 1) i))) ∧ G' = G ∧ h' = h) := by
  have rc := o.rc
  intro n
  induction n with
  | zero =>
    intro x2 e h4 hall
    exact b_X4_isSame_26 t0 ⟨by omega, by omega⟩ ⟨by omega, by omega⟩ (fun c => by omega) (fun c => by omega) (fun _ => t1) (fun c => by omega) (fun c => by omega) (fun _ => ⟨by rw [z_b1 (fun i h1 h2 => hall i h1 (by omega))], rfl, rfl⟩) (fun c => by omega) (fun c => by omega)
  | succ n ih =>
    intro x2 e h4 hall
    have hc := c x2 h4 (by omega)
    have hc' := c' x2 h4 (by rw [← eR, ← eC]; omega)
    refine b_X4_isSame_26 t0 ⟨by omega, by omega⟩ ⟨by omega, by omega⟩ (fun _ => h4) (fun c => by omega) (fun _ => t1) (fun _ => ⟨by omega, by omega⟩) (fun _ => ⟨by omega, by omega⟩) (fun c => by omega) (fun c1 c2 => ?_) (fun c1 c2 => ⟨?_, rfl, rfl⟩)
    · refine ih (x2 + 1) (by omega) (by omega) (fun i h1 h2 => ?_)
      by_cases ei : i = x2
      · subst ei; exact c2
      · exact hall i h1 (by omega)
    · rw [z_b0 (fun q => c2 (q x2 h4 (by omega)))]
theorem a_X4_isSame (hd : 1 ≤ d) (x0 x1 : Int) (t0 : z_is G x0 3) (t1 : z_is G x1 3) (o : okS h x0) (o' : okS h x1) (c : okC h x0) (c' : okC h x1) : z_Ei D M_X4_isSame d [(2, x0), (2, x1)] G h (z_b (h x0 1 = h x1 1 ∧ h x0 2 = h x1 2 ∧ ∀ i : Int, 0 ≤ i → i < h x0 1 * h x0 2 → h (x0 + 1) i = h (x1 + 1) i)) h := by
  have rc := o.rc
  have o1 := o; have o2 := o'
  unfold okS at o1 o2
  refine z_begin mo_X4_isSame rfl (nle rfl) (b_X4_isSame_0 t0 t1 ⟨by omega, by omega⟩ ⟨by omega, by omega⟩ (fun _ => ⟨by omega, by omega⟩) (fun _ => ⟨by omega, by omega⟩) (fun c1 => ⟨by rw [z_b0 (fun q => c1 q.1)], rfl, rfl⟩) (fun c1 c2 => ?_) (fun c1 c2 => ⟨by rw [z_b0 (fun q => c2 q.2.1)], rfl, rfl⟩))
  have eR := Classical.not_not.mp c1
  refine (l_isSame x0 x1 t0 t1 o c c' eR c2 (h x0 1 * h x0 2).toNat 0 (by omega) (by omega) (fun i h1 h2 => by omega)).mono fun o G' h' _ hh => ⟨?_, hh.2⟩
  rw [hh.1]
  by_cases hp : ∀ i : Int, 0 ≤ i → i < h x0 1 * h x0 2 → h (x0 + 1) i = h (x1 + 1) i
  · rw [z_b1 hp, z_b1 ⟨eR, c2, hp⟩]
  · rw [z_b0 hp, z_b0 (fun q => hp q.2.2)]
theorem l_isLike (x0 x1 : Int) (t0 : z_is G x0 3) (t1 : z_is G x1 3) (o : okS h x0) (c : okC h x0) (c' : okC h x1) (eR : h x0 1 = h x1 1) (eC : h x0 2 = h x1 2) : ∀ (n : Nat) (x2 : Int), x2 = h x0 1 * h x0 2 - n → 0 ≤ x2 → (∀ i : Int, 0 ≤ i → i < x2 → h (x0 + 1) i = h (x1 + 1) i ∨ h (x0 + 1) i = -1 ∨ h (x1 + 1) i = -1) →
    z_Y D M_X4_isLike d 26 [(0, 2, x0), (1, 2, x1), (2, 0, x2)] [] G h (fun o G' h' => o = .inl (some (0, z_b (∀ i : Int, 0 ≤ i → i < h x0 1 * h x0 2 → h (x0 + 1) i = h (x1 + 1) i ∨ h (x0 + 1) i = -1 ∨ h (x1 + 1) i = -1))) ∧ G' = G ∧ h' = h) := by
  have rc := o.rc
  intro n
  induction n with
  | zero =>
    intro x2 e h4 hall
    exact b_X4_isLike_26 t0 ⟨by omega, by omega⟩ ⟨by omega, by omega⟩ (fun c => by omega) (fun c => by omega) (fun _ => t1) (fun c => by omega) (fun c => by omega) (fun _ => ⟨by rw [z_b1 (fun i h1 h2 => hall i h1 (by omega))], rfl, rfl⟩) (fun c => by omega) (fun c => by omega) (fun c => by omega) (fun c => by omega)
  | succ n ih =>
    intro x2 e h4 hall
    have hc := c x2 h4 (by omega)
    have hc' := c' x2 h4 (by rw [← eR, ← eC]; omega)
    have go : (h (x0 + 1) x2 = h (x1 + 1) x2 ∨ h (x0 + 1) x2 = -1 ∨ h (x1 + 1) x2 = -1) → z_Y D M_X4_isLike d 26 [(0, 2, x0), (1, 2, x1), (2, 0, x2 + 1)] [] G h (fun o G' h' => o = .inl (some (0, z_b (∀ i : Int, 0 ≤ i → i < h x0 1 * h x0 2 → h (x0 + 1) i = h (x1 + 1) i ∨ h (x0 + 1) i = -1 ∨ h (x1 + 1) i = -1))) ∧ G' = G ∧ h' = h) := fun hq => by
      refine ih (x2 + 1) (by omega) (by omega) (fun i h1 h2 => ?_)
      by_cases ei : i = x2
      · subst ei; exact hq
      · exact hall i h1 (by omega)
    refine b_X4_isLike_26 t0 ⟨by omega, by omega⟩ ⟨by omega, by omega⟩ (fun _ => h4) (fun c => by omega) (fun _ => t1) (fun _ => ⟨by omega, by omega⟩) (fun _ => ⟨by omega, by omega⟩) (fun c => by omega) (fun c1 c2 => go (Or.inl c2)) (fun c1 c2 c3 => go (Or.inr (Or.inl c3))) (fun c1 c2 c3 c4 => go (Or.inr (Or.inr c4))) (fun c1 c2 c3 c4 => ⟨?_, rfl, rfl⟩)
    rw [z_b0 (fun q => by rcases q x2 h4 (by omega) with q | q | q; exact c2 q; exact c3 q; exact c4 q)]
theorem a_X4_isLike (hd : 1 ≤ d) (x0 x1 : Int) (t0 : z_is G x0 3) (t1 : z_is G x1 3) (o : okS h x0) (o' : okS h x1) (c : okC h x0) (c' : okC h x1) : z_Ei D M_X4_isLike d [(2, x0), (2, x1)] G h (z_b (h x0 1 = h x1 1 ∧ h x0 2 = h x1 2 ∧ ∀ i : Int, 0 ≤ i → i < h x0 1 * h x0 2 → h (x0 + 1) i = h (x1 + 1) i ∨ h (x0 + 1) i = -1 ∨ h (x1 + 1) i = -1)) h := by
  have rc := o.rc
  have o1 := o; have o2 := o'
  unfold okS at o1 o2
  refine z_begin mo_X4_isLike rfl (nle rfl) (b_X4_isLike_0 t0 t1 ⟨by omega, by omega⟩ ⟨by omega, by omega⟩ (fun _ => ⟨by omega, by omega⟩) (fun _ => ⟨by omega, by omega⟩) (fun c1 => ⟨by rw [z_b0 (fun q => c1 q.1)], rfl, rfl⟩) (fun c1 c2 => ?_) (fun c1 c2 => ⟨by rw [z_b0 (fun q => c2 q.2.1)], rfl, rfl⟩))
  have eR := Classical.not_not.mp c1
  refine (l_isLike x0 x1 t0 t1 o c c' eR c2 (h x0 1 * h x0 2).toNat 0 (by omega) (by omega) (fun i h1 h2 => by omega)).mono fun o G' h' _ hh => ⟨?_, hh.2⟩
  rw [hh.1]
  by_cases hp : ∀ i : Int, 0 ≤ i → i < h x0 1 * h x0 2 → h (x0 + 1) i = h (x1 + 1) i ∨ h (x0 + 1) i = -1 ∨ h (x1 + 1) i = -1
  · rw [z_b1 hp, z_b1 ⟨eR, c2, hp⟩]
  · rw [z_b0 hp, z_b0 (fun q => hp q.2.2)]
theorem l_rowsAgree (x0 x1 x2 x4 : Int) (t0 : z_is G x0 3) (o : okS h x0) (c : okC h x0) (h1 : 0 ≤ x1 ∧ x1 < h x0 1) (h2 : 0 ≤ x2 ∧ x2 < h x0 1) (h4 : x4 ≤ h x0 2) (x3 : Int) (h3 : 0 ≤ x3) : ∀ (n : Nat) (x5 : Int), (x5 = x4 - n ∨ (x4 < x5 ∧ n = 0)) → x3 ≤ x5 → (∀ k : Int, x3 ≤ k → k < x5 → k < x4 → h (x0 + 1) (x1 * h x0 2 + k) = h (x0 + 1) (x2 * h x0 2 + k)) → z_in x5 → z_in x4 →
    z_Y D M_X4_rowsAgree d 42 [(0, 2, x0), (1, 0, x1), (2, 0, x2), (4, 0, x4), (5, 0, x5)] [] G h (fun o G' h' => o = .inl (some (0, z_b (∀ k : Int, x3 ≤ k → k < x4 → h (x0 + 1) (x1 * h x0 2 + k) = h (x0 + 1) (x2 * h x0 2 + k)))) ∧ G' = G ∧ h' = h) := by
  have rc := o.rc
  intro n
  induction n with
  | zero =>
    intro x5 e h5 hall i5 i4
    exact b_X4_rowsAgree_42 i5 i4 (fun _ => t0) (fun c => by omega) (fun c => by omega) (fun c => by omega) (fun c => by omega) (fun c => by omega) (fun c => by omega) (fun _ => ⟨by rw [z_b1 (fun k h1 h2 => hall k h1 (by omega) h2)], rfl, rfl⟩) (fun c => by omega) (fun c => by omega)
  | succ n ih =>
    intro x5 e h5 hall i5 i4
    have h5' : x5 < x4 := by omega
    have g1 := ix_lt h1.1 h1.2 (show 0 ≤ x5 by omega) (show x5 < h x0 2 by omega)
    have g2 := ix_lt h2.1 h2.2 (show 0 ≤ x5 by omega) (show x5 < h x0 2 by omega)
    have hc := c _ g1.1 g1.2
    have hc' := c _ g2.1 g2.2
    have o1 := o
    unfold okS at o1
    refine b_X4_rowsAgree_42 i5 i4 (fun _ => t0) (fun _ => g1.1) (fun _ => by omega) (fun _ => g2.1) (fun _ => by omega) (fun _ => ⟨by omega, by omega⟩) (fun _ => ⟨by omega, by omega⟩) (fun c => by omega) (fun c1 c2 => ?_) (fun c1 c2 => ⟨?_, rfl, rfl⟩)
    · refine ih (x5 + 1) (by omega) (by omega) (fun k k1 k2 k3 => ?_) ⟨by omega, by omega⟩ i4
      by_cases ek : k = x5
      · subst ek; exact c2
      · exact hall k k1 (by omega) k3
    · rw [z_b0 (fun q => c2 (q x5 h5 h5'))]
theorem a_X4_rowsAgree (hd : 1 ≤ d) (x0 x1 x2 x3 x4 : Int) (t0 : z_is G x0 3) (o : okS h x0) (c : okC h x0) (h1 : 0 ≤ x1 ∧ x1 < h x0 1) (h2 : 0 ≤ x2 ∧ x2 < h x0 1) (h3 : 0 ≤ x3) (h34 : x3 ≤ x4) (h4 : x4 ≤ h x0 2) : z_Ei D M_X4_rowsAgree d [(2, x0), (0, x1), (0, x2), (0, x3), (0, x4)] G h (z_b (∀ k : Int, x3 ≤ k → k < x4 → h (x0 + 1) (x1 * h x0 2 + k) = h (x0 + 1) (x2 * h x0 2 + k))) h := by
  have o1 := o
  unfold okS at o1
  exact z_begin mo_X4_rowsAgree rfl (nle rfl) (b_X4_rowsAgree_0 ⟨by omega, by omega⟩ (fun _ => t0) (fun _ => ⟨by omega, by omega⟩) (fun _ _ => ⟨by omega, by omega⟩) (fun _ _ _ _ => ⟨by omega, by omega⟩) (fun _ _ _ _ _ => ⟨by omega, by omega⟩) (fun _ _ _ _ _ => ⟨by omega, by omega⟩) (fun _ => by omega) (fun _ _ => by omega) (fun _ _ _ => by omega) (fun _ _ _ _ => by omega) (fun _ _ _ _ _ => by omega) (fun _ _ _ _ _ _ => l_rowsAgree x0 x1 x2 x4 t0 o c h1 h2 h4 x3 h3 (x4 - x3).toNat x3 (Or.inl (by omega)) (by omega) (fun k k1 k2 => by omega) ⟨by omega, by omega⟩ ⟨by omega, by omega⟩) (fun _ _ _ _ _ _ => by omega))
end Tab5
