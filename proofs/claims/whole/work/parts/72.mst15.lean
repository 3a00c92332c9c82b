section Mst15
variable {D : zD} {d : Nat} {G : zG} {h h0 h1 : zH} {Q : zO → zG → zH → Prop}
/-! splits -/
def zmi (b v : Int) : Int := if zmp b v = -1 then -1 else zlen v - 1 - zmp b v
theorem zmi_e (b v : Int) : (zmi b v = -1 ↔ zmp b v = -1) ∧ z_in (zmi b v) ∧ (¬ zmp b v = -1 → zlen v - zmi b v = zmp b v + 1 ∧ zlen v - 1 - zmi b v = zmp b v) := by
  have a := zbh_rg (zlen v).toNat v (zmb b)
  have l := zlen_nn v
  have a2 : zmp b v < zlen v ∨ zmp b v = -1 := by unfold zmp; omega
  have a3 := zmp_rg b v
  unfold zmi
  split
  · next q => exact ⟨⟨fun _ => q, fun _ => rfl⟩, ⟨by omega, by omega⟩, fun n => absurd q n⟩
  · next q => exact ⟨⟨fun w => by omega, fun w => absurd w q⟩, ⟨by omega, by omega⟩, fun _ => ⟨by omega, by omega⟩⟩
/-- the two cells that a row of splits puts last -/
theorem l_splits134 (hd : 3 ≤ d) {k a b x5 s0 : Int} {T U : zTb} (m : mS h0 k T) (oT : okT T) (nT : noA T) (eU : ((T.1, T.2.1 + 1, fun r c => if c < a then T.2.2 r c else if c = a then spA b (T.2.2 r a) else if c = a + 1 then spB b (T.2.2 r a) else T.2.2 r (c - 1)) : zTb) = U) (t6 : T.2.1 ≤ 5) (ha : 0 ≤ a) (ha' : a < T.2.1) (h5 : 0 ≤ x5) (h5' : x5 < T.1) (f : frN h0 h) (k1 : isN h 10 U (fun r c => ouT U r c ∨ r < x5 ∨ (r = x5 ∧ ¬ c = a ∧ ¬ c = a + 1)))
    (kk : ∀ h, frN h0 h → isN h 10 U (fun r c => ouT U r c ∨ r < x5 + 1) → z_Y D M_X13_splits d 32 [(0, 2, 88), (1, 0, T.2.1), (2, 0, a), (3, 0, b), (4, 0, s0), (5, 0, x5 + 1)] [] G h Q) :
    z_Y D M_X13_splits d 134 [(0, 2, 88), (1, 0, T.2.1), (2, 0, a), (3, 0, b), (5, 0, x5), (6, 1, T.2.2 x5 a), (8, 0, zlen (T.2.2 x5 a)), (9, 0, zmi b (T.2.2 x5 a))] [(0, s0)] G h Q := by
  have sh := oT.1
  have u1 : U.1 = T.1 := by rw [← eU]
  have u2 : U.2.1 = T.2.1 + 1 := by rw [← eU]
  have v1 : ∀ r : Int, U.2.2 r a = spA b (T.2.2 r a) := fun r => by rw [← eU]; dsimp only; rw [if_neg (by omega), if_pos rfl]
  have v2 : ∀ r : Int, U.2.2 r (a + 1) = spB b (T.2.2 r a) := fun r => by rw [← eU]; dsimp only; rw [if_neg (by omega), if_neg (by omega), if_pos rfl]
  have g1 := oT.2 x5 a h5 h5' ha ha'
  have g2 := nT x5 a h5 h5' ha ha'
  obtain ⟨z1, z2, z3⟩ := zmi_e b (T.2.2 x5 a)
  have rg := zmp_rg b (T.2.2 x5 a)
  have two : ∀ (v w : Int), v = U.2.2 x5 a → w = U.2.2 x5 (a + 1) → z_Y D M_X13_splits d 198 [(0, 2, 88), (1, 0, T.2.1), (2, 0, a), (3, 0, b), (4, 0, s0), (5, 0, x5)] [(1, w), (0, a + 1), (0, x5), (2, 88)] G (z_wr h 91 (72 * 10 + 6 * x5 + a) v) Q := by
    intro v w ev ew
    have q := isN_put (P' := fun r c => ouT U r c ∨ r < x5 ∨ (r = x5 ∧ ¬ c = a + 1)) k1 h5 (by omega) ha (by omega) (by omega) ev (fun r c b1 b2 b3 b4 p => by
      rcases p with p | p
      · exact Or.inl (Or.inl p)
      · by_cases q : r = x5 ∧ c = a
        · exact Or.inr q
        · exact Or.inl (Or.inr (by omega)))
    refine b_X13_splits_198 hd (by omega) (by omega) (kk _ ((f.w (Or.inr (Or.inl ⟨rfl, by omega, by omega⟩))).w (Or.inr (Or.inl ⟨rfl, by omega, by omega⟩))) (isN_put q h5 (by omega) (show 0 ≤ a + 1 by omega) (by omega) (by omega) ew fun r c b1 b2 b3 b4 p => ?_))
    rcases p with p | p
    · exact Or.inl (Or.inl p)
    · by_cases q : r = x5 ∧ c = a + 1
      · exact Or.inr q
      · exact Or.inl (Or.inr (by omega))
  by_cases n : zmp b (T.2.2 x5 a) = -1
  · have n9 := z1.2 n
    refine b_X13_splits_134 z2 (fun c => absurd n9 c) (fun _ => b_X13_splits_162 hd (by omega) (by omega) z2 (fun c => absurd n9 c) (fun _ => two _ _ ?_ ?_))
    · rw [v1, spA, if_pos n]
    · rw [v2, spB, if_pos n]
  · have n9 : ¬ zmi b (T.2.2 x5 a) = -1 := fun w => n (z1.1 w)
    obtain ⟨y1, y2⟩ := z3 n
    refine b_X13_splits_134 z2 (fun _ => b_X13_splits_162 hd (by omega) (by omega) z2 (fun _ => two _ _ ?_ ?_) (fun c => absurd n9 c)) (fun c => absurd n9 c)
    · rw [v1, y1, sr8 g2 g1.2 (by omega) (by omega), spA, if_neg n]
    · rw [v2, y2]; exact spB_of g2 g1.2 n
end Mst15
