section Mst12
variable {D : zD} {d : Nat} {G : zG} {h h0 h1 : zH} {Q : zO → zG → zH → Prop}
theorem m_folds (hd : 3 ≤ d) {k a : Int} {T : zTb} (m : mS h k T) (oT : okT T) (ha : 1 ≤ a) (ha' : a < T.2.1) : z_CY D M_X13_folds d [(2, 88), (0, T.2.1), (0, a)] G h (pM G h (sFold a T)) := by
  have sh := oT.1
  have e4 := m.2.1
  have p0 : 0 ≤ (T.1 - 1) * (T.2.1 - a) := Int.mul_nonneg (by omega) (by omega)
  have p1 : (T.1 - 1) * (T.2.1 - a) ≤ 11 * (T.2.1 - a) := Int.mul_le_mul_of_nonneg_right (by omega) (by omega)
  refine z_begin mo_X13_folds rfl (nle rfl) (b_X13_folds_0 ⟨by omega, by omega⟩ (fun _ => ⟨by omega, by omega⟩) (fun _ _ => by rw [e4]; exact ⟨by omega, by omega⟩) (fun _ _ _ => ⟨by omega, by omega⟩) (fun c => by omega) (fun c c2 => ?_) (fun c c2 c3 => ?_) (fun c c2 c3 c5 => ?_) (fun c c2 c3 c5 => ?_))
  · rw [sFold, zif0 (fun w => by omega)]
    exact ⟨rfl, frN.rf, rfl⟩
  · rw [e4] at c3
    rw [sFold, zif0 (fun w => by omega)]
    exact ⟨rfl, frN.rf, rfl⟩
  · rw [e4] at c2 c3 ⊢
    have pp := Int.mul_pos (show 0 < T.1 - 1 by omega) (show 0 < T.2.1 - a by omega)
    rw [sFold, zif1 ⟨by omega, by omega, by omega⟩]
    generalize eU : (((T.1 - 1) * (T.2.1 - a), a + 2, fun k c => if c < a then T.2.2 (1 + k / (T.2.1 - a)) c else if c = a then T.2.2 0 (a + k % (T.2.1 - a)) else T.2.2 (1 + k / (T.2.1 - a)) (a + k % (T.2.1 - a))) : zTb) = U
    have u1 : U.1 = (T.1 - 1) * (T.2.1 - a) := by rw [← eU]
    have u2 : U.2.1 = a + 2 := by rw [← eU]
    refine z_Kv.of (d2 := d - 1) (by omega) (a_X13_shape 10 _ _ (by omega) (by omega)) ?_
    rintro out G' h1 hl1 ⟨r1, rfl, rfl⟩
    rw [← u1, ← u2]
    have k1 := l_folds62 (D := D) (G := G') (h := zfr (z_wr (z_wr h 89 10 U.1) 90 10 U.2.1) 91 (72 * 10) 72 0) hd m oT rfl u1 u2 (fun k c q => by rw [← eU]; dsimp only; rw [if_pos q]) (fun k => by rw [← eU]; dsimp only; rw [if_neg (by omega), if_pos rfl]) (fun k => by rw [← eU]; dsimp only; rw [if_neg (by omega), if_neg (by omega)]) ⟨by omega, by omega, by omega, by omega⟩ ha ha' (T.1 - 1).toNat 1 (by omega) (by omega) frN_new (isN_new.imp fun r c b1 b2 b3 b4 p => by
      rcases p with p | p
      · exact p
      · rw [show (1 : Int) - 1 = 0 by omega, Int.zero_mul] at p; omega)
    rw [show (1 : Int) - 1 = 0 by omega, Int.zero_mul] at k1
    exact ⟨r1, b_X13_folds_57 k1⟩
  · rw [sFold, zif0 (fun w => by omega)]
    exact ⟨rfl, frN.rf, rfl⟩
end Mst12
