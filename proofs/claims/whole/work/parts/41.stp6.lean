section Stp6
variable {D : zD} {d : Nat} {G : zG} {h h0 : zH} {Q : zO → zG → zH → Prop}
theorem zmb_rg (m : Int) : 0 ≤ zmb m ∧ zmb m < 256 := by
  unfold zmb
  split
  · next q =>
    have : m = 0 ∨ m = 1 ∨ m = 2 ∨ m = 3 := by omega
    rcases this with rfl | rfl | rfl | rfl <;> decide
  · omega
theorem zmp_rg (b v : Int) : -1 ≤ zmp b v ∧ zmp b v < 7 := by
  have a := zbh_rg (zlen v).toNat v (zmb b)
  have := zlen_nn v
  unfold zmp
  omega
theorem spA_of {b v : Int} (h0 : 0 ≤ v) (h1 : v < 72057594037927936) (n : ¬ zmp b v = -1) : z_lushr v (8 * (zmp b v + 1)) = spA b v := by
  have := zmp_rg b v
  rw [sh8 h0 h1 (by omega) (by omega), spA, if_neg n]
theorem spB_of {b v : Int} (h0 : 0 ≤ v) (h1 : v < 72057594037927936) (n : ¬ zmp b v = -1) : z_land v (z_lshl 1 (8 * zmp b v) - 1) = spB b v := by
  have rg := zmp_rg b v
  have e : (8 * zmp b v).toNat = 8 * (zmp b v).toNat := by omega
  have hp : (256 : Int) ^ (zmp b v).toNat ≤ 256 ^ 6 := ipl (b := 256) (by decide) (by omega)
  have h6 : (256 : Int) ^ 6 = 281474976710656 := by decide
  rw [z_lshl_n (by omega) (by omega) (by omega) (by rw [e, p256]; omega), e, Int.one_mul, z_land_mask _ (by omega) h0 (by omega), p256, spB, if_neg n]
theorem spA_rg {b v : Int} (h0 : 0 ≤ v) (h1 : v < 72057594037927936) : 0 ≤ spA b v ∧ spA b v < 72057594037927936 := by
  unfold spA
  split
  · omega
  · exact dv256 h0 h1 _
theorem spB_rg {b v : Int} (h0 : 0 ≤ v) (h1 : v < 72057594037927936) : 0 ≤ spB b v ∧ spB b v < 72057594037927936 := by
  unfold spB
  split
  · omega
  · have rg := zmp_rg b v
    have hp : (256 : Int) ^ (zmp b v).toNat ≤ 256 ^ 6 := ipl (b := 256) (by decide) (by omega)
    have h6 : (256 : Int) ^ 6 = 281474976710656 := by decide
    have hq := p256_pos (zmp b v).toNat
    have a := Int.emod_nonneg v (b := 256 ^ (zmp b v).toNat) (by omega)
    have b := Int.emod_lt_of_pos v hq
    omega
theorem zjn_rg {b v w : Int} (v0 : 0 ≤ v) (v1 : v < 72057594037927936) (w0 : 0 ≤ w) (w1 : w < 72057594037927936) (hl : zlen v + 1 + zlen w ≤ 7) : (v * 256 + zmb b < 281474976710656 * 256 ∧ (v * 256 + zmb b) * 256 ^ (zlen w).toNat + w < 72057594037927936) ∧ 0 ≤ zjn b v w ∧ zjn b v w < 72057594037927936 := by
  have lv := zlen_nn v
  have lw := zlen_nn w
  have mb := zmb_rg b
  have a1 := zlen_lt v0 v1
  have a2 := zlen_lt w0 w1
  have hq := p256_pos (zlen w).toNat
  have e1 : (256 : Int) ^ ((zlen v).toNat + 1) = 256 ^ (zlen v).toNat * 256 := Int.pow_succ 256 _
  have a3 : v * 256 + zmb b + 1 ≤ 256 ^ ((zlen v).toNat + 1) := by rw [e1]; omega
  have a4 : (v * 256 + zmb b + 1) * 256 ^ (zlen w).toNat ≤ 256 ^ ((zlen v).toNat + 1) * 256 ^ (zlen w).toNat := Int.mul_le_mul_of_nonneg_right a3 (Int.le_of_lt hq)
  rw [← Int.pow_add] at a4
  have a5 : (256 : Int) ^ ((zlen v).toNat + 1 + (zlen w).toNat) ≤ 256 ^ 7 := ipl (b := 256) (by decide) (by omega)
  have a6 : (256 : Int) ^ ((zlen v).toNat + 1) ≤ 256 ^ 7 := ipl (b := 256) (by decide) (by omega)
  have h7 : (256 : Int) ^ 7 = 72057594037927936 := by decide
  rw [Int.add_mul, Int.one_mul] at a4
  have a7 : 0 ≤ (v * 256 + zmb b) * 256 ^ (zlen w).toNat := Int.mul_nonneg (by omega) (Int.le_of_lt hq)
  unfold zjn
  exact ⟨⟨by omega, by omega⟩, by omega, by omega⟩
theorem zjn_of {b v w : Int} (v0 : 0 ≤ v) (v1 : v < 72057594037927936) (w0 : 0 ≤ w) (w1 : w < 72057594037927936) (hl : zlen v + 1 + zlen w ≤ 7) : z_lor (z_lshl (z_lor (z_lshl v 8) (zmb b)) (8 * zlen w)) w = zjn b v w := by
  have lv := zlen_nn v
  have lw := zlen_nn w
  have mb := zmb_rg b
  obtain ⟨⟨g1, g2⟩, -⟩ := zjn_rg (b := b) v0 v1 w0 w1 hl
  have a2 := zlen_lt w0 w1
  have e : (8 * zlen w).toNat = 8 * (zlen w).toNat := by omega
  have c8 : (2 : Int) ^ (8 : Int).toNat = 256 := by decide
  have s1 : z_lshl v 8 = v * 2 ^ 8 := z_lshl_n v0 (by omega) (by omega) (by rw [c8]; omega)
  have s2 : z_lor (v * 2 ^ 8) (zmb b) = v * 2 ^ 8 + zmb b := z_lor_add 8 v0 mb.1 mb.2 (by show v * 256 + zmb b < _; omega)
  have s3 : z_lshl (v * 256 + zmb b) (8 * zlen w) = (v * 256 + zmb b) * 2 ^ (8 * (zlen w).toNat) := by
    rw [← e]
    exact z_lshl_n (by omega) (by omega) (by omega) (by rw [e, p256]; omega)
  rw [s1, s2]
  show z_lor (z_lshl (v * 256 + zmb b) (8 * zlen w)) w = _
  rw [s3, z_lor_add _ (by omega) w0 (by rw [p256]; exact a2) (by rw [p256]; omega), p256]
  rfl
/-! split -/
theorem l_split25 (hd : 4 ≤ d) {i o a b : Int} {T U : zTb} (ap : apS G i o) (ki : isC h0 i T) (oT : okT T) (nT : noA T) (hb : z_in b) (eU : ((T.1, T.2.1 + 1, fun r c => if c < a then T.2.2 r c else if c = a then spA b (T.2.2 r a) else if c = a + 1 then spB b (T.2.2 r a) else T.2.2 r (c - 1)) : zTb) = U) (oU : shT U) (ha : 0 ≤ a) (ha' : a < T.2.1) : ∀ (n : Nat) (x4 x5 : Int) (h : zH), x5 = T.1 - n → 0 ≤ x5 → x4 = z_b (∃ r : Int, 0 ≤ r ∧ r < x5 ∧ ¬ zmp b (T.2.2 r a) = -1) → frS o h0 h → isP h o U (fun r c => r < x5 ∧ (c = a ∨ c = a + 1)) →
    z_Y D M_X3_split d 25 [(0, 2, i), (1, 2, o), (2, 0, a), (3, 0, b), (4, 0, x4), (5, 0, x5)] [] G h (fun out G' h' => G' = G ∧ frS o h0 h' ∧ isC h' o U ∧ out = .inl (some (0, z_b (∃ r : Int, 0 ≤ r ∧ r < T.1 ∧ ¬ zmp b (T.2.2 r a) = -1)))) := by
  have sh := oT.1
  have u1 : U.1 = T.1 := by rw [← eU]
  have u2 : U.2.1 = T.2.1 + 1 := by rw [← eU]
  have v1 : ∀ r : Int, U.2.2 r a = spA b (T.2.2 r a) := fun r => by rw [← eU]; dsimp only; rw [if_neg (by omega), if_pos rfl]
  have v2 : ∀ r : Int, U.2.2 r (a + 1) = spB b (T.2.2 r a) := fun r => by rw [← eU]; dsimp only; rw [if_neg (by omega), if_neg (by omega), if_pos rfl]
  have v3 : ∀ r c : Int, c < a → U.2.2 r c = T.2.2 r c := fun r c q => by rw [← eU]; dsimp only; rw [if_pos q]
  have v4 : ∀ r c : Int, a < c → U.2.2 r (c + 1) = T.2.2 r c := fun r c q => by rw [← eU]; dsimp only; rw [if_neg (by omega), if_neg (by omega), if_neg (by omega), show c + 1 - 1 = c by omega]
  intro n
  induction n with
  | zero =>
    intro x4 x5 h e h5 e4 f k
    have k' := isC_fr ap ki f
    have e1 := k'.1; have e2 := k'.2.1
    refine b_X3_split_25 (by omega) ap.1 ⟨by omega, by omega⟩ ⟨by omega, by omega⟩ (fun c => by omega) (fun c => by omega) (fun c => by omega) (fun c => by omega) (fun c => by omega) (fun c => by omega) (fun c => by omega) (fun c => by omega) (fun c => by omega) (fun c => by omega) (fun c => by omega) (fun c => by omega) (fun c => by omega) (fun c => by omega) (fun c => by omega) (fun c => by omega) (fun c => ?_) (fun c => by omega) (fun c => by omega)
    refine z_Kv.of (d2 := d - 1) (by omega) (c_move (by omega) 0 a 0 _ ap ki oT u1 oU (by omega) (by omega) (by omega) (by omega) (fun r c b1 b2 b3 b4 => ?_) f k) ?_
    · rw [Int.add_zero, v3 r c b4]; exact ⟨by omega, rfl⟩
    rintro out G' h1 hl1 ⟨r1, rfl, f1, k1⟩
    refine ⟨r1, b_X3_split_134 ap.1 ?_⟩
    rw [(isC_fr ap ki f1).2.1]
    refine z_Kv.of (d2 := d - 1) (by omega) (c_move (by omega) (a + 1) T.2.1 1 _ ap ki oT u1 oU (by omega) (by omega) (by omega) (by omega) (fun r c b1 b2 b3 b4 => ?_) f1 k1) ?_
    · rw [v4 r c (by omega)]; exact ⟨by omega, rfl⟩
    rintro out2 G' h2 hl2 ⟨r2, rfl, f2, k2⟩
    exact ⟨r2, b_X3_split_147 (by rw [e4]; exact z_b01 _) ⟨rfl, f2, k2.all fun r c b1 b2 b3 b4 => by omega, by rw [e4, show x5 = T.1 by omega]⟩⟩
  | succ n ih =>
    intro x4 x5 h e h5 e4 f k
    have k' := isC_fr ap ki f
    have e1 := k'.1; have e2 := k'.2.1
    have j1 := isC_ix k' oT (r := x5) (c := a) (by omega) (by omega) (by omega) (by omega)
    have j2 := isP_ix (r := x5) (c := a) k oU (by omega) (by omega) (by omega) (by omega)
    have j3 := isP_ix (r := x5) (c := a + 1) k oU (by omega) (by omega) (by omega) (by omega)
    have g1 := oT.2 x5 a (by omega) (by omega) (by omega) (by omega)
    have g2 := nT x5 a (by omega) (by omega) (by omega) (by omega)
    have rg := zmp_rg b (T.2.2 x5 a)
    have n0 : ¬ o = o + 1 := by omega
    have ev := j1.2.2.1
    have two : ∀ (v w : Int), v = U.2.2 x5 a → w = U.2.2 x5 (a + 1) → isP (z_wr (z_wr h (o + 1) (x5 * h o 2 + a) v) (o + 1) (x5 * h o 2 + (a + 1)) w) o U (fun r c => r < x5 + 1 ∧ (c = a ∨ c = a + 1)) := by
      intro v w ev ew
      have q := isP_put2 (P' := fun r c => (r < x5 ∧ (c = a ∨ c = a + 1)) ∨ (r = x5 ∧ c = a)) k (r := x5) (c := a) (by omega) (by omega) ev (fun r c b1 b2 b3 b4 p => p)
      have q2 := isP_put2 (P' := fun r c => r < x5 + 1 ∧ (c = a ∨ c = a + 1)) q (r := x5) (c := a + 1) (by omega) (by omega) ew (fun r c b1 b2 b3 b4 p => by omega)
      rwa [w_na n0] at q2
    refine b_X3_split_25 (by omega) ap.1 ⟨by omega, by omega⟩ ⟨by omega, by omega⟩ (fun c => j1.1) (fun c => j1.2.1) (fun c => by rw [ev]; exact g2) (fun c => by rw [ev]; exact g1.2) (fun _ => hb) (fun c => by rw [ev]; show z_in (zmp b (T.2.2 x5 a)); exact ⟨by omega, by omega⟩) (fun _ _ => ap.2.1) (fun _ _ => j2.1) (fun _ _ => j2.2) (fun _ _ => j3.1) (fun _ _ => j3.2) (fun _ _ => ap.2.1) (fun _ _ => j2.1) (fun _ _ => j2.2) (fun _ _ => j3.1) (fun _ _ => j3.2) (fun c => by omega) (fun c c2 => ?_) (fun c c2 => ?_)
    · rw [ev] at c2 ⊢
      have c2 : ¬ zmp b (T.2.2 x5 a) = -1 := c2
      refine ih 1 (x5 + 1) _ (by omega) (by omega) (z_b1 ⟨x5, h5, by omega, c2⟩).symm ((f.w (Or.inr (Or.inl rfl))).w (Or.inr (Or.inl rfl))) (two _ _ ?_ ?_)
      · rw [v1]; exact spA_of g2 g1.2 c2
      · rw [v2]; exact spB_of g2 g1.2 c2
    · rw [ev] at c2 ⊢
      have c2 : zmp b (T.2.2 x5 a) = -1 := Classical.not_not.mp c2
      refine ih x4 (x5 + 1) _ (by omega) (by omega) ?_ ((f.w (Or.inr (Or.inl rfl))).w (Or.inr (Or.inl rfl))) (two _ _ ?_ ?_)
      · rw [e4]
        congr 1
        refine propext ⟨fun ⟨r, q1, q2, q3⟩ => ⟨r, q1, by omega, q3⟩, fun ⟨r, q1, q2, q3⟩ => ⟨r, q1, ?_, q3⟩⟩
        have : ¬ r = x5 := fun e => q3 (by rw [e]; exact c2)
        omega
      · rw [v1, spA, if_pos c2]
      · rw [v2, spB, if_pos c2]
theorem c_split (hd : 4 ≤ d) {i o a b : Int} {T : zTb} (ap : apS G i o) (ki : isC h i T) (oT : okT T) (nT : noA T) (hb : z_in b) (ha : 0 ≤ a) (ha' : a < T.2.1) : z_CY D M_X3_split d [(2, i), (2, o), (0, a), (0, b)] G h (pC G o h (sSplit a b T)) := by
  have sh := oT.1
  have e1 := ki.1; have e2 := ki.2.1
  refine z_begin mo_X3_split rfl (nle rfl) (b_X3_split_0 (by omega) ap.1 ap.2.1 ⟨by omega, by omega⟩ ⟨by omega, by omega⟩ (fun c => ?_) (fun c => ?_))
  · unfold sSplit
    generalize eU : ((T.1, T.2.1 + 1, fun r c => if c < a then T.2.2 r c else if c = a then spA b (T.2.2 r a) else if c = a + 1 then spB b (T.2.2 r a) else T.2.2 r (c - 1)) : zTb) = U
    have u1 : U.1 = T.1 := by rw [← eU]
    have u2 : U.2.1 = T.2.1 + 1 := by rw [← eU]
    rw [e1, e2, ← u1, ← u2]
    refine (l_split25 hd ap ki oT nT hb eU ⟨by omega, by omega, by omega, by omega⟩ ha ha' T.1.toNat 0 0 _ (by omega) (by omega) (z_b0 (fun ⟨r, q1, q2, _⟩ => by omega)).symm frS_new (isP_new.imp fun r c b1 b2 b3 b4 p => by omega)).mono ?_
    rintro out G' h' _ ⟨g1, g2, g3, g4⟩
    rw [u1]
    by_cases q : ∃ r : Int, 0 ≤ r ∧ r < T.1 ∧ ¬ zmp b (T.2.2 r a) = -1
    · rw [zif1 ⟨by omega, q⟩]
      rw [z_b1 q] at g4
      exact ⟨g1, g2, g4, g3⟩
    · rw [zif0 (fun w => q w.2)]
      rw [z_b0 q] at g4
      exact ⟨g1, g2, g4⟩
  · unfold sSplit
    rw [zif0 (fun w => by omega)]
    exact ⟨rfl, frS.rf, rfl⟩
end Stp6
