section Stp7
variable {D : zD} {d : Nat} {G : zG} {h h0 : zH} {Q : zO → zG → zH → Prop}
/-! join -/
theorem l_join22 (hd : 4 ≤ d) {i o a b : Int} {T U : zTb} (ap : apS G i o) (ki : isC h0 i T) (oT : okT T) (nT : noA T) (hb : z_in b) (eU : ((T.1, T.2.1 - 1, fun r c => if c < a then T.2.2 r c else if c = a then zjn b (T.2.2 r a) (T.2.2 r (a + 1)) else T.2.2 r (c + 1)) : zTb) = U) (oU : shT U) (ha : 0 ≤ a) (ha' : a + 1 < T.2.1) : ∀ (n : Nat) (x4 : Int) (h : zH), x4 = T.1 - n → 0 ≤ x4 → (∀ r : Int, 0 ≤ r → r < x4 → zlen (T.2.2 r a) + 1 + zlen (T.2.2 r (a + 1)) ≤ 7) → frS o h0 h → isP h o U (fun r c => r < x4 ∧ c = a) →
    z_Y D M_X3_join d 22 [(0, 2, i), (1, 2, o), (2, 0, a), (3, 0, b), (4, 0, x4)] [] G h (pC G o h0 (zif (∀ r : Int, 0 ≤ r → r < T.1 → zlen (T.2.2 r a) + 1 + zlen (T.2.2 r (a + 1)) ≤ 7) (some U) none)) := by
  have sh := oT.1
  have u1 : U.1 = T.1 := by rw [← eU]
  have u2 : U.2.1 = T.2.1 - 1 := by rw [← eU]
  have v1 : ∀ r : Int, U.2.2 r a = zjn b (T.2.2 r a) (T.2.2 r (a + 1)) := fun r => by rw [← eU]; dsimp only; rw [if_neg (by omega), if_pos rfl]
  have v3 : ∀ r c : Int, c < a → U.2.2 r c = T.2.2 r c := fun r c q => by rw [← eU]; dsimp only; rw [if_pos q]
  have v4 : ∀ r c : Int, a + 1 < c → U.2.2 r (c + -1) = T.2.2 r c := fun r c q => by rw [← eU]; dsimp only; rw [if_neg (by omega), if_neg (by omega), show c + -1 + 1 = c by omega]
  intro n
  induction n with
  | zero =>
    intro x4 h e h4 hl f k
    have k' := isC_fr ap ki f
    have e1 := k'.1; have e2 := k'.2.1
    refine b_X3_join_22 (by omega) ap.1 ⟨by omega, by omega⟩ ⟨by omega, by omega⟩ (fun c => by omega) (fun c => by omega) (fun c => by omega) (fun c => by omega) (fun c => by omega) (fun c => by omega) (fun c => by omega) (fun c => by omega) (fun c => by omega) (fun c => by omega) (fun c => by omega) (fun c => by omega) (fun c => by omega) (fun c => by omega) (fun c => ?_) (fun c => by omega) (fun c => by omega)
    refine z_Kv.of (d2 := d - 1) (by omega) (c_move (by omega) 0 a 0 _ ap ki oT u1 oU (by omega) (by omega) (by omega) (by omega) (fun r c b1 b2 b3 b4 => ?_) f k) ?_
    · rw [Int.add_zero, v3 r c b4]; exact ⟨by omega, rfl⟩
    rintro out G' h1 hl1 ⟨r1, rfl, f1, k1⟩
    refine ⟨r1, b_X3_join_116 ap.1 ?_⟩
    rw [(isC_fr ap ki f1).2.1]
    refine z_Kv.of (d2 := d - 1) (by omega) (c_move (by omega) (a + 2) T.2.1 (-1) _ ap ki oT u1 oU (by omega) (by omega) (by omega) (by omega) (fun r c b1 b2 b3 b4 => ?_) f1 k1) ?_
    · rw [v4 r c (by omega)]; exact ⟨by omega, rfl⟩
    rintro out2 G' h2 hl2 ⟨r2, rfl, f2, k2⟩
    refine ⟨r2, b_X3_join_129 ?_⟩
    rw [zif1 (fun r q1 q2 => hl r q1 (by omega))]
    exact ⟨rfl, f2, rfl, k2.all fun r c b1 b2 b3 b4 => by omega⟩
  | succ n ih =>
    intro x4 h e h4 hl f k
    have k' := isC_fr ap ki f
    have e1 := k'.1; have e2 := k'.2.1
    have j1 := isC_ix k' oT (r := x4) (c := a) (by omega) (by omega) (by omega) (by omega)
    have j3 := isC_ix k' oT (r := x4) (c := a + 1) (by omega) (by omega) (by omega) (by omega)
    have j2 := isP_ix (r := x4) (c := a) k oU (by omega) (by omega) (by omega) (by omega)
    have g1 := oT.2 x4 a (by omega) (by omega) (by omega) (by omega)
    have g2 := nT x4 a (by omega) (by omega) (by omega) (by omega)
    have g3 := oT.2 x4 (a + 1) (by omega) (by omega) (by omega) (by omega)
    have g4 := nT x4 (a + 1) (by omega) (by omega) (by omega) (by omega)
    have ev := j1.2.2.1
    have ew := j3.2.2.1
    have l1 := zlen_nn (T.2.2 x4 a)
    have l2 := zlen_nn (T.2.2 x4 (a + 1))
    have mb := zmb_rg b
    refine b_X3_join_22 (by omega) ap.1 ⟨by omega, by omega⟩ ⟨by omega, by omega⟩ (fun c => j1.1) (fun c => j1.2.1) (fun c => j3.1) (fun c => j3.2.1) (fun c => by rw [ew]; omega) (fun c => by rw [ew]; exact g3.2) (fun c => by rw [ev]; omega) (fun c => by rw [ev]; exact g1.2) (fun c => by rw [ev, ew]; exact ⟨by omega, by omega⟩) (fun _ _ => hb) (fun _ _ => ⟨by omega, by omega⟩) (fun _ _ => ap.2.1) (fun _ _ => j2.1) (fun _ _ => j2.2) (fun c => by omega) (fun c c2 => ?_) (fun c c2 => ?_)
    · rw [ev, ew] at c2 ⊢
      refine ih (x4 + 1) _ (by omega) (by omega) (fun r q1 q2 => ?_) (f.w (Or.inr (Or.inl rfl))) (isP_put2 k ha (by omega) (by rw [v1]; exact zjn_of g2 g1.2 g4 g3.2 c2) fun r c b1 b2 b3 b4 p => by omega)
      by_cases q : r = x4
      · rw [q]; exact c2
      · exact hl r q1 (by omega)
    · rw [ev, ew] at c2
      rw [zif0 (fun w => c2 (w x4 h4 (by omega)))]
      exact ⟨rfl, f, rfl⟩
theorem c_join (hd : 4 ≤ d) {i o a b : Int} {T : zTb} (ap : apS G i o) (ki : isC h i T) (oT : okT T) (nT : noA T) (hb : z_in b) (ha : 0 ≤ a) (ha' : a + 1 < T.2.1) : z_CY D M_X3_join d [(2, i), (2, o), (0, a), (0, b)] G h (pC G o h (sJoin a b T)) := by
  have sh := oT.1
  have e1 := ki.1; have e2 := ki.2.1
  refine z_begin mo_X3_join rfl (nle rfl) (b_X3_join_0 (by omega) ap.1 ap.2.1 ⟨by omega, by omega⟩ ⟨by omega, by omega⟩ (fun c => ?_) (fun c => by omega))
  unfold sJoin
  generalize eU : ((T.1, T.2.1 - 1, fun r c => if c < a then T.2.2 r c else if c = a then zjn b (T.2.2 r a) (T.2.2 r (a + 1)) else T.2.2 r (c + 1)) : zTb) = U
  have u1 : U.1 = T.1 := by rw [← eU]
  have u2 : U.2.1 = T.2.1 - 1 := by rw [← eU]
  have oU : shT U := ⟨by omega, by omega, by omega, by omega⟩
  have k1 := l_join22 (D := D) (h := z_wr (z_wr h o 1 U.1) o 2 U.2.1) hd ap ki oT nT hb eU oU ha ha' T.1.toNat 0 (by omega) (by omega) (fun r q1 q2 => by omega) frS_new (isP_new.imp fun r c b1 b2 b3 b4 p => by omega)
  rw [e1, e2]
  rw [u2, u1] at k1
  exact k1
/-! fold -/
theorem l_fold42 (hd : 3 ≤ d) {i o a x4 w : Int} {T U : zTb} (ap : apS G i o) (ki : isC h0 i T) (oT : okT T) (ew : w = T.2.1 - a) (u1 : U.1 = (T.1 - 1) * w) (u2 : U.2.1 = a + 2) (v1 : ∀ k c : Int, c < a → U.2.2 k c = T.2.2 (1 + k / w) c) (v2 : ∀ k : Int, U.2.2 k a = T.2.2 0 (a + k % w)) (v3 : ∀ k : Int, U.2.2 k (a + 1) = T.2.2 (1 + k / w) (a + k % w)) (oU : shT U) (ha : 1 ≤ a) (ha' : a < T.2.1) (h4 : 1 ≤ x4) (h4' : x4 < T.1)
    (kk : ∀ h, frS o h0 h → isP h o U (fun r _ => r < (x4 + 1 - 1) * w) → z_Y D M_X3_fold d 30 [(0, 2, i), (1, 2, o), (2, 0, a), (3, 0, (x4 + 1 - 1) * w), (4, 0, x4 + 1)] [] G h Q) : ∀ (n : Nat) (x3 x5 : Int) (h : zH), x5 = T.2.1 - n → a ≤ x5 → x3 = (x4 - 1) * w + (x5 - a) → frS o h0 h → isP h o U (fun r _ => r < x3) →
    z_Y D M_X3_fold d 42 [(0, 2, i), (1, 2, o), (2, 0, a), (3, 0, x3), (4, 0, x4), (5, 0, x5)] [] G h Q := by
  have sh := oT.1
  have hw : 0 < w := by omega
  intro n
  induction n with
  | zero =>
    intro x3 x5 h e h5 e3 f k
    have k' := isC_fr ap ki f
    have e1 := k'.1; have e2 := k'.2.1
    have e3' : x3 = (x4 + 1 - 1) * w := by rw [show x4 + 1 - 1 = (x4 - 1) + 1 by omega, Int.add_mul, Int.one_mul]; omega
    refine b_X3_fold_42 hd ap.1 ⟨by omega, by omega⟩ ⟨by omega, by omega⟩ (fun c => by omega) (fun c => by omega) (fun c => by omega) (fun c => by omega) (fun c => by omega) (fun c => by omega) (fun c => by omega) (fun c => by omega) (fun c => by omega) (fun c => by omega) (fun c => by omega) (fun c => by omega) (fun c => by omega) (fun c => by omega) (fun c => by omega) (fun c => ?_) (fun c => by omega)
    rw [e3'] at k ⊢
    exact kk h f k
  | succ n ih =>
    intro x3 x5 h e h5 e3 f k
    have k' := isC_fr ap ki f
    have e1 := k'.1; have e2 := k'.2.1
    have e4 := k.2.1
    have rr := ix_lt (R := T.1 - 1) (C := w) (r := x4 - 1) (c := x5 - a) (by omega) (by omega) (by omega) (by omega)
    have r0 : 0 ≤ x3 := by omega
    have r1 : x3 < U.1 := by rw [u1]; omega
    have dv : x3 / w = x4 - 1 := by rw [e3, Int.add_comm, Int.add_mul_ediv_right _ _ (by omega), Int.ediv_eq_zero_of_lt (by omega) (by omega)]; omega
    have md : x3 % w = x5 - a := by rw [e3, Int.add_comm, Int.add_mul_emod_self_right, Int.emod_eq_of_lt (by omega) (by omega)]
    have j0 := isC_ix k' oT (r := 0) (c := x5) (by omega) (by omega) (by omega) (by omega)
    have j1 := isC_ix k' oT (r := x4) (c := x5) (by omega) (by omega) (by omega) (by omega)
    have ja := isC_ix k' oT (r := x4) (c := 0) (by omega) (by omega) (by omega) (by omega)
    have jb := isC_ix k' oT (r := x4) (c := a) (by omega) (by omega) (by omega) (by omega)
    have j2 := isP_ix (r := x3) (c := a) k oU (by omega) (by omega) (by omega) (by omega)
    have j3 := isP_ix (r := x3) (c := a + 1) k oU (by omega) (by omega) (by omega) (by omega)
    have jc := isP_ix (r := x3) (c := 0) k oU (by omega) (by omega) (by omega) (by omega)
    have n1 : ¬ i + 1 = o + 1 := by have := ap.2.2.1; omega
    have n0 : ¬ o = o + 1 := by omega
    refine b_X3_fold_42 hd ap.1 ⟨by omega, by omega⟩ ⟨by omega, by omega⟩ (fun _ => ap.2.1) (fun _ => ap.2.2.1) (fun c => by omega) (fun c => by omega) (fun c => by omega) (fun c => by omega) (fun c => by omega) (fun c => j0.1) (fun c => j0.2.1) (fun c => j2.1) (fun c => j2.2) (fun c => j1.1) (fun c => j1.2.1) (fun c => j3.1) (fun c => j3.2) (fun c => by omega) (fun c => ?_)
    refine ih (x3 + 1) (x5 + 1) _ (by omega) (by omega) (by omega) (((f.c (Or.inr (Or.inl rfl))).w (Or.inr (Or.inl rfl))).w (Or.inr (Or.inl rfl))) ?_
    rw [c_na n1, c_na n1, j0.2.2.1, j1.2.2.1]
    have q0 := isP_cp k k' (r := x3) (q := x4) (n := a) (by omega) (by omega) (by omega) (fun c b1 b2 => by rw [v1 _ _ b2, dv, show 1 + (x4 - 1) = x4 by omega])
    rw [← e2, ← e4] at q0
    have q1 := isP_put2 (P' := fun r c => r < x3 ∨ (r = x3 ∧ c < a + 1)) q0 (r := x3) (c := a) (v := T.2.2 0 x5) (by omega) (by omega) (by rw [v2, md, show a + (x5 - a) = x5 by omega]) (fun r c b1 b2 b3 b4 p => by omega)
    have q2 := isP_put2 (P' := fun r _ => r < x3 + 1) q1 (r := x3) (c := a + 1) (v := T.2.2 x4 x5) (by omega) (by omega) (by rw [v3, dv, md, show a + (x5 - a) = x5 by omega, show 1 + (x4 - 1) = x4 by omega]) (fun r c b1 b2 b3 b4 p => by omega)
    rw [w_na n0, c_na (x := o) n0] at q2
    exact q2
theorem l_fold30 (hd : 3 ≤ d) {i o a w : Int} {T U : zTb} (ap : apS G i o) (ki : isC h0 i T) (oT : okT T) (ew : w = T.2.1 - a) (u1 : U.1 = (T.1 - 1) * w) (u2 : U.2.1 = a + 2) (v1 : ∀ k c : Int, c < a → U.2.2 k c = T.2.2 (1 + k / w) c) (v2 : ∀ k : Int, U.2.2 k a = T.2.2 0 (a + k % w)) (v3 : ∀ k : Int, U.2.2 k (a + 1) = T.2.2 (1 + k / w) (a + k % w)) (oU : shT U) (ha : 1 ≤ a) (ha' : a < T.2.1) : ∀ (n : Nat) (x4 : Int) (h : zH), x4 = T.1 - n → 1 ≤ x4 → frS o h0 h → isP h o U (fun r _ => r < (x4 - 1) * w) →
    z_Y D M_X3_fold d 30 [(0, 2, i), (1, 2, o), (2, 0, a), (3, 0, (x4 - 1) * w), (4, 0, x4)] [] G h (pC G o h0 (some U)) := by
  have sh := oT.1
  intro n
  induction n with
  | zero =>
    intro x4 h e h4 f k
    have k' := isC_fr ap ki f
    have e1 := k'.1; have e2 := k'.2.1
    exact b_X3_fold_30 ap.1 ⟨by omega, by omega⟩ ⟨by omega, by omega⟩ (fun _ => ⟨rfl, f, rfl, k.all fun r c b1 b2 b3 b4 => by rw [u1] at b2; rw [show x4 = T.1 by omega]; exact b2⟩) (fun c => by omega)
  | succ n ih =>
    intro x4 h e h4 f k
    have k' := isC_fr ap ki f
    have e1 := k'.1; have e2 := k'.2.1
    refine b_X3_fold_30 ap.1 ⟨by omega, by omega⟩ ⟨by omega, by omega⟩ (fun c => by omega) (fun c => l_fold42 hd ap ki oT ew u1 u2 v1 v2 v3 oU ha ha' h4 (by omega) ?_ w.toNat _ a h (by omega) (by omega) (by omega) f k)
    intro h' f' k'
    exact ih (x4 + 1) h' (by omega) (by omega) f' k'
theorem c_fold (hd : 3 ≤ d) {i o a : Int} {T : zTb} (ap : apS G i o) (ki : isC h i T) (oT : okT T) (ha : 1 ≤ a) (ha' : a < T.2.1) : z_CY D M_X3_fold d [(2, i), (2, o), (0, a)] G h (pC G o h (sFold a T)) := by
  have sh := oT.1
  have e1 := ki.1; have e2 := ki.2.1
  have p0 : 0 ≤ (T.1 - 1) * (T.2.1 - a) := Int.mul_nonneg (by omega) (by omega)
  have p1 : (T.1 - 1) * (T.2.1 - a) ≤ 11 * (T.2.1 - a) := Int.mul_le_mul_of_nonneg_right (by omega) (by omega)
  refine z_begin mo_X3_fold rfl (nle rfl) (b_X3_fold_0 (by omega) ap.1 ap.2.1 (by rw [e1, e2]; exact ⟨by omega, by omega⟩) ⟨by omega, by omega⟩ (fun c => ?_) (fun c => ?_))
  · rw [e1, e2] at c ⊢
    unfold sFold
    have t2 : 2 ≤ T.1 := by
      rcases Int.lt_or_le 1 T.1 with q | q
      · omega
      · rw [show T.1 - 1 = 0 by omega, Int.zero_mul] at c; omega
    rw [zif1 ⟨t2, by omega, by omega⟩]
    generalize eU : (((T.1 - 1) * (T.2.1 - a), a + 2, fun k c => if c < a then T.2.2 (1 + k / (T.2.1 - a)) c else if c = a then T.2.2 0 (a + k % (T.2.1 - a)) else T.2.2 (1 + k / (T.2.1 - a)) (a + k % (T.2.1 - a))) : zTb) = U
    have u1 : U.1 = (T.1 - 1) * (T.2.1 - a) := by rw [← eU]
    have u2 : U.2.1 = a + 2 := by rw [← eU]
    have k1 := l_fold30 (D := D) (h := z_wr (z_wr h o 1 U.1) o 2 U.2.1) hd ap ki oT rfl u1 u2 (fun k c q => by rw [← eU]; dsimp only; rw [if_pos q]) (fun k => by rw [← eU]; dsimp only; rw [if_neg (by omega), if_pos rfl]) (fun k => by rw [← eU]; dsimp only; rw [if_neg (by omega), if_neg (by omega)]) ⟨by omega, by omega, by omega, by omega⟩ ha ha' (T.1 - 1).toNat 1 (by omega) (by omega) frS_new (isP_new.imp fun r c b1 b2 b3 b4 p => by rw [show (1 : Int) - 1 = 0 by omega, Int.zero_mul] at p; omega)
    rw [show (1 : Int) - 1 = 0 by omega, Int.zero_mul, u1, u2] at k1
    exact k1
  · rw [e1, e2] at c
    unfold sFold
    rw [zif0 (fun w => c ⟨⟨?_, w.2.1⟩, by omega, by omega⟩)]
    · exact ⟨rfl, frS.rf, rfl⟩
    · have := Int.mul_pos (show 0 < T.1 - 1 by omega) (show 0 < T.2.1 - a by omega)
      omega
end Stp7
