section Stp4
variable {D : zD} {d : Nat} {G : zG} {h h0 : zH} {Q : zO → zG → zH → Prop}
/-! become -/
theorem isC_bec {i o : Int} {T : zTb} (ap : apS G i o) (ki : isC h i T) (oT : okT T) : isC (z_cp (z_wr (z_wr h o 1 T.1) o 2 T.2.1) (i + 1) 0 (o + 1) 0 (T.1 * T.2.1)) o T := by
  have n0 : ¬ o = o + 1 := by omega
  obtain ⟨-, -, a1, a2, a3, -⟩ := ap
  refine ⟨by rw [c_na n0, w_nj (by omega), w_s], by rw [c_na n0, w_s], fun r c b1 b2 b3 b4 => ?_⟩
  have ix := ix_lt b1 b2 b3 b4
  unfold z_cp
  rw [if_pos ⟨rfl, by omega, by omega⟩, w_na a3, w_na a3, show (0 : Int) + (r * T.2.1 + c - 0) = r * T.2.1 + c by omega]
  exact ki.2.2 r c b1 b2 b3 b4
theorem frS_bec {i o : Int} {T : zTb} : frS o h (z_cp (z_wr (z_wr h o 1 T.1) o 2 T.2.1) (i + 1) 0 (o + 1) 0 (T.1 * T.2.1)) := frS_new.c (Or.inr (Or.inl rfl))
/-- the same cells, seen as another table's -/
theorem isP.to {t : Int} {T U : zTb} {P P' : Int → Int → Prop} (k : isP h t T P) (u1 : U.1 = T.1) (u2 : U.2.1 = T.2.1) (hp : ∀ r c : Int, 0 ≤ r → r < T.1 → 0 ≤ c → c < T.2.1 → P' r c → P r c ∧ U.2.2 r c = T.2.2 r c) : isP h t U P' := by
  refine ⟨by rw [u1]; exact k.1, by rw [u2]; exact k.2.1, fun r c b1 b2 b3 b4 p => ?_⟩
  rw [u1] at b2
  rw [u2] at b4 ⊢
  obtain ⟨p1, p2⟩ := hp r c b1 b2 b3 b4 p
  rw [p2]
  exact k.2.2 r c b1 b2 b3 b4 p1
/-! swap -/
theorem l_swap7 (hd : 2 ≤ d) {i o a : Int} {T U : zTb} (ap : apS G i o) (ki : isC h0 i T) (oT : okT T) (u1 : U.1 = T.1) (u2 : U.2.1 = T.2.1) (v1 : ∀ r : Int, T.2.2 r (a + 1) = U.2.2 r a) (v2 : ∀ r : Int, T.2.2 r a = U.2.2 r (a + 1)) (oU : shT U) (ha : 0 ≤ a) (ha' : a + 1 < T.2.1) : ∀ (n : Nat) (x3 : Int) (h : zH), x3 = T.1 - n → 0 ≤ x3 → frS o h0 h → isP h o U (fun r c => r < x3 ∨ (¬ c = a ∧ ¬ c = a + 1)) →
    z_Y D M_X3_swap d 7 [(0, 2, i), (1, 2, o), (2, 0, a), (3, 0, x3)] [] G h (pC G o h0 (some U)) := by
  have sh := oT.1
  intro n
  induction n with
  | zero =>
    intro x3 h e h3 f k
    have k' := isC_fr ap ki f
    have e1 := k'.1; have e2 := k'.2.1
    exact b_X3_swap_7 hd ap.1 ⟨by omega, by omega⟩ ⟨by omega, by omega⟩ (fun c => by omega) (fun c => by omega) (fun _ => ap.2.1) (fun c => by omega) (fun c => by omega) (fun _ => ap.2.2.1) (fun c => by omega) (fun c => by omega) (fun c => by omega) (fun c => by omega) (fun _ => ⟨rfl, f, rfl, k.all fun r c b1 b2 b3 b4 => by omega⟩) (fun c => by omega)
  | succ n ih =>
    intro x3 h e h3 f k
    have k' := isC_fr ap ki f
    have e1 := k'.1; have e2 := k'.2.1
    have j1 := isC_ix k' oT (r := x3) (c := a) (by omega) (by omega) (by omega) (by omega)
    have j2 := isC_ix k' oT (r := x3) (c := a + 1) (by omega) (by omega) (by omega) (by omega)
    have j3 := isP_ix (r := x3) (c := a) k oU (by omega) (by omega) (by omega) (by omega)
    have j4 := isP_ix (r := x3) (c := a + 1) k oU (by omega) (by omega) (by omega) (by omega)
    refine b_X3_swap_7 hd ap.1 ⟨by omega, by omega⟩ ⟨by omega, by omega⟩ (fun c => j2.1) (fun c => j2.2.1) (fun _ => ap.2.1) (fun c => j3.1) (fun c => j3.2) (fun _ => ap.2.2.1) (fun c => j1.1) (fun c => j1.2.1) (fun c => j4.1) (fun c => j4.2) (fun c => by omega) (fun c => ih (x3 + 1) _ (by omega) (by omega) ((f.w (Or.inr (Or.inl rfl))).w (Or.inr (Or.inl rfl))) ?_)
    have q := isP_put2 (P' := fun r c => r < x3 ∨ (¬ c = a ∧ ¬ c = a + 1) ∨ (r = x3 ∧ c = a)) k (r := x3) (c := a) (by omega) (by omega) (j2.2.2.1.trans (v1 x3)) (fun r c b1 b2 b3 b4 p => by omega)
    have q2 := isP_put2 (P' := fun r c => r < x3 + 1 ∨ (¬ c = a ∧ ¬ c = a + 1)) q (r := x3) (c := a + 1) (by omega) (by omega) (j1.2.2.1.trans (v2 x3)) (fun r c b1 b2 b3 b4 p => by omega)
    rw [w_na (show ¬ o = o + 1 by omega)] at q2
    exact q2
theorem c_swap (hd : 2 ≤ d) {i o a : Int} {T : zTb} (ap : apS G i o) (ki : isC h i T) (oT : okT T) (ha : 0 ≤ a) (ha' : a + 1 < T.2.1) : z_CY D M_X3_swap d [(2, i), (2, o), (0, a)] G h (pC G o h (sSwap a T)) := by
  have sh := oT.1
  have rc := rc_le sh.1 sh.2.1 sh.2.2.1 sh.2.2.2
  have e1 := ki.1; have e2 := ki.2.1
  unfold sSwap
  generalize eU : ((T.1, T.2.1, fun r c => if c = a then T.2.2 r (a + 1) else if c = a + 1 then T.2.2 r a else T.2.2 r c) : zTb) = U
  have u1 : U.1 = T.1 := by rw [← eU]
  have u2 : U.2.1 = T.2.1 := by rw [← eU]
  have k0 := (isC_bec ap ki oT).P (fun _ _ => True)
  refine z_begin mo_X3_swap rfl (nle rfl) (b_X3_swap_0 hd ap.2.1 ap.1 (by rw [e1, e2]; omega) (by rw [e1, e2]; omega) ?_)
  rw [e1, e2]
  refine l_swap7 hd ap ki oT u1 u2 (fun r => ?_) (fun r => ?_) ⟨by omega, by omega, by omega, by omega⟩ ha ha' T.1.toNat 0 _ (by omega) (by omega) frS_bec (k0.to u1 u2 fun r c b1 b2 b3 b4 p => ⟨trivial, ?_⟩)
  · rw [← eU]; simp
  · rw [← eU]; dsimp only; rw [if_neg (by omega), if_pos rfl]
  · rw [← eU]; dsimp only; rw [if_neg (by omega), if_neg (by omega)]
/-! fill -/
theorem zfl_s {f : Int → Int} {r : Int} (h : 1 ≤ r) : zfl f r.toNat = if f r = 0 then zfl f (r - 1).toNat else f r := by
  have e : r.toNat = (r - 1).toNat + 1 := by omega
  rw [e, zfl]
  have e2 : (((r - 1).toNat : Nat) : Int) + 1 = r := by omega
  rw [e2]
theorem l_fill10 (hd : 2 ≤ d) {i o a : Int} {T U : zTb} (ap : apS G i o) (ki : isC h0 i T) (oT : okT T) (u1 : U.1 = T.1) (u2 : U.2.1 = T.2.1) (v1 : ∀ r : Int, U.2.2 r a = zfl (fun r => T.2.2 r a) r.toNat) (v2 : ∀ r c : Int, ¬ c = a → U.2.2 r c = T.2.2 r c) (oU : okT U) (ha : 0 ≤ a) (ha' : a < T.2.1) : ∀ (n : Nat) (x3 x4 : Int) (h : zH), x4 = T.1 - n → 1 ≤ x4 → x3 = z_b (∃ r : Int, 1 ≤ r ∧ r < x4 ∧ T.2.2 r a = 0 ∧ ¬ zfl (fun r => T.2.2 r a) (r - 1).toNat = 0) → frS o h0 h → isP h o U (fun r c => r < x4 ∨ ¬ c = a) → isP h o T (fun r _ => x4 ≤ r) →
    z_Y D M_X3_fill d 10 [(0, 2, i), (1, 2, o), (2, 0, a), (3, 0, x3), (4, 0, x4)] [] G h (fun out G' h' => G' = G ∧ frS o h0 h' ∧ isC h' o U ∧ out = .inl (some (0, z_b (∃ r : Int, 1 ≤ r ∧ r < T.1 ∧ T.2.2 r a = 0 ∧ ¬ zfl (fun r => T.2.2 r a) (r - 1).toNat = 0)))) := by
  have sh := oT.1
  intro n
  induction n with
  | zero =>
    intro x3 x4 h e h4 e3 f k1 k2
    have k' := isC_fr ap ki f
    have e1 := k'.1; have e2 := k'.2.1
    exact b_X3_fill_10 hd ap.1 ⟨by omega, by omega⟩ ⟨by omega, by omega⟩ (fun _ => by rw [e3]; exact z_b01 _) (fun _ => ap.2.1) (fun c => by omega) (fun c => by omega) (fun c => by omega) (fun c => by omega) (fun c => by omega) (fun c => by omega) (fun _ => ⟨rfl, f, k1.all fun r c b1 b2 b3 b4 => by omega, by rw [e3, show x4 = T.1 by omega]⟩) (fun c => by omega) (fun c => by omega) (fun c => by omega)
  | succ n ih =>
    intro x3 x4 h e h4 e3 f k1 k2
    have k' := isC_fr ap ki f
    have e1 := k'.1; have e2 := k'.2.1
    have oU' : shT U := oU.1
    have j1 := isP_ix (r := x4 - 1) (c := a) k1 oU' (by omega) (by omega) (by omega) (by omega)
    have j2 := isP_ix (r := x4) (c := a) k1 oU' (by omega) (by omega) (by omega) (by omega)
    have w1 := k1.2.2 (x4 - 1) a (by omega) (by omega) (by omega) (by omega) (Or.inl (by omega))
    have w2 := k2.2.2 x4 a (by omega) (by omega) (by omega) (by omega) (by omega)
    have g1 := oU.2 (x4 - 1) a (by omega) (by omega) (by omega) (by omega)
    have g2 := oT.2 x4 a (by omega) (by omega) (by omega) (by omega)
    rw [← k1.2.1] at w1
    rw [← k2.2.1] at w2
    have zs := zfl_s (f := fun r => T.2.2 r a) h4
    have up : ∀ p : Prop, (p ↔ (T.2.2 x4 a = 0 ∧ ¬ zfl (fun r => T.2.2 r a) (x4 - 1).toNat = 0)) → ¬ p → x3 = z_b (∃ r : Int, 1 ≤ r ∧ r < x4 + 1 ∧ T.2.2 r a = 0 ∧ ¬ zfl (fun r => T.2.2 r a) (r - 1).toNat = 0) := by
      intro p hp np
      rw [e3]
      congr 1
      refine propext ⟨fun ⟨r, q1, q2, q3⟩ => ⟨r, q1, by omega, q3⟩, fun ⟨r, q1, q2, q3⟩ => ⟨r, q1, ?_, q3⟩⟩
      have : ¬ r = x4 := fun e => np (hp.2 (by rw [← e]; exact q3))
      omega
    refine b_X3_fill_10 hd ap.1 ⟨by omega, by omega⟩ ⟨by omega, by omega⟩ (fun c => by omega) (fun _ => ap.2.1) (fun c => j1.1) (fun c => j1.2) (fun c => j2.1) (fun c => j2.2) (fun c => by rw [w2]; exact ⟨by omega, by omega⟩) (fun c c2 => by rw [w1]; exact ⟨by omega, by omega⟩) (fun c => by omega) (fun c c2 => ?_) (fun c c2 c3 => ?_) (fun c c2 c3 => ?_)
    · rw [w2] at c2
      refine ih x3 (x4 + 1) h (by omega) (by omega) (up _ Iff.rfl (fun q => c2 q.1)) f ⟨k1.1, k1.2.1, fun r c b1 b2 b3 b4 p => ?_⟩ (k2.imp fun r c b1 b2 b3 b4 p => by omega)
      by_cases q : r = x4 ∧ c = a
      · obtain ⟨rfl, rfl⟩ := q
        rw [v1, zs, if_neg c2, ← w2, k1.2.1]
      · exact k1.2.2 r c b1 b2 b3 b4 (by omega)
    · rw [w2] at c2
      have c2 := Classical.not_not.mp c2
      rw [w1, v1] at c3
      refine ih x3 (x4 + 1) h (by omega) (by omega) (up _ Iff.rfl (fun q => q.2 c3)) f ⟨k1.1, k1.2.1, fun r c b1 b2 b3 b4 p => ?_⟩ (k2.imp fun r c b1 b2 b3 b4 p => by omega)
      by_cases q : r = x4 ∧ c = a
      · obtain ⟨rfl, rfl⟩ := q
        rw [v1, zs, if_pos c2, c3, ← c2, ← w2, k1.2.1]
      · exact k1.2.2 r c b1 b2 b3 b4 (by omega)
    · rw [w2] at c2
      have c2 := Classical.not_not.mp c2
      have c3' := c3
      rw [w1, v1] at c3'
      refine ih 1 (x4 + 1) _ (by omega) (by omega) (z_b1 ⟨x4, h4, by omega, c2, c3'⟩).symm (f.w (Or.inr (Or.inl rfl))) ?_ ?_
      · refine isP_put2 k1 ha (by omega) ?_ fun r c b1 b2 b3 b4 p => by omega
        rw [w1, v1, v1, zs, if_pos c2]
      · have n0 : ¬ o = o + 1 := by omega
        refine ⟨by rw [w_na n0]; exact k2.1, by rw [w_na n0]; exact k2.2.1, fun r c b1 b2 b3 b4 p => ?_⟩
        rw [k2.2.1, w_nj (fun q => by have := (ix_inj b3 b4 ha ha' q).1; omega)]
        exact k2.2.2 r c b1 b2 b3 b4 (by omega)
theorem zfl_all {f : Int → Int} {P : Int → Prop} : ∀ (n : Nat), (∀ r : Int, 0 ≤ r → r ≤ n → P (f r)) → P (zfl f n) := by
  intro n
  induction n with
  | zero => intro k; exact k 0 (by omega) (by omega)
  | succ n ih =>
    intro k
    rw [zfl]
    split
    · exact ih fun r a b => k r a (by omega)
    · exact k (n + 1) (by omega) (by omega)
theorem c_fill (hd : 2 ≤ d) {i o a : Int} {T : zTb} (ap : apS G i o) (ki : isC h i T) (oT : okT T) (ha : 0 ≤ a) (ha' : a < T.2.1) : z_CY D M_X3_fill d [(2, i), (2, o), (0, a)] G h (pC G o h (sFill a T)) := by
  have sh := oT.1
  have rc := rc_le sh.1 sh.2.1 sh.2.2.1 sh.2.2.2
  have e1 := ki.1; have e2 := ki.2.1
  unfold sFill
  generalize eU : ((T.1, T.2.1, fun r c => if c = a then zfl (fun r => T.2.2 r a) r.toNat else T.2.2 r c) : zTb) = U
  have u1 : U.1 = T.1 := by rw [← eU]
  have u2 : U.2.1 = T.2.1 := by rw [← eU]
  have v1 : ∀ r : Int, U.2.2 r a = zfl (fun r => T.2.2 r a) r.toNat := fun r => by rw [← eU]; simp
  have v2 : ∀ r c : Int, ¬ c = a → U.2.2 r c = T.2.2 r c := fun r c n => by rw [← eU]; dsimp only; rw [if_neg n]
  have oU : okT U := by
    refine ⟨by rw [u1, u2]; exact sh, fun r c b1 b2 b3 b4 => ?_⟩
    by_cases q : c = a
    · rw [q, v1]
      refine zfl_all (P := fun x => -1 ≤ x ∧ x < 72057594037927936) r.toNat fun x y1 y2 => oT.2 x a y1 (by omega) ha ha'
    · rw [v2 r c q]; exact oT.2 r c b1 (by omega) b3 (by omega)
  have k0 := (isC_bec ap ki oT).P (fun _ _ => True)
  refine z_begin mo_X3_fill rfl (nle rfl) (b_X3_fill_0 hd ap.2.1 ap.1 (by rw [e1, e2]; omega) (by rw [e1, e2]; omega) ?_)
  rw [e1, e2]
  refine (l_fill10 hd ap ki oT u1 u2 v1 v2 oU ha ha' (T.1 - 1).toNat 0 1 _ (by omega) (by omega) (z_b0 (fun ⟨r, q1, q2, _⟩ => by omega)).symm frS_bec (k0.to u1 u2 fun r c b1 b2 b3 b4 p => ⟨trivial, ?_⟩) (k0.imp fun _ _ _ _ _ _ _ => trivial)).mono ?_
  · by_cases q : c = a
    · have : r = 0 := by omega
      rw [q, v1, this]; rfl
    · exact v2 r c q
  · rintro out G' h' _ ⟨g1, g2, g3, g4⟩
    by_cases q : ∃ r : Int, 1 ≤ r ∧ r < T.1 ∧ T.2.2 r a = 0 ∧ ¬ zfl (fun r => T.2.2 r a) (r - 1).toNat = 0
    · rw [zif1 q]
      rw [z_b1 q] at g4
      exact ⟨g1, g2, g4, g3⟩
    · rw [zif0 q]
      rw [z_b0 q] at g4
      exact ⟨g1, g2, g4⟩
end Stp4
