theorem zsm_c {w w' : Int → Int} {p p' : Int → Prop} : ∀ n : Nat, (∀ s : Int, 0 ≤ s → s < n → (p s ↔ p' s) ∧ w s = w' s) → zsm w p n = zsm w' p' n
  | 0, _ => rfl
  | n + 1, k => by
    have k1 := k n (by omega) (by omega)
    rw [zsm, zsm, zsm_c n fun s a b => k s a (by omega)]
    by_cases c : p n
    · rw [zif1 c, zif1 (k1.1.1 c), k1.2]
    · rw [zif0 c, zif0 (fun z => c (k1.1.2 z))]
theorem zsm_1 {p : Int → Prop} : ∀ n : Nat, 0 ≤ zsm (fun _ => 1) p n ∧ zsm (fun _ => 1) p n ≤ n
  | 0 => by simp [zsm]
  | n + 1 => by
    have := zsm_1 (p := p) n
    rw [zsm]
    by_cases c : p n
    · rw [zif1 c]; omega
    · rw [zif0 c]; omega
/-- a group's amount, by its first row -/
theorem zam_q {T : zTb} {a q : Int} {w : Int → Int} (q0 : 0 ≤ q) (qF : zF T a (a + 1) q) : zam T a w (zct (zF T a (a + 1)) q.toNat) = zsm w (fun s => T.2.2 s a = T.2.2 q a) T.1.toNat := by
  refine zsm_c _ fun s s0 s1 => ⟨?_, rfl⟩
  rw [zgi_iff s0 q0 qF]
  exact zag_1
section Mst17
variable {D : zD} {d : Nat} {G : zG} {h h0 h1 : zH} {Q : zO → zG → zH → Prop}
/-! counts -/
theorem l_counts4 (hd : 4 ≤ d) {k a : Int} {T : zTb} (m : mS h k T) (oT : okT T) (ha : 0 ≤ a) (ha' : a < T.2.1)
    (kk : z_Kv D M_X13_shape d [(2, 88), (0, 10), (0, zct (zF T a (a + 1)) T.1.toNat), (0, 2)] G h (fun G' h' => z_Y D M_X13_counts d 44 [(0, 2, 88), (1, 0, a)] [] G' h' Q)) : ∀ (n : Nat) (x : Int), x = T.1 - n → 0 ≤ x →
    z_Y D M_X13_counts d 4 [(0, 2, 88), (1, 0, a), (2, 0, zct (zF T a (a + 1)) x.toNat), (3, 0, x)] [] G h Q := by
  have sh := oT.1
  have e4 := m.2.1
  intro n
  induction n with
  | zero =>
    intro x e x0
    rw [show x = T.1 by omega]
    exact b_X13_counts_4 ⟨by omega, by omega⟩ ⟨by omega, by omega⟩ (fun _ => kk) (fun c => by omega)
  | succ n ih =>
    intro x e x0
    have ss := zct_s (p := zF T a (a + 1)) x0
    refine b_X13_counts_4 ⟨by omega, by omega⟩ ⟨by omega, by omega⟩ (fun c => by omega) (fun _ => ?_)
    refine z_Ki.of (d2 := d - 1) (by omega) (a_X13_firstName (by omega) m oT x0 (by omega) ha ha') ?_
    rintro out G' h1 hl1 ⟨r1, rfl, rfl⟩
    obtain ⟨s, ⟨s0, s1⟩, s2, s3, s4⟩ := zF_of (T := T) (f := a) (t := a + 1) x0
    have zz := zls_F (T := T) (f := a) (t := a + 1) x0
    have q := ih (x + 1) (by omega) (by omega)
    refine ⟨_, r1, b_X13_counts_19 (by rw [s4]; exact ⟨by omega, by omega⟩) ⟨by omega, by omega⟩ (fun c => b_X13_counts_28 ?_) (fun c => b_X13_counts_28 ?_)⟩
    · rw [z_b0 (fun w => c (zz.2 w))] at ss
      rw [ss] at q; exact q
    · rw [z_b1 (zz.1 (Classical.not_not.mp c))] at ss
      rw [ss] at q; exact q
theorem l_counts79 (hd : 3 ≤ d) {k a x3 x4 : Int} {T : zTb} (m : mS h k T) (oT : okT T) (ha : 0 ≤ a) (ha' : a < T.2.1) (h3 : 0 ≤ x3) (h3' : x3 < 12) (h4 : 0 ≤ x4) (h4' : x4 < T.1)
    (kk : z_Y D M_X13_counts d 49 [(0, 2, 88), (1, 0, a), (3, 0, x3 + 1), (4, 0, x4 + 1)] [] G (z_wr (z_wr h 91 (72 * 10 + 6 * x3 + 0) (T.2.2 x4 a)) 91 (72 * 10 + 6 * x3 + 1) (ztx 6 (zsm (fun _ => 1) (fun s => T.2.2 s a = T.2.2 x4 a) T.1.toNat))) Q) : ∀ (n : Nat) (x : Int), x = T.1 - n → 0 ≤ x →
    z_Y D M_X13_counts d 79 [(0, 2, 88), (1, 0, a), (3, 0, x3), (4, 0, x4), (5, 0, zsm (fun _ => 1) (fun s => T.2.2 s a = T.2.2 x4 a) x.toNat), (6, 0, x)] [] G h Q := by
  have sh := oT.1
  have e4 := m.2.1
  have j4 := m.at oT h4 h4' ha ha'
  have ev := j4.2.2.1
  intro n
  induction n with
  | zero =>
    intro x e x0
    have rg := zsm_1 (p := fun s => T.2.2 s a = T.2.2 x4 a) T.1.toNat
    rw [show x = T.1 by omega]
    refine b_X13_counts_79 hd ⟨by omega, by omega⟩ ⟨by omega, by omega⟩ (fun _ => j4.1) (fun _ => j4.2.1) (fun _ => by omega) (fun _ => by omega) (fun _ => by omega) (fun _ => by omega) (fun _ => by omega) (fun _ => by omega) (fun c => by omega) (fun c => by omega) (fun c => by omega) (fun c => by omega) (fun c => by omega) (fun c => by omega) (fun _ => ?_) (fun c => by omega) (fun c => by omega)
    rw [ev]
    exact kk
  | succ n ih =>
    intro x e x0
    have j1 := m.at oT x0 (show x < T.1 by omega) ha ha'
    have ss := zsm_s (w := fun _ => 1) (p := fun s => T.2.2 s a = T.2.2 x4 a) x0
    have q := ih (x + 1) (by omega) (by omega)
    refine b_X13_counts_79 hd ⟨by omega, by omega⟩ ⟨by omega, by omega⟩ (fun c => by omega) (fun c => by omega) (fun c => by omega) (fun c => by omega) (fun c => by omega) (fun c => by omega) (fun c => by omega) (fun c => by omega) (fun _ => j1.1) (fun _ => j1.2.1) (fun _ => j4.1) (fun _ => j4.2.1) (fun _ => j1.2.2.2) (fun _ => j4.2.2.2) (fun c => by omega) (fun _ c => b_X13_counts_113 ?_) (fun _ c => b_X13_counts_113 ?_)
    · rw [j1.2.2.1, ev] at c
      rw [zif0 c] at ss
      rw [ss] at q; exact q
    · rw [j1.2.2.1, ev] at c
      rw [zif1 (Classical.not_not.mp c)] at ss
      rw [ss] at q; exact q
/-- the two cells of a group's row -/
theorem isN_am {x3 x4 a : Int} {w : Int → Int} {T : zTb} (oT : okT T) (h4 : 0 ≤ x4) (h4' : x4 < T.1) (e3 : x3 = zct (zF T a (a + 1)) x4.toNat) (qF : zF T a (a + 1) x4) (k : isN h 10 (sAmU a w T) (fun r c => ouT (sAmU a w T) r c ∨ r < x3)) : isN (z_wr (z_wr h 91 (72 * 10 + 6 * x3 + 0) (T.2.2 x4 a)) 91 (72 * 10 + 6 * x3 + 1) (ztx 6 (zsm w (fun s => T.2.2 s a = T.2.2 x4 a) T.1.toNat))) 10 (sAmU a w T) (fun r c => ouT (sAmU a w T) r c ∨ r < x3 + 1) := by
  have lt := zct_lt h4 h4' qF
  have rg := zct_r (p := zF T a (a + 1)) h4
  have u1 : (sAmU a w T).1 = zct (zF T a (a + 1)) T.1.toNat := rfl
  have u2 : (sAmU a w T).2.1 = 2 := rfl
  refine isN_put (P := fun r c => ouT (sAmU a w T) r c ∨ r < x3 ∨ (r = x3 ∧ c = 0)) (isN_put k (by omega) (by omega) (by omega) (by omega) (by omega) ?_ fun r c b1 b2 b3 b4 p => ?_) (by omega) (by omega) (by omega) (by omega) (by omega) ?_ fun r c b1 b2 b3 b4 p => ?_
  · show _ = T.2.2 (zse (zF T a (a + 1)) T.1.toNat x3) a
    rw [e3, zse_q h4 h4' qF]
  · rcases p with p | p | p
    · exact Or.inl (Or.inl p)
    · exact Or.inl (Or.inr p)
    · exact Or.inr p
  · show _ = ztx 6 (zam T a w x3)
    rw [e3, zam_q h4 qF]
  · by_cases z : r < (sAmU a w T).1 ∧ c < (sAmU a w T).2.1
    · rcases p with p | p
      · exact absurd z p
      · by_cases q : r = x3 ∧ c = 1
        · exact Or.inr q
        · exact Or.inl (Or.inr (by omega))
    · exact Or.inl (Or.inl z)
theorem l_counts49 (hd : 4 ≤ d) {k a : Int} {T : zTb} (m : mS h0 k T) (oT : okT T) (ha : 0 ≤ a) (ha' : a < T.2.1) : ∀ (n : Nat) (x : Int) (h : zH), x = T.1 - n → 0 ≤ x → frN h0 h → isN h 10 (sAmU a (fun _ => 1) T) (fun r c => ouT (sAmU a (fun _ => 1) T) r c ∨ r < zct (zF T a (a + 1)) x.toNat) →
    z_Y D M_X13_counts d 49 [(0, 2, 88), (1, 0, a), (3, 0, zct (zF T a (a + 1)) x.toNat), (4, 0, x)] [] G h (pM G h0 (some (sAmU a (fun _ => 1) T))) := by
  have sh := oT.1
  intro n
  induction n with
  | zero =>
    intro x h e x0 f kN
    have e4 := (m.fr f).2.1
    rw [show x = T.1 by omega] at kN ⊢
    refine b_X13_counts_49 ⟨by omega, by omega⟩ ⟨by omega, by omega⟩ (fun _ => ⟨rfl, f, rfl, kN.all fun r c b1 b2 b3 b4 => ?_⟩) (fun c => by omega)
    by_cases z : r < (sAmU a (fun _ => 1) T).1 ∧ c < (sAmU a (fun _ => 1) T).2.1
    · exact Or.inr z.1
    · exact Or.inl z
  | succ n ih =>
    intro x h e x0 f kN
    have m' := m.fr f
    have e4 := m'.2.1
    have ss := zct_s (p := zF T a (a + 1)) x0
    have rg := zct_r (p := zF T a (a + 1)) x0
    refine b_X13_counts_49 ⟨by omega, by omega⟩ ⟨by omega, by omega⟩ (fun c => by omega) (fun _ => ?_)
    refine z_Ki.of (d2 := d - 1) (by omega) (a_X13_firstName (by omega) m' oT x0 (by omega) ha ha') ?_
    rintro out G' h1 hl1 ⟨r1, rfl, rfl⟩
    obtain ⟨s, ⟨s0, s1⟩, s2, s3, s4⟩ := zF_of (T := T) (f := a) (t := a + 1) x0
    have zz := zls_F (T := T) (f := a) (t := a + 1) x0
    refine ⟨_, r1, b_X13_counts_65 (by rw [s4]; exact ⟨by omega, by omega⟩) ⟨by omega, by omega⟩ (fun c => ?_) (fun c => ?_)⟩
    · have qF := zz.1 c
      rw [z_b1 qF] at ss
      have q := l_counts79 (D := D) (d := d) (G := G') (Q := pM G' h0 (some (sAmU a (fun _ => 1) T))) (by omega) m' oT ha ha' rg.1 (by omega) x0 (show x < T.1 by omega) (by
        rw [← ss]
        refine ih (x + 1) _ (by omega) (by omega) ((f.w (Or.inr (Or.inl ⟨rfl, by omega, by omega⟩))).w (Or.inr (Or.inl ⟨rfl, by omega, by omega⟩))) ?_
        rw [ss]
        exact isN_am oT x0 (by omega) rfl qF kN) T.1.toNat 0 (by omega) (by omega)
      exact q
    · rw [z_b0 (fun w => c (zz.2 w)), Int.add_zero] at ss
      rw [← ss]
      refine ih (x + 1) h1 (by omega) (by omega) f ?_
      rw [ss]; exact kN
theorem m_counts (hd : 4 ≤ d) {k a : Int} {T : zTb} (m : mS h k T) (oT : okT T) (ha : 0 ≤ a) (ha' : a < T.2.1) : z_CY D M_X13_counts d [(2, 88), (0, a)] G h (pM G h (sCount a T)) := by
  have sh := oT.1
  have es : sCount a T = some (sAmU a (fun _ => 1) T) := by
    unfold sCount sAmt
    rw [zif1]
    intro g g0 g1
    have := zsm_1 (p := fun s => zgi T a (a + 1) s = g) T.1.toNat
    unfold zam
    omega
  rw [es]
  refine z_begin mo_X13_counts rfl (nle rfl) (b_X13_counts_0 (l_counts4 hd m oT ha ha' ?_ T.1.toNat 0 (by omega) (by omega)))
  refine z_Kv.of (d2 := d - 1) (by omega) (a_X13_shape 10 (zct (zF T a (a + 1)) T.1.toNat) 2 (by omega) (by omega)) ?_
  rintro out G' h1 hl1 ⟨r1, rfl, rfl⟩
  exact ⟨r1, b_X13_counts_44 (l_counts49 hd m oT ha ha' T.1.toNat 0 _ (by omega) (by omega) frN_new ((isN_new (h := h) (U := sAmU a (fun _ => 1) T)).imp fun r c b1 b2 b3 b4 p => by
    rcases p with p | p
    · exact p
    · exact absurd (show r < 0 from p) (by omega)))⟩
/-! sums -/
theorem l_sums18 (hd : 4 ≤ d) {k a b : Int} {T : zTb} (m : mS h k T) (oT : okT T) (ha : 0 ≤ a) (ha' : a < T.2.1) (hb : 0 ≤ b) (hb' : b < T.2.1)
    (k0 : (¬ ∀ r : Int, 0 ≤ r → r < T.1 → znum (T.2.2 r b)) → Q (.inl (some (0, 0))) G h)
    (kk : (∀ r : Int, 0 ≤ r → r < T.1 → znum (T.2.2 r b)) → z_Kv D M_X13_shape d [(2, 88), (0, 10), (0, zct (zF T a (a + 1)) T.1.toNat), (0, 2)] G h (fun G' h' => z_Y D M_X13_sums d 79 [(0, 2, 88), (2, 0, a), (3, 0, b)] [] G' h' Q)) : ∀ (n : Nat) (x : Int), x = T.1 - n → 0 ≤ x → (∀ r : Int, 0 ≤ r → r < x → znum (T.2.2 r b)) →
    z_Y D M_X13_sums d 18 [(0, 2, 88), (2, 0, a), (3, 0, b), (4, 0, zct (zF T a (a + 1)) x.toNat), (5, 0, x)] [] G h Q := by
  have sh := oT.1
  have e4 := m.2.1
  intro n
  induction n with
  | zero =>
    intro x e x0 hn
    rw [show x = T.1 by omega] at hn ⊢
    exact b_X13_sums_18 ⟨by omega, by omega⟩ ⟨by omega, by omega⟩ (fun _ => kk hn) (fun c => by omega)
  | succ n ih =>
    intro x e x0 hn
    have ss := zct_s (p := zF T a (a + 1)) x0
    have j1 := m.at oT x0 (show x < T.1 by omega) hb hb'
    have g1 := oT.2 x b x0 (by omega) hb hb'
    refine b_X13_sums_18 ⟨by omega, by omega⟩ ⟨by omega, by omega⟩ (fun c => by omega) (fun _ => ?_)
    refine z_Ki.of (d2 := d - 1) (by omega) (a_X13_firstName (by omega) m oT x0 (by omega) ha ha') ?_
    rintro out G' h1 hl1 ⟨r1, rfl, rfl⟩
    obtain ⟨s, ⟨s0, s1⟩, s2, s3, s4⟩ := zF_of (T := T) (f := a) (t := a + 1) x0
    have zz := zls_F (T := T) (f := a) (t := a + 1) x0
    have go : ∀ v : Int, zct (zF T a (a + 1)) (x + 1).toNat = zct (zF T a (a + 1)) x.toNat + v → z_Y D M_X13_sums d 46 [(0, 2, 88), (2, 0, a), (3, 0, b), (5, 0, x)] [(0, v), (0, zct (zF T a (a + 1)) x.toNat)] G' h1 Q := by
      intro v ev
      refine b_X13_sums_46 (by omega) j1.1 j1.2.1 (by rw [j1.2.2.1]; exact g1.1) (by rw [j1.2.2.1]; exact g1.2) (fun c => ?_) (fun c => k0 fun w => c ?_)
      · rw [j1.2.2.1] at c
        rw [← ev]
        refine ih (x + 1) (by omega) (by omega) fun r r0 r1 => ?_
        by_cases q : r = x
        · rw [q]; exact c
        · exact hn r r0 (by omega)
      · rw [j1.2.2.1]; exact w x x0 (by omega)
    refine ⟨_, r1, b_X13_sums_36 (by rw [s4]; exact ⟨by omega, by omega⟩) ⟨by omega, by omega⟩ (fun c => go 0 ?_) (fun c => go 1 ?_)⟩
    · rw [ss, z_b0 (fun w => c (zz.2 w))]
    · rw [ss, z_b1 (zz.1 (Classical.not_not.mp c))]
theorem l_sums115 (hd : 3 ≤ d) {k a b x5 x6 : Int} {T : zTb} (m : mS h k T) (oT : okT T) (nT : noA T) (hw : ∀ r : Int, 0 ≤ r → r < T.1 → znum (T.2.2 r b)) (ha : 0 ≤ a) (ha' : a < T.2.1) (hb : 0 ≤ b) (hb' : b < T.2.1) (h5 : 0 ≤ x5) (h5' : x5 < 12) (h6 : 0 ≤ x6) (h6' : x6 < T.1)
    (k0 : ¬ zsm (fun s => zval (T.2.2 s b)) (fun s => T.2.2 s a = T.2.2 x6 a) T.1.toNat < 1000000 → Q (.inl (some (0, 0))) G h)
    (kk : zsm (fun s => zval (T.2.2 s b)) (fun s => T.2.2 s a = T.2.2 x6 a) T.1.toNat < 1000000 → z_Y D M_X13_sums d 85 [(0, 2, 88), (2, 0, a), (3, 0, b), (5, 0, x5 + 1), (6, 0, x6 + 1)] [] G (z_wr (z_wr h 91 (72 * 10 + 6 * x5 + 0) (T.2.2 x6 a)) 91 (72 * 10 + 6 * x5 + 1) (ztx 6 (zsm (fun s => zval (T.2.2 s b)) (fun s => T.2.2 s a = T.2.2 x6 a) T.1.toNat))) Q) : ∀ (n : Nat) (x : Int), x = T.1 - n → 0 ≤ x →
    z_Y D M_X13_sums d 115 [(0, 2, 88), (2, 0, a), (3, 0, b), (5, 0, x5), (6, 0, x6), (7, 0, zsm (fun s => zval (T.2.2 s b)) (fun s => T.2.2 s a = T.2.2 x6 a) x.toNat), (8, 0, x)] [] G h Q := by
  have sh := oT.1
  have e4 := m.2.1
  have j4 := m.at oT h6 h6' ha ha'
  have ev := j4.2.2.1
  intro n
  induction n with
  | zero =>
    intro x e x0
    have rg := zsm_rg (w := fun s => zval (T.2.2 s b)) (p := fun s => T.2.2 s a = T.2.2 x6 a) T.1.toNat (fun s s0 s1 => zval_rg (hw s s0 (by omega)))
    rw [show x = T.1 by omega]
    refine b_X13_sums_115 hd ⟨by omega, by omega⟩ ⟨by omega, by omega⟩ (fun _ => ⟨by omega, by omega⟩) (fun _ _ => j4.1) (fun _ _ => j4.2.1) (fun _ _ => by omega) (fun _ _ => by omega) (fun _ _ => by omega) (fun _ c => c) (fun _ _ => by omega) (fun _ _ => by omega) (fun c => by omega) (fun c => by omega) (fun c => by omega) (fun c => by omega) (fun c => by omega) (fun c => by omega) (fun c => by omega) (fun c => by omega) (fun c => by omega) (fun c => by omega) (fun _ c => ?_) (fun _ c => k0 c) (fun c => by omega) (fun c => by omega)
    rw [ev]
    exact kk c
  | succ n ih =>
    intro x e x0
    have j1 := m.at oT x0 (show x < T.1 by omega) ha ha'
    have j2 := m.at oT x0 (show x < T.1 by omega) hb hb'
    have g2 := nT x b x0 (by omega) hb hb'
    have g1 := oT.2 x b x0 (by omega) hb hb'
    have ss := zsm_s (w := fun s => zval (T.2.2 s b)) (p := fun s => T.2.2 s a = T.2.2 x6 a) x0
    have q := ih (x + 1) (by omega) (by omega)
    refine b_X13_sums_115 hd ⟨by omega, by omega⟩ ⟨by omega, by omega⟩ (fun c => by omega) (fun c => by omega) (fun c => by omega) (fun c => by omega) (fun c => by omega) (fun c => by omega) (fun c => by omega) (fun c => by omega) (fun c => by omega) (fun _ => j1.1) (fun _ => j1.2.1) (fun _ => j4.1) (fun _ => j4.2.1) (fun _ => j1.2.2.2) (fun _ => j4.2.2.2) (fun _ _ => j2.1) (fun _ _ => j2.2.1) (fun _ _ => by rw [j2.2.2.1]; exact g2) (fun _ _ => by rw [j2.2.2.1]; exact g1.2) (fun c => by omega) (fun c => by omega) (fun _ c => b_X13_sums_158 ?_) (fun _ c => b_X13_sums_158 ?_)
    · rw [j1.2.2.1, ev] at c
      rw [zif0 c] at ss
      rw [ss] at q; exact q
    · rw [j1.2.2.1, ev] at c
      rw [zif1 (Classical.not_not.mp c)] at ss
      rw [j2.2.2.1]
      rw [ss] at q; exact q
theorem l_sums85 (hd : 4 ≤ d) {k a b : Int} {T : zTb} (m : mS h0 k T) (oT : okT T) (nT : noA T) (hw : ∀ r : Int, 0 ≤ r → r < T.1 → znum (T.2.2 r b)) (ha : 0 ≤ a) (ha' : a < T.2.1) (hb : 0 ≤ b) (hb' : b < T.2.1) : ∀ (n : Nat) (x : Int) (h : zH), x = T.1 - n → 0 ≤ x → frN h0 h → (∀ g : Int, 0 ≤ g → g < zct (zF T a (a + 1)) x.toNat → zam T a (fun s => zval (T.2.2 s b)) g < 1000000) → isN h 10 (sAmU a (fun s => zval (T.2.2 s b)) T) (fun r c => ouT (sAmU a (fun s => zval (T.2.2 s b)) T) r c ∨ r < zct (zF T a (a + 1)) x.toNat) →
    z_Y D M_X13_sums d 85 [(0, 2, 88), (2, 0, a), (3, 0, b), (5, 0, zct (zF T a (a + 1)) x.toNat), (6, 0, x)] [] G h (pM G h0 (sAmt a (fun s => zval (T.2.2 s b)) T)) := by
  have sh := oT.1
  intro n
  induction n with
  | zero =>
    intro x h e x0 f hg kN
    have e4 := (m.fr f).2.1
    rw [show x = T.1 by omega] at kN hg ⊢
    have es : sAmt a (fun s => zval (T.2.2 s b)) T = some (sAmU a (fun s => zval (T.2.2 s b)) T) := by unfold sAmt; rw [zif1 hg]
    rw [es]
    refine b_X13_sums_85 ⟨by omega, by omega⟩ ⟨by omega, by omega⟩ (fun _ => ⟨rfl, f, rfl, kN.all fun r c b1 b2 b3 b4 => ?_⟩) (fun c => by omega)
    by_cases z : r < (sAmU a (fun s => zval (T.2.2 s b)) T).1 ∧ c < (sAmU a (fun s => zval (T.2.2 s b)) T).2.1
    · exact Or.inr z.1
    · exact Or.inl z
  | succ n ih =>
    intro x h e x0 f hg kN
    have m' := m.fr f
    have e4 := m'.2.1
    have ss := zct_s (p := zF T a (a + 1)) x0
    have rg := zct_r (p := zF T a (a + 1)) x0
    refine b_X13_sums_85 ⟨by omega, by omega⟩ ⟨by omega, by omega⟩ (fun c => by omega) (fun _ => ?_)
    refine z_Ki.of (d2 := d - 1) (by omega) (a_X13_firstName (by omega) m' oT x0 (by omega) ha ha') ?_
    rintro out G' h1 hl1 ⟨r1, rfl, rfl⟩
    obtain ⟨s, ⟨s0, s1⟩, s2, s3, s4⟩ := zF_of (T := T) (f := a) (t := a + 1) x0
    have zz := zls_F (T := T) (f := a) (t := a + 1) x0
    refine ⟨_, r1, b_X13_sums_101 (by rw [s4]; exact ⟨by omega, by omega⟩) ⟨by omega, by omega⟩ (fun c => ?_) (fun c => ?_)⟩
    · have qF := zz.1 c
      rw [z_b1 qF] at ss
      have am := zam_q (w := fun s => zval (T.2.2 s b)) x0 qF
      have q := l_sums115 (D := D) (d := d) (G := G') (Q := pM G' h0 (sAmt a (fun s => zval (T.2.2 s b)) T)) (by omega) m' oT nT hw ha ha' hb hb' rg.1 (by omega) x0 (show x < T.1 by omega) (fun c => by
        have es : sAmt a (fun s => zval (T.2.2 s b)) T = none := by
          unfold sAmt
          rw [zif0]
          intro w
          refine c ?_
          rw [← am]
          exact w _ rg.1 (zct_lt x0 (by omega) qF)
        rw [es]
        exact ⟨rfl, f, rfl⟩) (fun c => by
        rw [← ss]
        refine ih (x + 1) _ (by omega) (by omega) ((f.w (Or.inr (Or.inl ⟨rfl, by omega, by omega⟩))).w (Or.inr (Or.inl ⟨rfl, by omega, by omega⟩))) (fun g g0 g1 => ?_) ?_
        · by_cases z : g = zct (zF T a (a + 1)) x.toNat
          · rw [z, am]; exact c
          · exact hg g g0 (by omega)
        · rw [ss]
          exact isN_am oT x0 (by omega) rfl qF kN) T.1.toNat 0 (by omega) (by omega)
      exact q
    · rw [z_b0 (fun w => c (zz.2 w)), Int.add_zero] at ss
      rw [← ss]
      refine ih (x + 1) h1 (by omega) (by omega) f ?_ ?_
      · rw [ss]; exact hg
      · rw [ss]; exact kN
theorem m_sums (hd : 4 ≤ d) {k a b : Int} {T : zTb} (m : mS h k T) (oT : okT T) (nT : noA T) (ha : 0 ≤ a) (ha' : a < T.2.1) (hb : 0 ≤ b) (hb' : b < T.2.1) (hne : ¬ a = b) : z_CY D M_X13_sums d [(2, 88), (0, T.2.1), (0, a), (0, b)] G h (pM G h (sSum a b T)) := by
  have sh := oT.1
  refine z_begin mo_X13_sums rfl (nle rfl) (b_X13_sums_0 ⟨by omega, by omega⟩ ⟨by omega, by omega⟩ (fun _ => ⟨by omega, by omega⟩) (fun c => by omega) (fun _ _ => l_sums18 hd m oT ha ha' hb hb' (fun w => ?_) (fun w => ?_) T.1.toNat 0 (by omega) (by omega) (fun r r0 r1 => by omega)) (fun _ c => absurd (Classical.not_not.mp c) hne))
  · have es : sSum a b T = none := by unfold sSum; rw [zif0 w]
    rw [es]
    exact ⟨rfl, frN.rf, rfl⟩
  · have es : sSum a b T = sAmt a (fun s => zval (T.2.2 s b)) T := by unfold sSum; rw [zif1 w]
    rw [es]
    refine z_Kv.of (d2 := d - 1) (by omega) (a_X13_shape 10 (zct (zF T a (a + 1)) T.1.toNat) 2 (by omega) (by omega)) ?_
    rintro out G' h1 hl1 ⟨r1, rfl, rfl⟩
    exact ⟨r1, b_X13_sums_79 (l_sums85 hd m oT nT w ha ha' hb hb' T.1.toNat 0 _ (by omega) (by omega) frN_new (fun g g0 g1 => absurd (show g < 0 from g1) (by omega)) ((isN_new (h := h) (U := sAmU a (fun s => zval (T.2.2 s b)) T)).imp fun r c b1 b2 b3 b4 p => by
      rcases p with p | p
      · exact p
      · exact absurd (show r < 0 from p) (by omega)))⟩
end Mst17
