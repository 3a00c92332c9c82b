/-! the model's search: a State's steps -/
theorem nC_m {C n a b : Int} (hC : 1 ≤ C) (n1 : 1 ≤ n) (n2 : n ≤ 14) (k : nC C n a b) : ((n = 1 ∨ n = 7 ∨ n = 9 ∨ n = 13) → a = 0) ∧ (¬ (n = 3 ∨ n = 5 ∨ n = 11) → b = 0) ∧ a < C := by
  have : n = 1 ∨ n = 2 ∨ n = 3 ∨ n = 4 ∨ n = 5 ∨ n = 6 ∨ n = 7 ∨ n = 8 ∨ n = 9 ∨ n = 10 ∨ n = 11 ∨ n = 12 ∨ n = 13 ∨ n = 14 := by omega
  unfold nC at k
  rcases this with rfl | rfl | rfl | rfl | rfl | rfl | rfl | rfl | rfl | rfl | rfl | rfl | rfl | rfl
  · have z : zfm 1 = 0 := by decide
    rw [z] at k; simp at k; omega
  · have z : zfm 2 = 1 := by decide
    rw [z] at k; simp at k; omega
  · simp at k; omega
  · have z : zfm 4 = 1 := by decide
    rw [z] at k; simp at k; omega
  · simp at k; omega
  · simp at k; omega
  · have z : zfm 7 = 0 := by decide
    rw [z] at k; simp at k; omega
  · have z : zfm 8 = 1 := by decide
    rw [z] at k; simp at k; omega
  · have z : zfm 9 = 0 := by decide
    rw [z] at k; simp at k; omega
  · have z : zfm 10 = 1 := by decide
    rw [z] at k; simp at k; omega
  · simp at k; omega
  · have z : zfm 12 = 1 := by decide
    rw [z] at k; simp at k; omega
  · have z : zfm 13 = 0 := by decide
    rw [z] at k; simp at k; omega
  · simp at k; omega
theorem nx_no {two : Prop} {n a b : Int} {P : zSt} (k : ¬ nC P.1.2.1 n a b) : nx two n a b P = none := by
  have : sMake n a b P.1 = none := by
    unfold sMake
    by_cases z : noA P.1
    · rw [zif1 z]; unfold sStep; rw [zif0 k]
    · rw [zif0 z]
  unfold nx; rw [this]
section Ms3
variable {D : zD} {d : Nat} {G : zG} {h h0 h1 : zH} {Q : zO → zG → zH → Prop} {two : Prop} {B : zTb}
theorem l_take62 {s : Int} (s0 : 0 ≤ s) (s1 : s < 1500) : ∀ (m : Nat) (k : Int) (h : zH), 72 = k + m → 0 ≤ k → (∀ b j : Int, ¬ (b = 91 ∧ 576 ≤ j ∧ j < 720) → h b j = h0 b j) → (∀ i : Int, 0 ≤ i → i < k → h 91 (576 + i) = h0 101 (144 * s + i) ∧ h 91 (648 + i) = h0 101 (144 * s + 72 + i)) →
    z_Y D M_X13_takeState d 62 [(0, 2, 88), (1, 0, s), (3, 0, k)] [] G h (fun out G' h' => out = .inl none ∧ G' = G ∧ (∀ b j : Int, ¬ (b = 91 ∧ 576 ≤ j ∧ j < 720) → h' b j = h0 b j) ∧ ∀ i : Int, 0 ≤ i → i < 72 → h' 91 (576 + i) = h0 101 (144 * s + i) ∧ h' 91 (648 + i) = h0 101 (144 * s + 72 + i)) := by
  intro m
  induction m with
  | zero =>
    intro k h e k0 f fn
    exact b_X13_takeState_62 ⟨by omega, by omega⟩ (fun c => by omega) (fun c => by omega) (fun c => by omega) (fun c => by omega) (fun c => by omega) (fun c => by omega) (fun c => by omega) (fun c => by omega) (fun _ => ⟨rfl, rfl, f, fun i a b => fn i a (by omega)⟩) (fun c => by omega)
  | succ m ih =>
    intro k h e k0 f fn
    refine b_X13_takeState_62 ⟨by omega, by omega⟩ (fun _ => by omega) (fun _ => by omega) (fun _ => by omega) (fun _ => by omega) (fun _ => by omega) (fun _ => by omega) (fun _ => by omega) (fun _ => by omega) (fun c => by omega) (fun _ => ?_)
    refine ih (k + 1) _ (by omega) (by omega) (fun b j p => ?_) (fun i i0 i1 => ?_)
    · have : z_wr (z_wr h 91 (576 + k) (h 101 (144 * s + k))) 91 (648 + k) (h 101 (144 * s + 72 + k)) b j = h b j := by unfold z_wr; rw [if_neg (by omega), if_neg (by omega)]
      rw [this]; exact f b j p
    · by_cases z : i = k
      · subst z
        refine ⟨?_, ?_⟩
        · rw [w_nj (by omega), w_s]; exact f 101 _ (by omega)
        · rw [w_s]; exact f 101 _ (by omega)
      · rw [w_nj (by omega), w_nj (by omega), w_nj (by omega), w_nj (by omega)]
        exact fn i i0 (by omega)
theorem m_takeS {s : Int} {P : zSt} (s0 : 0 ≤ s) (s1 : s < 1500) (k : isQ two h s P) (oP : okP P) (e32 : h 88 32 = z_b two) : z_CY D M_X13_takeState d [(2, 88), (0, s)] G h (fun out G' h' => out = .inl none ∧ G' = G ∧ frB mW h h' ∧ mPr two h' P) := by
  have sr := shp_rg (two := two) oP.Q
  have p1 := oP.1.1
  have p2 := oP.2.1
  have d1 : z_idiv (h 102 s) 1024 = P.1.1 := by
    rw [k.1, z_idiv_n sr.1 (by omega) (by omega) (by omega)]
    unfold shp
    by_cases z : two
    · rw [zif1 z]; omega
    · rw [zif0 z]; omega
  have d2 : z_irem (z_idiv (h 102 s) 128) 8 = P.1.2.1 := by
    rw [k.1, z_idiv_n sr.1 (by omega) (by omega) (by omega), z_irem_n (by omega) (by omega) (by omega) (by omega)]
    unfold shp
    by_cases z : two
    · rw [zif1 z]; omega
    · rw [zif0 z]; omega
  have d3 : two → z_idiv (z_irem (h 102 s) 128) 8 = P.2.1 := fun z => by
    rw [k.1, z_irem_n sr.1 (by omega) (by omega) (by omega), z_idiv_n (by omega) (by omega) (by omega) (by omega)]
    unfold shp
    rw [zif1 z]; omega
  have d4 : two → z_irem (h 102 s) 8 = P.2.2.1 := fun z => by
    rw [k.1, z_irem_n sr.1 (by omega) (by omega) (by omega)]
    unfold shp
    rw [zif1 z]; omega
  refine z_begin mo_X13_takeState rfl (nle rfl) (b_X13_takeState_0 s0 s1 ?_)
  obtain ⟨H, eH⟩ : ∃ H, H = z_wr (z_wr (z_wr (z_wr h 89 8 (z_idiv (h 102 s) 1024)) 90 8 (z_irem (z_idiv (h 102 s) 128) 8)) 89 9 (z_idiv (z_irem (h 102 s) 128) 8)) 90 9 (z_irem (h 102 s) 8) := ⟨_, rfl⟩
  rw [← eH]
  have o : ∀ b j : Int, ¬ b = 89 → ¬ b = 90 → H b j = h b j := fun b j p q => by rw [eH, w_na q, w_na p, w_na q, w_na p]
  have o2 : ∀ b j : Int, ¬ j = 8 → ¬ j = 9 → H b j = h b j := fun b j p q => by rw [eH, w_nj q, w_nj q, w_nj p, w_nj p]
  refine (l_take62 (h0 := H) s0 s1 72 0 H (by omega) (by omega) (fun _ _ _ => rfl) (fun i a b => by omega)).mono fun out G' h' _ q => ?_
  obtain ⟨q1, q2, q3, q4⟩ := q
  refine ⟨q1, q2, fun b j p => ?_, isM_of ?_ ?_ fun i i0 i1 => ?_, fun z => isM_of ?_ ?_ fun i i0 i1 => ?_, ?_⟩
  · unfold mW at p
    rw [q3 b j (by omega)]
    by_cases y : b = 89 ∨ b = 90
    · exact o2 b j (by omega) (by omega)
    · exact o b j (by omega) (by omega)
  · rw [q3 89 8 (by omega), eH, w_na (by omega), w_nj (by omega), w_na (by omega), w_s]; exact d1
  · rw [q3 90 8 (by omega), eH, w_nj (by omega), w_na (by omega), w_s]; exact d2
  · rw [show 72 * (8 : Int) + i = 576 + i by omega, (q4 i i0 i1).1, o 101 _ (by omega) (by omega)]; exact k.2.1 i i0 i1
  · rw [q3 89 9 (by omega), eH, w_na (by omega), w_s]; exact d3 z
  · rw [q3 90 9 (by omega), eH, w_s]; exact d4 z
  · rw [show 72 * (9 : Int) + i = 648 + i by omega, (q4 i i0 i1).2, o 101 _ (by omega) (by omega)]; exact k.2.2 z i i0 i1
  · rw [q3 88 32 (by omega), o 88 32 (by omega) (by omega)]; exact e32
/-- what comes of a step from State i -/
def gsQ (two : Prop) (n a b : Int) (P : zSt) (G : zG) (h : zH) : zO → zG → zH → Prop := fun out G' h' => G' = G ∧ frB mW h h' ∧ match nx two n a b P with
  | some S => out = .inl (some (0, 1)) ∧ mPr two h' S
  | none => out = .inl (some (0, 0))
theorem gs_no {n a b : Int} {P : zSt} {h' : zH} (e : nx two n a b P = none) (f : frB mW h h') : gsQ two n a b P G h (.inl (some (0, 0))) G h' := by
  unfold gsQ; rw [e]; exact ⟨rfl, f, rfl⟩
theorem gs_yes {n a b : Int} {P S : zSt} {h' : zH} (e : nx two n a b P = some S) (f : frB mW h h') (m : mPr two h' S) : gsQ two n a b P G h (.inl (some (0, 1))) G h' := by
  unfold gsQ; rw [e]; exact ⟨rfl, f, rfl, m⟩
theorem m_goes (hd : 7 ≤ d) {s n a b : Int} {P : zSt} (s0 : 0 ≤ s) (s1 : s < 1500) (k : isQ two h s P) (oP : okP P) (e32 : h 88 32 = z_b two) (n1 : 1 ≤ n) (n2 : n ≤ 14) (a0 : 0 ≤ a) (a1 : a ≤ 5) (b0 : 0 ≤ b) (b1 : b ≤ 5) : z_CY D M_X13_goes d [(2, 88), (0, s), (0, n), (0, a), (0, b)] G h (gsQ two n a b P G h) := by
  have sr := shp_rg (two := two) oP.Q
  have p1 := oP.1.1
  have d2 : z_irem (z_idiv (h 102 s) 128) 8 = P.1.2.1 := by
    rw [k.1, z_idiv_n sr.1 (by omega) (by omega) (by omega), z_irem_n (by omega) (by omega) (by omega) (by omega)]
    unfold shp
    by_cases z : two
    · rw [zif1 z]; have := oP.2.1; omega
    · rw [zif0 z]; omega
  have at96 : z_Kv D M_X13_takeState d [(2, 88), (0, s)] G h (fun G' h' => z_Y D M_X13_goes d 96 [(0, 2, 88), (2, 0, n), (3, 0, a), (4, 0, b)] [] G' h' (gsQ two n a b P G h)) := by
    refine z_Kv.of (d2 := d - 1) (by omega) (m_takeS s0 s1 k oP e32) ?_
    rintro out G' h1 hl1 ⟨r1, rfl, f1, m1, m2, m3⟩
    refine ⟨r1, b_X13_goes_96 (z_Ki.of (d2 := d - 1) (by omega) (m_makes (by omega) m1 (by omega) (by omega) (by omega) oP.1 ⟨n1, n2⟩ ⟨by omega, by omega⟩ ⟨by omega, by omega⟩) ?_)⟩
    rintro out G' h2 hl2 ⟨rfl, f2, hr⟩
    cases es : sMake n a b P.1 with
    | none =>
      rw [es] at hr
      exact ⟨0, hr, b_X13_goes_106 ⟨by omega, by omega⟩ (fun c => absurd rfl c) (fun _ => gs_no (by unfold nx; rw [es]) (f1.tr f2.B))⟩
    | some T =>
      rw [es] at hr
      refine ⟨1, hr.1, b_X13_goes_106 ⟨by omega, by omega⟩ (fun _ => ?_) (fun c => absurd (by decide) c)⟩
      refine z_Kv.of (d2 := d - 1) (by omega) (m_become (by omega) (by omega) (by omega) (by omega) hr.2) ?_
      rintro out G' h3 hl3 ⟨r3, rfl, f3, m8⟩
      have F3 : frB mW h1 h3 := f2.B.tr (f3.imp fun x j q => mT_W (by omega) q)
      have e323 : h3 88 32 = z_b two := by rw [F3 88 32 (by unfold mW; omega)]; exact m3
      obtain ⟨t1, t2⟩ := tw_z e323
      refine ⟨r3, b_X13_goes_119 t2 (fun c => ?_) (fun c => ?_)⟩
      · have tw : two := Classical.byContradiction fun w => c (t1.2 w)
        have m9 : isM h3 9 P.2 := by
          have q1 : isM h2 9 P.2 := isM_B (m2 tw) (P := fun x j => ¬ (¬ (x = 88 ∧ (j = 3 ∨ j = 4)) ∧ ¬ ((x = 89 ∨ x = 90) ∧ j = 10) ∧ ¬ (x = 91 ∧ 720 ≤ j ∧ j < 792) ∧ ¬ (92 ≤ x ∧ x ≤ 94))) (fun x j q => by
            have q := Classical.not_not.mp q
            exact f2 x j q.1 q.2.1 q.2.2.1 q.2.2.2) (by omega) (by omega) (fun j j0 j1 => by omega)
          exact isM_B q1 f3 (by unfold mT; omega) (by unfold mT; omega) (fun j j0 j1 => by unfold mT; omega)
        refine z_Ki.of (d2 := d - 1) (by omega) (m_makes (by omega) m9 (by omega) (by omega) (by omega) oP.2 ⟨n1, n2⟩ ⟨by omega, by omega⟩ ⟨by omega, by omega⟩) ?_
        rintro out G' h4 hl4 ⟨rfl, f4, hr4⟩
        cases es2 : sMake n a b P.2 with
        | none =>
          rw [es2] at hr4
          refine ⟨0, hr4, b_X13_goes_138 ⟨by omega, by omega⟩ (fun c => absurd rfl c) (fun _ => gs_no ?_ (f1.tr (F3.tr f4.B)))⟩
          unfold nx; rw [es]; show zif _ _ _ = _; rw [zif1 tw, es2]
        | some U =>
          rw [es2] at hr4
          refine ⟨1, hr4.1, b_X13_goes_138 ⟨by omega, by omega⟩ (fun _ => ?_) (fun c => absurd (by decide) c)⟩
          refine z_Kv.of (d2 := d - 1) (by omega) (m_become (by omega) (by omega) (by omega) (by omega) hr4.2) ?_
          rintro out G' h5 hl5 ⟨r5, rfl, f5, m5⟩
          have F5 : frB mW h3 h5 := f4.B.tr (f5.imp fun x j q => mT_W (by omega) q)
          have m84 : isM h4 8 T := isM_B m8 (P := fun x j => ¬ (¬ (x = 88 ∧ (j = 3 ∨ j = 4)) ∧ ¬ ((x = 89 ∨ x = 90) ∧ j = 10) ∧ ¬ (x = 91 ∧ 720 ≤ j ∧ j < 792) ∧ ¬ (92 ≤ x ∧ x ≤ 94))) (fun x j q => by
            have q := Classical.not_not.mp q
            exact f4 x j q.1 q.2.1 q.2.2.1 q.2.2.2) (by omega) (by omega) (fun j j0 j1 => by omega)
          have m85 : isM h5 8 T := isM_B m84 f5 (by unfold mT; omega) (by unfold mT; omega) (fun j j0 j1 => by unfold mT; omega)
          refine ⟨r5, b_X13_goes_151 (gs_yes (S := (T, U)) ?_ (f1.tr (F3.tr F5)) ⟨m85, fun _ => m5, ?_⟩)⟩
          · unfold nx; rw [es]; show zif _ _ _ = _; rw [zif1 tw, es2]
          · rw [F5 88 32 (by unfold mW; omega)]; exact e323
      · have tw : ¬ two := fun w => c (fun q => t1.1 q w)
        refine gs_yes (S := (T, P.2)) ?_ (f1.tr F3) ⟨m8, fun w => absurd w tw, e323⟩
        unfold nx; rw [es]; exact zif0 tw
  -- what can't be is told before
  have at72 : z_Y D M_X13_goes d 72 [(0, 2, 88), (1, 0, s), (2, 0, n), (3, 0, a), (4, 0, b)] [] G h (gsQ two n a b P G h) := by
    refine b_X13_goes_72 s0 s1 ⟨by omega, by omega⟩ (by rw [d2]; exact ⟨by omega, by omega⟩) (fun _ => at96) (fun c => gs_no (nx_no fun q => ?_) frB.rf)
    rw [d2] at c
    exact c (nC_m (by omega) n1 n2 q).2.2
  have at62 : ∀ x : Int, (x = 1 ∨ (x = 0 ∧ ¬ (n = 3 ∨ n = 5 ∨ n = 11))) → z_Y D M_X13_goes d 62 [(0, 2, 88), (1, 0, s), (2, 0, n), (3, 0, a), (4, 0, b), (6, 0, x)] [] G h (gsQ two n a b P G h) := by
    intro x hx
    refine b_X13_goes_62 ⟨by omega, by omega⟩ (fun _ => ⟨by omega, by omega⟩) (fun _ => at72) (fun c c2 => gs_no (nx_no fun q => ?_) frB.rf) (fun _ _ => at72)
    have := (nC_m (by omega) n1 n2 q).2.1 (by omega)
    omega
  have at51 : ∀ x y : Int, (x = 0 ∨ (x = 1 ∧ (n = 1 ∨ n = 7 ∨ n = 9 ∨ n = 13))) → (y = 1 ∨ (y = 0 ∧ ¬ (n = 3 ∨ n = 5 ∨ n = 11))) → z_Y D M_X13_goes d 51 [(0, 2, 88), (1, 0, s), (2, 0, n), (3, 0, a), (4, 0, b), (5, 0, x)] [(0, y)] G h (gsQ two n a b P G h) := by
    intro x y hx hy
    refine b_X13_goes_51 ⟨by omega, by omega⟩ (fun _ => ⟨by omega, by omega⟩) (fun _ => at62 y hy) (fun c c2 => gs_no (nx_no fun q => ?_) frB.rf) (fun _ _ => at62 y hy)
    have := (nC_m (by omega) n1 n2 q).1 (by omega)
    omega
  have at28 : ∀ x : Int, (x = 0 ∨ (x = 1 ∧ (n = 1 ∨ n = 7 ∨ n = 9 ∨ n = 13))) → z_Y D M_X13_goes d 28 [(0, 2, 88), (1, 0, s), (2, 0, n), (3, 0, a), (4, 0, b)] [(0, x)] G h (gsQ two n a b P G h) := by
    intro x hx
    exact b_X13_goes_28 ⟨by omega, by omega⟩ (fun _ => b_X13_goes_46 (at51 x 1 hx (Or.inl rfl))) (fun _ _ => b_X13_goes_46 (at51 x 1 hx (Or.inl rfl))) (fun c1 c2 c3 => at51 x 0 hx (Or.inr ⟨rfl, by omega⟩)) (fun _ _ _ => b_X13_goes_46 (at51 x 1 hx (Or.inl rfl)))
  exact z_begin mo_X13_goes rfl (nle rfl) (b_X13_goes_0 ⟨by omega, by omega⟩ (fun c => b_X13_goes_23 (at28 1 (Or.inr ⟨rfl, by omega⟩))) (fun _ c => b_X13_goes_23 (at28 1 (Or.inr ⟨rfl, by omega⟩))) (fun _ _ c => b_X13_goes_23 (at28 1 (Or.inr ⟨rfl, by omega⟩))) (fun _ _ _ _ => at28 0 (Or.inl rfl)) (fun _ _ _ c => b_X13_goes_23 (at28 1 (Or.inr ⟨rfl, by omega⟩))))
end Ms3
