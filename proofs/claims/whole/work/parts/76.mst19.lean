section Mst19
variable {D : zD} {d : Nat} {G : zG} {h h0 h1 : zH} {Q : zO → zG → zH → Prop}
/-! makes -/
theorem m_splits0 {C a b : Int} (hb : z_in b) (c : 3 < b) : z_CY D M_X13_splits d [(2, 88), (0, C), (0, a), (0, b)] G h (pM G h none) :=
  z_begin mo_X13_splits rfl (nle rfl) (b_X13_splits_0 hb (fun w => absurd c w) (fun _ => ⟨rfl, frN.rf, rfl⟩) (fun w => absurd c w) (fun w => absurd c w))
theorem m_joins0 {C a b : Int} (hb : z_in b) (hC : 0 ≤ C ∧ C ≤ 6) (ha : 0 ≤ a ∧ a < C) (c : 3 < b ∨ ¬ a + 1 < C) : z_CY D M_X13_joins d [(2, 88), (0, C), (0, a), (0, b)] G h (pM G h none) :=
  z_begin mo_X13_joins rfl (nle rfl) (b_X13_joins_0 hb (fun _ => ⟨by omega, by omega⟩) (fun _ => ⟨by omega, by omega⟩) (fun _ => ⟨rfl, frN.rf, rfl⟩) (fun w w2 => by omega) (fun _ _ => ⟨rfl, frN.rf, rfl⟩))
theorem m_folds0 {C a : Int} (ha : z_in a) (c : a < 1) : z_CY D M_X13_folds d [(2, 88), (0, C), (0, a)] G h (pM G h none) :=
  z_begin mo_X13_folds rfl (nle rfl) (b_X13_folds_0 ha (fun w => absurd c w) (fun w => absurd c w) (fun w => absurd c w) (fun _ => ⟨rfl, frN.rf, rfl⟩) (fun w => absurd c w) (fun w => absurd c w) (fun w => absurd c w) (fun w => absurd c w))
theorem m_sums0 {C a b : Int} (ha : z_in a) (hb : z_in b) (hC : 0 ≤ C ∧ C ≤ 6) (c : C ≤ b ∨ a = b) : z_CY D M_X13_sums d [(2, 88), (0, C), (0, a), (0, b)] G h (pM G h none) :=
  z_begin mo_X13_sums rfl (nle rfl) (b_X13_sums_0 hb ⟨by omega, by omega⟩ (fun _ => ha) (fun _ => ⟨rfl, frN.rf, rfl⟩) (fun w w2 => by omega) (fun _ _ => ⟨rfl, frN.rf, rfl⟩))
theorem m_swaps0 {C a : Int} (hC : 0 ≤ C ∧ C ≤ 6) (ha : 0 ≤ a ∧ a < C) (c : ¬ a + 1 < C) : z_CY D M_X13_swaps d [(2, 88), (0, C), (0, a)] G h (pM G h none) :=
  z_begin mo_X13_swaps rfl (nle rfl) (b_X13_swaps_0 ⟨by omega, by omega⟩ ⟨by omega, by omega⟩ (fun w => absurd w c) (fun _ => ⟨rfl, frN.rf, rfl⟩))
theorem pM01 {res : Option zTb} {out : zO} {G' : zG} {h' : zH} (k : pM G h res out G' h') : ∃ x : Int, out = .inl (some (0, x)) ∧ (x = 0 ∨ x = 1) := by
  cases res with
  | none => exact ⟨0, k.2.2, Or.inl rfl⟩
  | some T => exact ⟨1, k.2.2.1, Or.inr rfl⟩
theorem sStep_n {n a b : Int} {T : zTb} (q : ¬ nC T.2.1 n a b) : sStep n a b T = none := by rw [sStep, zif0 q]
theorem nC_0 {C n a b : Int} (q : nC C n a b) : 0 ≤ a ∧ 0 ≤ b := by
  unfold nC at q
  split at q
  · omega
  · split at q
    · omega
    · split at q
      · omega
      · split at q
        · omega
        · split at q
          · omega
          · omega
theorem nC_pl {C n a b : Int} (hn : n = 1 ∨ n = 7 ∨ n = 9 ∨ n = 13) (q : nC C n a b) : a = 0 ∧ b = 0 := by
  rcases hn with rfl | rfl | rfl | rfl
  all_goals
    have q : (0 ≤ a ∧ a ≤ 0) ∧ b = 0 := q
    omega
theorem nC_b {C n a b : Int} (hn : ¬ (n = 3 ∨ n = 5 ∨ n = 11)) (q : nC C n a b) : b = 0 := by
  unfold nC at q
  rw [if_neg (by omega), if_neg (by omega), if_neg (by omega)] at q
  split at q
  · exact q.2
  · split at q
    · exact q.2
    · exact q.2
theorem nC_a {C n a b : Int} (h0 : 1 ≤ C) (hn : 1 ≤ n ∧ n ≤ 14) (q : nC C n a b) : a < C := by
  unfold nC at q
  split at q
  · omega
  · split at q
    · omega
    · split at q
      · omega
      · split at q
        · omega
        · split at q
          · omega
          · split at q
            · omega
            · omega
theorem l_makes127 (hd : 6 ≤ d) {k n a b : Int} {T : zTb} (m : mS h k T) (oT : okT T) (nT : noA T) (hn : 1 ≤ n ∧ n ≤ 14) (ha : z_in a) (hb : z_in b) (a0 : 0 ≤ a) (b0 : 0 ≤ b) (c1 : n = 1 ∨ n = 7 ∨ n = 9 ∨ n = 13 → a = 0) (c2 : ¬ (n = 3 ∨ n = 5 ∨ n = 11) → b = 0) (c3 : ¬ (n = 1 ∨ n = 7 ∨ n = 9 ∨ n = 13) → a < T.2.1) :
    z_Y D M_X13_makes d 127 [(0, 2, 88), (2, 0, n), (3, 0, a), (4, 0, b), (5, 0, T.2.1)] [] G h (pM G h (sStep n a b T)) := by
  have sh := oT.1
  refine b_X13_makes_127 (fun _ _ _ _ _ _ _ _ _ _ _ _ _ => ⟨by omega, by omega⟩) (fun c => ?_) (fun _ c => ?_) (fun _ _ c => ?_) (fun _ _ _ c => ?_) (fun _ _ _ _ c => ?_) (fun _ _ _ _ _ c => ?_) (fun _ _ _ _ _ _ c => ?_) (fun _ _ _ _ _ _ _ c => ?_) (fun _ _ _ _ _ _ _ _ c => ?_) (fun _ _ _ _ _ _ _ _ _ c => ?_) (fun _ _ _ _ _ _ _ _ _ _ c => ?_) (fun _ _ _ _ _ _ _ _ _ _ _ c => ?_) (fun _ _ _ _ _ _ _ _ _ _ _ _ c => ?_) (fun d1 d2 d3 d4 d5 d6 d7 d8 d9 d10 d11 d12 d13 => ?_)
  · subst c
    have q1 := c2 (by omega)
    have q2 := c1 (by omega)
    have q : nC T.2.1 1 a b := (by omega : (0 ≤ a ∧ a ≤ 0) ∧ b = 0)
    refine z_Ki.of (d2 := d - 1) (by omega) (m_turns (by omega) m oT) fun out G' h' _ hh => ?_
    obtain ⟨x, ex, hx⟩ := pM01 hh
    exact ⟨x, ex, b_X13_makes_202 hx (by rw [← ex, sStep_1 q]; exact hh)⟩
  · subst c
    have w : a < T.2.1 := c3 (by omega)
    have q1 := c2 (by omega)
    have q : nC T.2.1 2 a b := (by omega : (0 ≤ a ∧ a ≤ T.2.1 - 1) ∧ b = 0)
    refine z_Ki.of (d2 := d - 1) (by omega) (m_drops (by omega) m oT a0 w) fun out G' h' _ hh => ?_
    obtain ⟨x, ex, hx⟩ := pM01 hh
    exact ⟨x, ex, b_X13_makes_210 hx (by rw [← ex, sStep_2 q]; exact hh)⟩
  · subst c
    by_cases x : 3 < b
    · have q : ¬ nC T.2.1 3 a b := fun w => by
        have w : (0 ≤ a ∧ a ≤ T.2.1 - 1) ∧ 0 ≤ b ∧ b ≤ 3 := w
        omega
      refine z_Ki.of (d2 := d - 1) (by omega) (m_splits0 hb x) fun out G' h' _ hh => ?_
      obtain ⟨x, ex, hx⟩ := pM01 hh
      exact ⟨x, ex, b_X13_makes_220 hx (by rw [← ex, sStep_n q]; exact hh)⟩
    · have w : a < T.2.1 ∧ 0 ≤ b ∧ b ≤ 3 := by omega
      have q : nC T.2.1 3 a b := (by omega : (0 ≤ a ∧ a ≤ T.2.1 - 1) ∧ 0 ≤ b ∧ b ≤ 3)
      refine z_Ki.of (d2 := d - 1) (by omega) (m_splits (by omega) m oT nT w.2 a0 w.1) fun out G' h' _ hh => ?_
      obtain ⟨x, ex, hx⟩ := pM01 hh
      exact ⟨x, ex, b_X13_makes_220 hx (by rw [← ex, sStep_3 q]; exact hh)⟩
  · subst c
    have w : a < T.2.1 := c3 (by omega)
    have q1 := c2 (by omega)
    have q : nC T.2.1 4 a b := (by omega : (0 ≤ a ∧ a ≤ T.2.1 - 1) ∧ b = 0)
    refine z_Ki.of (d2 := d - 1) (by omega) (m_fills (by omega) m oT a0 w) fun out G' h' _ hh => ?_
    obtain ⟨x, ex, hx⟩ := pM01 hh
    exact ⟨x, ex, b_X13_makes_228 hx (by rw [← ex, sStep_4 q]; exact hh)⟩
  · subst c
    by_cases x : 3 < b ∨ ¬ a + 1 < T.2.1
    · have q : ¬ nC T.2.1 5 a b := fun w => by
        have w : (0 ≤ a ∧ a ≤ T.2.1 - 2) ∧ 0 ≤ b ∧ b ≤ 3 := w
        omega
      refine z_Ki.of (d2 := d - 1) (by omega) (m_joins0 hb (by omega) (by omega) x) fun out G' h' _ hh => ?_
      obtain ⟨x, ex, hx⟩ := pM01 hh
      exact ⟨x, ex, b_X13_makes_238 hx (by rw [← ex, sStep_n q]; exact hh)⟩
    · have w : a + 1 < T.2.1 ∧ 0 ≤ b ∧ b ≤ 3 := by omega
      have q : nC T.2.1 5 a b := (by omega : (0 ≤ a ∧ a ≤ T.2.1 - 2) ∧ 0 ≤ b ∧ b ≤ 3)
      refine z_Ki.of (d2 := d - 1) (by omega) (m_joins (by omega) m oT nT w.2 a0 w.1) fun out G' h' _ hh => ?_
      obtain ⟨x, ex, hx⟩ := pM01 hh
      exact ⟨x, ex, b_X13_makes_238 hx (by rw [← ex, sStep_5 q]; exact hh)⟩
  · subst c
    by_cases x : a < 1
    · have q : ¬ nC T.2.1 6 a b := fun w => by
        have w : (1 ≤ a ∧ a ≤ T.2.1 - 1) ∧ b = 0 := w
        omega
      refine z_Ki.of (d2 := d - 1) (by omega) (m_folds0 ha x) fun out G' h' _ hh => ?_
      obtain ⟨x, ex, hx⟩ := pM01 hh
      exact ⟨x, ex, b_X13_makes_246 hx (by rw [← ex, sStep_n q]; exact hh)⟩
    · have w : 1 ≤ a ∧ a < T.2.1 := by omega
      have q : nC T.2.1 6 a b := (by omega : (1 ≤ a ∧ a ≤ T.2.1 - 1) ∧ b = 0)
      refine z_Ki.of (d2 := d - 1) (by omega) (m_folds (by omega) m oT w.1 w.2) fun out G' h' _ hh => ?_
      obtain ⟨x, ex, hx⟩ := pM01 hh
      exact ⟨x, ex, b_X13_makes_246 hx (by rw [← ex, sStep_6 q]; exact hh)⟩
  · subst c
    have q1 := c2 (by omega)
    have q2 := c1 (by omega)
    have q : nC T.2.1 7 a b := (by omega : (0 ≤ a ∧ a ≤ 0) ∧ b = 0)
    refine z_Ki.of (d2 := d - 1) (by omega) (m_unfolds (by omega) m oT) fun out G' h' _ hh => ?_
    obtain ⟨x, ex, hx⟩ := pM01 hh
    exact ⟨x, ex, b_X13_makes_253 hx (by rw [← ex, sStep_7 q]; exact hh)⟩
  · subst c
    have w : a < T.2.1 := c3 (by omega)
    have q1 := c2 (by omega)
    have q : nC T.2.1 8 a b := (by omega : (0 ≤ a ∧ a ≤ T.2.1 - 1) ∧ b = 0)
    refine z_Ki.of (d2 := d - 1) (by omega) (m_sorts (by omega) m oT nT a0 w) fun out G' h' _ hh => ?_
    obtain ⟨x, ex, hx⟩ := pM01 hh
    exact ⟨x, ex, b_X13_makes_261 hx (by rw [← ex, sStep_8 q]; exact hh)⟩
  · subst c
    have q1 := c2 (by omega)
    have q2 := c1 (by omega)
    have q : nC T.2.1 9 a b := (by omega : (0 ≤ a ∧ a ≤ 0) ∧ b = 0)
    refine z_Ki.of (d2 := d - 1) (by omega) (m_singles (by omega) m oT) fun out G' h' _ hh => ?_
    obtain ⟨x, ex, hx⟩ := pM01 hh
    exact ⟨x, ex, b_X13_makes_268 hx (by rw [← ex, sStep_9 q]; exact hh)⟩
  · subst c
    have w : a < T.2.1 := c3 (by omega)
    have q1 := c2 (by omega)
    have q : nC T.2.1 10 a b := (by omega : (0 ≤ a ∧ a ≤ T.2.1 - 1) ∧ b = 0)
    refine z_Ki.of (d2 := d - 1) (by omega) (m_counts (by omega) m oT a0 w) fun out G' h' _ hh => ?_
    obtain ⟨x, ex, hx⟩ := pM01 hh
    exact ⟨x, ex, b_X13_makes_274 hx (by rw [← ex, sStep_10 q]; exact hh)⟩
  · subst c
    by_cases x : T.2.1 ≤ b ∨ a = b
    · have q : ¬ nC T.2.1 11 a b := fun w => by
        have w : (0 ≤ a ∧ a ≤ T.2.1 - 1) ∧ (0 ≤ b ∧ b ≤ T.2.1 - 1) ∧ ¬ a = b := w
        omega
      refine z_Ki.of (d2 := d - 1) (by omega) (m_sums0 ha hb (by omega) x) fun out G' h' _ hh => ?_
      obtain ⟨x, ex, hx⟩ := pM01 hh
      exact ⟨x, ex, b_X13_makes_284 hx (by rw [← ex, sStep_n q]; exact hh)⟩
    · have w : a < T.2.1 ∧ b < T.2.1 ∧ ¬ a = b := by omega
      have q : nC T.2.1 11 a b := (by omega : (0 ≤ a ∧ a ≤ T.2.1 - 1) ∧ (0 ≤ b ∧ b ≤ T.2.1 - 1) ∧ ¬ a = b)
      refine z_Ki.of (d2 := d - 1) (by omega) (m_sums (by omega) m oT nT a0 w.1 b0 w.2.1 w.2.2) fun out G' h' _ hh => ?_
      obtain ⟨x, ex, hx⟩ := pM01 hh
      exact ⟨x, ex, b_X13_makes_284 hx (by rw [← ex, sStep_11 q]; exact hh)⟩
  · subst c
    have w : a < T.2.1 := c3 (by omega)
    have q1 := c2 (by omega)
    have q : nC T.2.1 12 a b := (by omega : (0 ≤ a ∧ a ≤ T.2.1 - 1) ∧ b = 0)
    refine z_Ki.of (d2 := d - 1) (by omega) (m_keeps (by omega) m oT a0 w) fun out G' h' _ hh => ?_
    obtain ⟨x, ex, hx⟩ := pM01 hh
    exact ⟨x, ex, b_X13_makes_292 hx (by rw [← ex, sStep_12 q]; exact hh)⟩
  · subst c
    have q1 := c2 (by omega)
    have q2 := c1 (by omega)
    have q : nC T.2.1 13 a b := (by omega : (0 ≤ a ∧ a ≤ 0) ∧ b = 0)
    refine z_Ki.of (d2 := d - 1) (by omega) (m_loses (by omega) m oT) fun out G' h' _ hh => ?_
    obtain ⟨x, ex, hx⟩ := pM01 hh
    exact ⟨x, ex, b_X13_makes_299 hx (by rw [← ex, sStep_13 q]; exact hh)⟩
  · obtain rfl : n = 14 := by omega
    by_cases x : ¬ a + 1 < T.2.1
    · have q : ¬ nC T.2.1 14 a b := fun w => by
        have w : (0 ≤ a ∧ a ≤ T.2.1 - 2) ∧ b = 0 := w
        omega
      refine z_Ki.of (d2 := d - 1) (by omega) (m_swaps0 (by omega) (by omega) x) fun out G' h' _ hh => ?_
      obtain ⟨x, ex, hx⟩ := pM01 hh
      exact ⟨x, ex, b_X13_makes_307 hx (by rw [← ex, sStep_n q]; exact hh)⟩
    · have w : a + 1 < T.2.1 := by omega
      have q : nC T.2.1 14 a b := (by omega : (0 ≤ a ∧ a ≤ T.2.1 - 2) ∧ b = 0)
      refine z_Ki.of (d2 := d - 1) (by omega) (m_swaps (by omega) m oT a0 w) fun out G' h' _ hh => ?_
      obtain ⟨x, ex, hx⟩ := pM01 hh
      exact ⟨x, ex, b_X13_makes_307 hx (by rw [← ex, sStep_14 q]; exact hh)⟩
theorem m_makes (hd : 6 ≤ d) {k n a b : Int} {T : zTb} (m : isM h k T) (k0 : 0 ≤ k) (k1 : k < 12) (k10 : ¬ k = 10) (oT : okT T) (hn : 1 ≤ n ∧ n ≤ 14) (ha : z_in a) (hb : z_in b) : z_CY D M_X13_makes d [(2, 88), (0, k), (0, n), (0, a), (0, b)] G h (fun out G' h' => G' = G ∧ frM h h' ∧ match sMake n a b T with
  | some T => out = .inl (some (0, 1)) ∧ isM h' 10 T
  | none => out = .inl (some (0, 0))) := by
  have sh := oT.1
  have m2 : mS (z_wr (z_wr h 88 3 k) 88 4 (h 89 k)) k T := ⟨by rw [w_nj (by omega), w_s], by rw [w_s]; exact m.1, ⟨by rw [w_na (by omega), w_na (by omega)]; exact m.1, by rw [w_na (by omega), w_na (by omega)]; exact m.2.1, fun r c a1 a2 a3 a4 => by rw [w_na (by omega), w_na (by omega)]; exact m.2.2 r c a1 a2 a3 a4⟩, k0, k1, k10⟩
  have fm : frM h (z_wr (z_wr h 88 3 k) 88 4 (h 89 k)) := fun x j n1 n2 n3 n4 => by
    unfold z_wr
    rw [if_neg (fun q => n1 ⟨q.1, Or.inr q.2⟩), if_neg (fun q => n1 ⟨q.1, Or.inl q.2⟩)]
  refine z_begin mo_X13_makes rfl (nle rfl) (b_X13_makes_0 k0 k1 ?_)
  refine z_Ki.of (d2 := d - 1) (by omega) (a_X13_hasAny (by omega) m2.2.2.1 oT k0 k1) ?_
  rintro out G' h1 hl1 ⟨r1, rfl, rfl⟩
  refine ⟨_, r1, ?_⟩
  rw [m.2.1]
  have no : sMake n a b T = none → ∀ {P : Prop}, P → (fun (out : zO) (G'' : zG) (h' : zH) => G'' = G' ∧ frM h h' ∧ match sMake n a b T with
  | some T => out = .inl (some (0, 1)) ∧ isM h' 10 T
  | none => out = .inl (some (0, 0))) (.inl (some (0, 0))) G' (z_wr (z_wr h 88 3 k) 88 4 (h 89 k)) := fun e _ _ => by
    refine ⟨rfl, fm, ?_⟩
    rw [e]
  have nn : ¬ nC T.2.1 n a b → sMake n a b T = none := fun w => by
    unfold sMake
    by_cases q : noA T
    · rw [zif1 q, sStep_n w]
    · rw [zif0 q]
  have g127 : noA T → 0 ≤ a → 0 ≤ b → (n = 1 ∨ n = 7 ∨ n = 9 ∨ n = 13 → a = 0) → (¬ (n = 3 ∨ n = 5 ∨ n = 11) → b = 0) → (¬ (n = 1 ∨ n = 7 ∨ n = 9 ∨ n = 13) → a < T.2.1) → z_Y D M_X13_makes d 127 [(0, 2, 88), (2, 0, n), (3, 0, a), (4, 0, b), (5, 0, T.2.1)] [] G' (z_wr (z_wr h 88 3 k) 88 4 (h 89 k)) (fun out G'' h' => G'' = G' ∧ frM h h' ∧ match sMake n a b T with
  | some T => out = .inl (some (0, 1)) ∧ isM h' 10 T
  | none => out = .inl (some (0, 0))) := fun nT a0 b0 c1 c2 c3 => by
    refine (l_makes127 hd m2 oT nT hn ha hb a0 b0 c1 c2 c3).mono fun o G'' h' _ q => ⟨q.1, fm.tr q.2.1.M, ?_⟩
    have e : sMake n a b T = sStep n a b T := by unfold sMake; rw [zif1 nT]
    rw [e]
    exact q.2.2
  have g93 : noA T → 0 ≤ a → 0 ≤ b → ∀ pl ht : Int, (pl = 1 ∧ (n = 1 ∨ n = 7 ∨ n = 9 ∨ n = 13) ∨ pl = 0 ∧ ¬ (n = 1 ∨ n = 7 ∨ n = 9 ∨ n = 13)) → (ht = 1 ∧ (n = 3 ∨ n = 5 ∨ n = 11) ∨ ht = 0 ∧ ¬ (n = 3 ∨ n = 5 ∨ n = 11)) → z_Y D M_X13_makes d 93 [(0, 2, 88), (2, 0, n), (3, 0, a), (4, 0, b), (5, 0, T.2.1), (6, 0, pl)] [(0, ht)] G' (z_wr (z_wr h 88 3 k) 88 4 (h 89 k)) (fun out G'' h' => G'' = G' ∧ frM h h' ∧ match sMake n a b T with
  | some T => out = .inl (some (0, 1)) ∧ isM h' 10 T
  | none => out = .inl (some (0, 0))) := fun nT a0 b0 pl ht hp hh => by
    have g114 : (pl = 1 → a = 0) → (ht = 0 → b = 0) → z_Y D M_X13_makes d 114 [(0, 2, 88), (2, 0, n), (3, 0, a), (4, 0, b), (5, 0, T.2.1), (6, 0, pl)] [] G' (z_wr (z_wr h 88 3 k) 88 4 (h 89 k)) (fun out G'' h' => G'' = G' ∧ frM h h' ∧ match sMake n a b T with
  | some T => out = .inl (some (0, 1)) ∧ isM h' 10 T
  | none => out = .inl (some (0, 0))) := fun e1 e2 => b_X13_makes_114 ⟨by omega, by omega⟩ (fun _ => ha) (fun _ => ⟨by omega, by omega⟩) (fun c => g127 nT a0 b0 (by omega) (by omega) (by omega)) (fun _ c => g127 nT a0 b0 (by omega) (by omega) (by omega)) (fun c c2 => no (nn fun w => c2 (nC_a (by omega) hn w)) trivial)
    have g104 : (pl = 1 → a = 0) → z_Y D M_X13_makes d 104 [(0, 2, 88), (2, 0, n), (3, 0, a), (4, 0, b), (5, 0, T.2.1), (6, 0, pl), (7, 0, ht)] [] G' (z_wr (z_wr h 88 3 k) 88 4 (h 89 k)) (fun out G'' h' => G'' = G' ∧ frM h h' ∧ match sMake n a b T with
  | some T => out = .inl (some (0, 1)) ∧ isM h' 10 T
  | none => out = .inl (some (0, 0))) := fun e1 => b_X13_makes_104 ⟨by omega, by omega⟩ (fun _ => hb) (fun c => g114 e1 (by omega)) (fun c c2 => no (nn fun w => c2 (nC_b (by omega) w)) trivial) (fun c c2 => g114 e1 (by omega))
    exact b_X13_makes_93 ⟨by omega, by omega⟩ (fun _ => ha) (fun c => g104 (by omega)) (fun c c2 => no (nn fun w => c2 (nC_pl (by omega) w).1) trivial) (fun c c2 => g104 (by omega))
  have g70 : noA T → 0 ≤ a → 0 ≤ b → ∀ pl : Int, (pl = 1 ∧ (n = 1 ∨ n = 7 ∨ n = 9 ∨ n = 13) ∨ pl = 0 ∧ ¬ (n = 1 ∨ n = 7 ∨ n = 9 ∨ n = 13)) → z_Y D M_X13_makes d 70 [(0, 2, 88), (2, 0, n), (3, 0, a), (4, 0, b), (5, 0, T.2.1)] [(0, pl)] G' (z_wr (z_wr h 88 3 k) 88 4 (h 89 k)) (fun out G'' h' => G'' = G' ∧ frM h h' ∧ match sMake n a b T with
  | some T => out = .inl (some (0, 1)) ∧ isM h' 10 T
  | none => out = .inl (some (0, 0))) := fun nT a0 b0 pl hp => b_X13_makes_70 ⟨by omega, by omega⟩ (fun c => b_X13_makes_88 (g93 nT a0 b0 pl 1 hp (by omega))) (fun _ c => b_X13_makes_88 (g93 nT a0 b0 pl 1 hp (by omega))) (fun _ _ c => g93 nT a0 b0 pl 0 hp (by omega)) (fun _ _ c => b_X13_makes_88 (g93 nT a0 b0 pl 1 hp (by omega)))
  refine b_X13_makes_28 (zb_in _) (fun _ => ha) (fun _ _ => hb) (fun _ _ _ => ⟨by omega, by omega⟩) (fun c => no ?_ trivial) (fun c c2 => no (nn fun w => by have := nC_0 w; omega) trivial) (fun c c2 c3 e => ?_) (fun c c2 c3 _ e => ?_) (fun c c2 c3 _ _ e => ?_) (fun c c2 c3 _ _ _ e => ?_) (fun c c2 c3 _ _ _ e => ?_) (fun c c2 c3 => no (nn fun w => by have := nC_0 w; omega) trivial)
  · unfold sMake
    rw [zif0 (zb_ne c)]
  · exact b_X13_makes_65 (g70 (Classical.not_not.mp (zb_eq (Classical.not_not.mp c))) (by omega) c3 1 (by omega))
  · exact b_X13_makes_65 (g70 (Classical.not_not.mp (zb_eq (Classical.not_not.mp c))) (by omega) c3 1 (by omega))
  · exact b_X13_makes_65 (g70 (Classical.not_not.mp (zb_eq (Classical.not_not.mp c))) (by omega) c3 1 (by omega))
  · exact g70 (Classical.not_not.mp (zb_eq (Classical.not_not.mp c))) (by omega) c3 0 (by omega)
  · exact b_X13_makes_65 (g70 (Classical.not_not.mp (zb_eq (Classical.not_not.mp c))) (by omega) c3 1 (by omega))
end Mst19
