section Mst6
variable {D : zD} {d : Nat} {G : zG} {h h0 h1 : zH} {Q : zO → zG → zH → Prop}
/-! loses -/
theorem l_loses12 (hd : 4 ≤ d) {k : Int} {T : zTb} (m : mS h0 k T) (oT : okT T) (t2 : 2 ≤ T.1) : ∀ (mm : Nat) (x : Int) (h : zH), x = T.1 - 1 - mm → 0 ≤ x → frN h0 h → (∀ j : Int, 0 ≤ j → j < x → h 94 j = j + 1) →
    z_Y D M_X13_loses d 12 [(0, 2, 88), (1, 0, T.2.1), (2, 0, x)] [] G h (pM G h0 (sHead T)) := by
  have sh := oT.1
  intro mm
  induction mm with
  | zero =>
    intro x h e x0 f hj
    have m' := m.fr f
    have e4 := m'.2.1
    refine b_X13_loses_12 ⟨by omega, by omega⟩ ⟨by omega, by omega⟩ (fun c => by omega) (fun c => by omega) (fun _ => ?_) (fun c => by omega)
    rw [e4]
    refine z_Kv.of (d2 := d - 1) (by omega) (m_rowsBy (g := fun r => r + 1) (by omega) m' oT (by omega) (by omega) fun j j0 j1 => ⟨hj j j0 (by omega), by omega, by omega⟩) ?_
    rintro out G' h2 hl2 ⟨r2, rfl, f2, k2⟩
    refine ⟨r2, b_X13_loses_48 ?_⟩
    rw [sHead, zif1 t2]
    exact ⟨rfl, f.tr f2, rfl, k2⟩
  | succ mm ih =>
    intro x h e x0 f hj
    have m' := m.fr f
    have e4 := m'.2.1
    refine b_X13_loses_12 ⟨by omega, by omega⟩ ⟨by omega, by omega⟩ (fun c => by omega) (fun c => by omega) (fun c => by omega) (fun c => ih (x + 1) _ (by omega) (by omega) (f.w (Or.inr (Or.inr ⟨by omega, by omega⟩))) fun j j0 j1 => ?_)
    by_cases q : j = x
    · rw [q, w_s]
    · rw [w_nj q]; exact hj j j0 (by omega)
theorem m_loses (hd : 4 ≤ d) {k : Int} {T : zTb} (m : mS h k T) (oT : okT T) : z_CY D M_X13_loses d [(2, 88), (0, T.2.1)] G h (pM G h (sHead T)) := by
  have sh := oT.1
  have e4 := m.2.1
  refine z_begin mo_X13_loses rfl (nle rfl) (b_X13_loses_0 ⟨by omega, by omega⟩ (fun c => l_loses12 hd m oT (by omega) (T.1 - 1).toNat 0 h (by omega) (by omega) frN.rf (fun j a b => by omega)) (fun c => ?_))
  rw [sHead, zif0 (by omega)]
  exact ⟨rfl, frN.rf, rfl⟩
/-! keeps -/
theorem l_keeps5 (hd : 4 ≤ d) {k a : Int} {T : zTb} (m : mS h0 k T) (oT : okT T) (ha : 0 ≤ a) (ha' : a < T.2.1) {p : Int → Prop} (ep : p = fun r => ¬ T.2.2 r a = 0) : ∀ (mm : Nat) (x : Int) (h : zH), x = T.1 - mm → 0 ≤ x → frN h0 h → (∀ q : Int, 0 ≤ q → q < x → p q → h 94 (zct p q.toNat) = q) →
    z_Y D M_X13_keeps d 5 [(0, 2, 88), (1, 0, T.2.1), (2, 0, a), (3, 0, zct p x.toNat), (4, 0, x)] [] G h (pM G h0 (sKeep a T)) := by
  have sh := oT.1
  intro mm
  induction mm with
  | zero =>
    intro x h e x0 f k
    have m' := m.fr f
    have e4 := m'.2.1
    have ex : x = T.1 := by omega
    have rg := zct_r (p := p) x0
    rw [ex] at k rg ⊢
    refine b_X13_keeps_5 (by omega) ⟨by omega, by omega⟩ ⟨by omega, by omega⟩ (fun _ => ⟨by omega, by omega⟩) (fun c => by omega) (fun c => by omega) (fun c => by omega) (fun c => by omega) (fun c => by omega) (fun c c2 => ?_) (fun c c2 c3 => ?_) (fun c c2 c3 => ?_) (fun c => by omega) (fun c => by omega)
    · rw [sKeep, ← ep, zif0 (fun w => by omega)]
      exact ⟨rfl, f, rfl⟩
    · rw [sKeep, ← ep, zif1 (by omega)]
      refine z_Kv.of (d2 := d - 1) (by omega) (m_rowsBy (g := zse p T.1.toNat) (by omega) m' oT (by omega) (by omega) fun j j0 j1 => sel_of (by omega) k j0 j1) ?_
      rintro out G' h2 hl2 ⟨r2, rfl, f2, k2⟩
      exact ⟨r2, b_X13_keeps_66 ⟨rfl, f.tr f2, rfl, k2⟩⟩
    · rw [sKeep, ← ep, zif0 (fun w => by have := Classical.not_not.mp c3; omega)]
      exact ⟨rfl, f, rfl⟩
  | succ mm ih =>
    intro x h e x0 f k
    have m' := m.fr f
    have e4 := m'.2.1
    have j1 := m'.at oT x0 (show x < T.1 by omega) ha ha'
    have ss := zct_s (p := p) x0
    have rg := zct_r (p := p) x0
    have px : p x ↔ ¬ T.2.2 x a = 0 := by rw [ep]
    refine b_X13_keeps_5 (by omega) ⟨by omega, by omega⟩ ⟨by omega, by omega⟩ (fun c => by omega) (fun _ => j1.1) (fun _ => j1.2.1) (fun _ => j1.2.2.2) (fun _ _ => by omega) (fun _ _ => by omega) (fun c => by omega) (fun c => by omega) (fun c => by omega) (fun c c2 => ?_) (fun c c2 => ?_)
    · rw [j1.2.2.1] at c2
      have pp : p x := px.2 c2
      rw [z_b1 pp] at ss
      rw [← ss]
      refine ih (x + 1) _ (by omega) (by omega) (f.w (Or.inr (Or.inr (by omega)))) fun q q0 q1 pq => ?_
      by_cases w : q = x
      · subst w
        rw [w_s]
      · have := zct_lt q0 (show q < x by omega) pq
        rw [w_nj (by omega)]
        exact k q q0 (by omega) pq
    · rw [j1.2.2.1] at c2
      have np : ¬ p x := fun w => px.1 w (Classical.not_not.mp c2)
      rw [z_b0 np] at ss
      rw [show zct p x.toNat = zct p (x + 1).toNat by omega]
      refine ih (x + 1) h (by omega) (by omega) f fun q q0 q1 pq => k q q0 ?_ pq
      have : ¬ q = x := fun w => np (by rw [← w]; exact pq)
      omega
theorem m_keeps (hd : 4 ≤ d) {k a : Int} {T : zTb} (m : mS h k T) (oT : okT T) (ha : 0 ≤ a) (ha' : a < T.2.1) : z_CY D M_X13_keeps d [(2, 88), (0, T.2.1), (0, a)] G h (pM G h (sKeep a T)) := by
  have sh := oT.1
  exact z_begin mo_X13_keeps rfl (nle rfl) (b_X13_keeps_0 (l_keeps5 hd m oT ha ha' rfl T.1.toNat 0 h (by omega) (by omega) frN.rf (fun q a b => by omega)))
/-! swaps -/
theorem frN_bec {u : Int} : frN h (z_cp (z_wr (z_wr h 89 10 (h 89 u)) 90 10 (h 90 u)) 91 (72 * u) 91 (72 * 10) 72) := fun x j n1 n2 n3 => by
  unfold z_cp
  rw [if_neg (fun q => n2 ⟨q.1, by omega, by omega⟩)]
  exact ((frN.rf.w (Or.inl ⟨Or.inl rfl, rfl⟩)).w (Or.inl ⟨Or.inr rfl, rfl⟩)) x j n1 n2 n3
theorem isM.to {k : Int} {T U : zTb} {P : Int → Int → Prop} (m : isM h k T) (u1 : U.1 = T.1) (u2 : U.2.1 = T.2.1) (hp : ∀ r c : Int, 0 ≤ r → r < T.1 → 0 ≤ c → c < T.2.1 → P r c → U.2.2 r c = T.2.2 r c) : isN h k U P := by
  refine ⟨by rw [u1]; exact m.1, by rw [u2]; exact m.2.1, fun r c a1 a2 a3 a4 p => ?_⟩
  rw [m.2.2 r c a1 a2 a3 a4]
  unfold nrm
  rw [u1, u2]
  by_cases q : r < T.1 ∧ c < T.2.1
  · rw [if_pos q, if_pos q, hp r c a1 q.1 a3 q.2 p]
  · rw [if_neg q, if_neg q]
theorem l_swaps21 (hd : 3 ≤ d) {k a : Int} {T U : zTb} (m : mS h0 k T) (oT : okT T) (u1 : U.1 = T.1) (u2 : U.2.1 = T.2.1) (v1 : ∀ r : Int, T.2.2 r (a + 1) = U.2.2 r a) (v2 : ∀ r : Int, T.2.2 r a = U.2.2 r (a + 1)) (ha : 0 ≤ a) (ha' : a + 1 < T.2.1) : ∀ (n : Nat) (x3 : Int) (h : zH), x3 = T.1 - n → 0 ≤ x3 → frN h0 h → isN h 10 U (fun r c => T.1 ≤ r ∨ r < x3 ∨ (¬ c = a ∧ ¬ c = a + 1)) →
    z_Y D M_X13_swaps d 21 [(0, 2, 88), (2, 0, a), (3, 0, x3)] [] G h (pM G h0 (some U)) := by
  have sh := oT.1
  intro n
  induction n with
  | zero =>
    intro x3 h e h3 f k
    have e4 := (m.fr f).2.1
    exact b_X13_swaps_21 hd ⟨by omega, by omega⟩ ⟨by omega, by omega⟩ (fun c => by omega) (fun c => by omega) (fun c => by omega) (fun c => by omega) (fun c => by omega) (fun c => by omega) (fun c => by omega) (fun c => by omega) (fun _ => ⟨rfl, f, rfl, k.all fun r c b1 b2 b3 b4 => by omega⟩) (fun c => by omega)
  | succ n ih =>
    intro x3 h e h3 f k
    have m' := m.fr f
    have e4 := m'.2.1
    have j1 := m'.at oT h3 (show x3 < T.1 by omega) ha (by omega)
    have j2 := m'.at oT h3 (show x3 < T.1 by omega) (show 0 ≤ a + 1 by omega) ha'
    have ek := m'.1
    have kk := m'.2.2.2
    refine b_X13_swaps_21 hd ⟨by omega, by omega⟩ ⟨by omega, by omega⟩ (fun c => j2.1) (fun c => j2.2.1) (fun c => by omega) (fun c => by omega) (fun c => j1.1) (fun c => j1.2.1) (fun c => by omega) (fun c => by omega) (fun c => by omega) (fun c => ?_)
    rw [w_nj (show ¬ 72 * h 88 3 + 6 * x3 + a = 72 * 10 + 6 * x3 + a by omega), j1.2.2.1, j2.2.2.1]
    refine ih (x3 + 1) _ (by omega) (by omega) ((f.w (Or.inr (Or.inl ⟨rfl, by omega, by omega⟩))).w (Or.inr (Or.inl ⟨rfl, by omega, by omega⟩))) ?_
    have q := isN_put (P' := fun r c => T.1 ≤ r ∨ r < x3 ∨ (¬ c = a ∧ ¬ c = a + 1) ∨ (r = x3 ∧ c = a)) k h3 (by omega) ha (by omega) (by omega) (v1 x3) (fun r c b1 b2 b3 b4 p => by omega)
    exact isN_put (P' := fun r c => T.1 ≤ r ∨ r < x3 + 1 ∨ (¬ c = a ∧ ¬ c = a + 1)) q h3 (by omega) (show 0 ≤ a + 1 by omega) (by omega) (by omega) (v2 x3) (fun r c b1 b2 b3 b4 p => by omega)
theorem m_swaps (hd : 3 ≤ d) {k a : Int} {T : zTb} (m : mS h k T) (oT : okT T) (ha : 0 ≤ a) (ha' : a + 1 < T.2.1) : z_CY D M_X13_swaps d [(2, 88), (0, T.2.1), (0, a)] G h (pM G h (sSwap a T)) := by
  have sh := oT.1
  have e3 := m.1
  have kk := m.2.2.2
  refine z_begin mo_X13_swaps rfl (nle rfl) (b_X13_swaps_0 ⟨by omega, by omega⟩ ⟨by omega, by omega⟩ (fun c => ?_) (fun c => by omega))
  rw [e3]
  refine z_Kv.of (d2 := d - 1) (by omega) (a_X13_become 10 k (by omega) (by omega) (by omega) (by omega) (by omega)) ?_
  rintro out G' h2 hl2 ⟨r2, rfl, rfl⟩
  have mb := isM_bec (h := h) (k := 10) (u := k) (by omega) (by omega) (by omega) m.2.2.1
  unfold sSwap
  generalize eU : ((T.1, T.2.1, fun r c => if c = a then T.2.2 r (a + 1) else if c = a + 1 then T.2.2 r a else T.2.2 r c) : zTb) = U
  have u1 : U.1 = T.1 := by rw [← eU]
  have u2 : U.2.1 = T.2.1 := by rw [← eU]
  refine ⟨r2, b_X13_swaps_19 (l_swaps21 hd m oT u1 u2 (fun r => ?_) (fun r => ?_) ha ha' T.1.toNat 0 _ (by omega) (by omega) frN_bec (mb.to u1 u2 fun r c b1 b2 b3 b4 p => ?_))⟩
  · rw [← eU]; simp
  · rw [← eU]; dsimp only; rw [if_neg (by omega), if_pos rfl]
  · rw [← eU]; dsimp only; rw [if_neg (by omega), if_neg (by omega)]
end Mst6
