section Mst10
variable {D : zD} {d : Nat} {G : zG} {h h0 h1 : zH} {Q : zO → zG → zH → Prop}
/-! singles -/
theorem l_singles4 (hd : 5 ≤ d) {k : Int} {T : zTb} (m : mS h0 k T) (oT : okT T) {p : Int → Prop} (ep : zF T 0 T.2.1 = p) : ∀ (mm : Nat) (x : Int) (h : zH), x = T.1 - mm → 0 ≤ x → frN h0 h → (∀ q : Int, 0 ≤ q → q < x → p q → h 94 (zct p q.toNat) = q) →
    z_Y D M_X13_singles d 4 [(0, 2, 88), (1, 0, T.2.1), (2, 0, zct p x.toNat), (3, 0, x)] [] G h (pM G h0 (sSingle T)) := by
  have sh := oT.1
  intro mm
  induction mm with
  | zero =>
    intro x h e x0 f k
    have m' := m.fr f
    have e4 := m'.2.1
    have ex : x = T.1 := by omega
    have rg := zct_r (p := p) x0
    rw [ex] at k rg ⊢
    refine b_X13_singles_4 ⟨by omega, by omega⟩ ⟨by omega, by omega⟩ (fun _ => z_Kv.of (d2 := d - 1) (by omega) (m_rowsBy (g := zse p T.1.toNat) (by omega) m' oT (by omega) (by omega) fun j j0 j1 => sel_of (by omega) k j0 j1) ?_) (fun c => by omega)
    rintro out G' h2 hl2 ⟨r2, rfl, f2, k2⟩
    have e4' := (m'.fr f2).2.1
    refine ⟨r2, b_X13_singles_47 ⟨by omega, by omega⟩ ⟨by omega, by omega⟩ (fun c => ?_) (fun c => ?_)⟩
    · rw [sSingle, ep, zif0 (by omega)]
      exact ⟨rfl, f.tr f2, rfl⟩
    · rw [sSingle, ep, zif1 (by omega)]
      exact ⟨rfl, f.tr f2, rfl, k2⟩
  | succ mm ih =>
    intro x h e x0 f k
    have m' := m.fr f
    have e4 := m'.2.1
    have ss := zct_s (p := p) x0
    have rg := zct_r (p := p) x0
    have lF := zls_F (T := T) (f := 0) (t := T.2.1) x0
    rw [ep] at lF
    obtain ⟨s, ⟨sa, sb⟩, -, -, se⟩ := zF_of (T := T) (f := 0) (t := T.2.1) x0
    refine b_X13_singles_4 ⟨by omega, by omega⟩ ⟨by omega, by omega⟩ (fun c => by omega) (fun c => z_Ki.of (d2 := d - 1) (by omega) (a_X13_firstLike (by omega) m' oT x0 (by omega) (by omega) (by omega)) fun o G' h' _ hh => ⟨_, hh.1, ?_⟩)
    rw [hh.2.1, hh.2.2]
    refine b_X13_singles_18 (by rw [se]; exact ⟨by omega, by omega⟩) ⟨by omega, by omega⟩ (fun _ => by omega) (fun _ => by omega) (fun c => ?_) (fun c => ?_)
    · have pp : p x := lF.1 c
      rw [z_b1 pp] at ss
      rw [← ss]
      refine ih (x + 1) _ (by omega) (by omega) (f.w (Or.inr (Or.inr (by omega)))) fun q q0 q1 pq => ?_
      by_cases w : q = x
      · subst w
        rw [w_s]
      · have := zct_lt q0 (show q < x by omega) pq
        rw [w_nj (by omega)]
        exact k q q0 (by omega) pq
    · have np : ¬ p x := fun w => c (lF.2 w)
      rw [z_b0 np] at ss
      rw [show zct p x.toNat = zct p (x + 1).toNat by omega]
      refine ih (x + 1) h (by omega) (by omega) f fun q q0 q1 pq => k q q0 ?_ pq
      have : ¬ q = x := fun w => np (by rw [← w]; exact pq)
      omega
theorem m_singles (hd : 5 ≤ d) {k : Int} {T : zTb} (m : mS h k T) (oT : okT T) : z_CY D M_X13_singles d [(2, 88), (0, T.2.1)] G h (pM G h (sSingle T)) := by
  have sh := oT.1
  exact z_begin mo_X13_singles rfl (nle rfl) (b_X13_singles_0 (l_singles4 hd m oT rfl T.1.toNat 0 h (by omega) (by omega) frN.rf (fun q a b => by omega)))
/-! sorts -/
theorem l_sorts18 (hd : 3 ≤ d) {k a r : Int} {T : zTb} (m : mS h0 k T) (oT : okT T) (nT : noA T) (ha : 0 ≤ a) (ha' : a < T.2.1) {key : Int → Int} (ek : ∀ r : Int, key r = zkey (T.2.2 r a)) (r0 : 0 ≤ r) (r1 : r < T.1) : ∀ (p : Nat) (g : Int → Int) (x3 : Int) (h : zH), (p : Int) ≤ r → frN h0 h → (∀ j : Int, 0 ≤ j → j ≤ r → ¬ j = p → h 94 j = g j ∧ 0 ≤ g j ∧ g j ≤ r) →
    (∀ h' : zH, frN h0 h' → (∀ j : Int, 0 ≤ j → j ≤ r → z_wr h' 94 (zsi key r p g).1 r 94 j = (zsi key r p g).2 j) → ∀ y : Int, y = (if (zsi key r p g).1 < p then 1 else x3) → z_Y D M_X13_sorts d 78 [(0, 2, 88), (1, 0, T.2.1), (2, 0, a), (3, 0, y), (4, 0, r), (5, 0, (zsi key r p g).1)] [] G h' Q) →
    z_Y D M_X13_sorts d 18 [(0, 2, 88), (1, 0, T.2.1), (2, 0, a), (3, 0, x3), (4, 0, r), (5, 0, (p : Int))] [] G h Q := by
  have sh := oT.1
  intro p
  induction p with
  | zero =>
    intro g x3 h hp f hg kk
    refine b_X13_sorts_18 hd ⟨by omega, by omega⟩ (fun c => by omega) (fun c => by omega) (fun c => by omega) (fun c => by omega) (fun c => by omega) (fun c => by omega) (fun c => by omega) (fun c => by omega) (fun c => by omega) (fun c => by omega) (fun c => by omega) (fun c => by omega) (fun c => by omega) (fun c => by omega) (fun _ => kk h f (fun j j0 j1 => ?_) x3 ?_) (fun c => by omega) (fun c => by omega)
    · show z_wr h 94 0 r 94 j = zup g 0 r j
      unfold zup z_wr
      by_cases e : j = 0
      · rw [if_pos ⟨rfl, e⟩, if_pos e]
      · rw [if_neg (fun w => e w.2), if_neg e]
        exact (hg j j0 j1 (by omega)).1
    · rw [if_neg (show ¬ (zsi key r 0 g).1 < ((0 : Nat) : Int) by rw [zsi]; dsimp only; omega)]
  | succ p ih =>
    intro g x3 h hp f hg kk
    have m' := m.fr f
    have gp := hg p (by omega) (by omega) (by omega)
    have j1 := m'.at oT gp.2.1 (show g p < T.1 by omega) ha ha'
    have j2 := m'.at oT r0 r1 ha ha'
    have w1 := nT (g p) a (by omega) (by omega) (by omega) (by omega)
    have w2 := oT.2 (g p) a (by omega) (by omega) (by omega) (by omega)
    have w3 := nT r a (by omega) (by omega) (by omega) (by omega)
    have w4 := oT.2 r a (by omega) (by omega) (by omega) (by omega)
    have y1 := zkey_rg w1 w2.2
    have y2 := zkey_rg w3 w4.2
    have ep : ((p + 1 : Nat) : Int) - 1 = p := by omega
    refine b_X13_sorts_18 hd ⟨by omega, by omega⟩ (fun c => by omega) (fun c => by omega) (fun c => by rw [ep, gp.1]; exact j1.1) (fun c => by rw [ep, gp.1]; exact j1.2.1) (fun c => by rw [ep, gp.1, j1.2.2.1]; exact w1) (fun c => by rw [ep, gp.1, j1.2.2.1]; exact w2.2) (fun c => j2.1) (fun c => j2.2.1) (fun c => by rw [j2.2.2.1]; exact w3) (fun c => by rw [j2.2.2.1]; exact w4.2) (fun c => by rw [ep, gp.1, j1.2.2.1]; exact ⟨by omega, by omega⟩) (fun c => by rw [j2.2.2.1]; exact ⟨by omega, by omega⟩) (fun c c2 => by omega) (fun c c2 => by omega) (fun c => by omega) (fun c c2 => ?_) (fun c c2 => ?_)
    · rw [ep, gp.1, j1.2.2.1, j2.2.2.1, ← ek, ← ek] at c2
      rw [zsi, zif1 c2] at kk
      refine kk h f (fun j j0 j1 => ?_) x3 ?_
      · show z_wr h 94 (p + 1 : Nat) r 94 j = zup g (p + 1 : Nat) r j
        unfold zup z_wr
        by_cases e : j = (p + 1 : Nat)
        · rw [if_pos ⟨rfl, e⟩, if_pos e]
        · rw [if_neg (fun w => e w.2), if_neg e]
          exact (hg j j0 j1 e).1
      · dsimp only
        rw [if_neg (by omega)]
    · rw [ep, gp.1, j1.2.2.1, j2.2.2.1, ← ek, ← ek] at c2
      rw [zsi, zif0 c2] at kk
      rw [ep, gp.1, show ((p + 1 : Nat) : Int) + -1 = p by omega]
      have hg' : ∀ j : Int, 0 ≤ j → j ≤ r → ¬ j = p → 0 ≤ zup g (p + 1 : Nat) (g p) j ∧ zup g (p + 1 : Nat) (g p) j ≤ r := fun j j0 j1 jn => by
        unfold zup
        split
        · exact gp.2
        · next e => exact (hg j j0 j1 e).2
      have rg := zsi_rg (key := key) r0 p (zup g (p + 1 : Nat) (g p)) (by omega) hg'
      refine ih (zup g (p + 1 : Nat) (g p)) 1 _ (by omega) (f.w (Or.inr (Or.inr (by omega)))) (fun j j0 j1 jn => ?_) (fun h' f' hk' y ey => kk h' f' hk' y ?_)
      · refine ⟨?_, hg' j j0 j1 jn⟩
        unfold zup z_wr
        by_cases e : j = (p + 1 : Nat)
        · rw [if_pos ⟨rfl, e⟩, if_pos e]
        · rw [if_neg (fun w => e w.2), if_neg e]
          exact (hg j j0 j1 e).1
      · rw [ey, if_pos (show (zsi key r p (zup g (p + 1 : Nat) (g p))).1 < ((p + 1 : Nat) : Int) by omega)]
        split <;> rfl
theorem l_sorts5 (hd : 4 ≤ d) {k a : Int} {T : zTb} (m : mS h0 k T) (oT : okT T) (nT : noA T) (ha : 0 ≤ a) (ha' : a < T.2.1) {key : Int → Int} (ek : key = fun r => zkey (T.2.2 r a)) : ∀ (mm r : Nat) (h : zH), (r : Int) = T.1 - mm → frN h0 h → (∀ j : Int, 0 ≤ j → j < r → h 94 j = zso key r j) →
    z_Y D M_X13_sorts d 5 [(0, 2, 88), (1, 0, T.2.1), (2, 0, a), (3, 0, z_b (zmv key r)), (4, 0, (r : Int))] [] G h (pM G h0 (sSort a T)) := by
  have sh := oT.1
  intro mm
  induction mm with
  | zero =>
    intro r h e f hk
    have m' := m.fr f
    have e4 := m'.2.1
    have er : T.1.toNat = r := by omega
    refine b_X13_sorts_5 ⟨by omega, by omega⟩ ⟨by omega, by omega⟩ (fun _ => ?_) (fun c => by omega)
    rw [e4]
    refine z_Kv.of (d2 := d - 1) (by omega) (m_rowsBy (g := zso key r) (by omega) m' oT (by omega) (by omega) fun j j0 j1 => ⟨hk j j0 (by omega), by have := zso_rg (key := key) r j j0 (by omega); omega⟩) ?_
    rintro out G' h2 hl2 ⟨r2, rfl, f2, k2⟩
    refine ⟨r2, b_X13_sorts_102 (z_b01 _) ?_⟩
    rw [sSort, ← ek, er]
    by_cases mv : zmv key r
    · rw [zif1 mv, z_b1 mv]
      exact ⟨rfl, f.tr f2, rfl, k2⟩
    · rw [zif0 mv, z_b0 mv]
      exact ⟨rfl, f.tr f2, rfl⟩
  | succ mm ih =>
    intro r h e f hk
    have e4 := (m.fr f).2.1
    have hg : ∀ j : Int, 0 ≤ j → j ≤ r → ¬ j = r → 0 ≤ zso key r j ∧ zso key r j ≤ r := fun j k0 k1 kn => by have := zso_rg (key := key) r j k0 (by omega); omega
    have rg := zsi_rg (key := key) (r := r) (by omega) r (zso key r) (Int.le_refl _) hg
    refine b_X13_sorts_5 ⟨by omega, by omega⟩ ⟨by omega, by omega⟩ (fun c => by omega) (fun c => l_sorts18 (key := key) (by omega) m oT nT ha ha' (fun r => by rw [ek]) (by omega) (by omega) r (zso key r) _ h (Int.le_refl _) f (fun j k0 k1 kn => ⟨hk j k0 (by omega), hg j k0 k1 kn⟩) fun h' f' hk' y ey => ?_)
    have ey2 : y = z_b (zmv key (r + 1)) := by
      rw [ey]
      have e5 : zmv key (r + 1) = (zmv key r ∨ (zsi key r r (zso key r)).1 < r) := rfl
      rw [e5]
      by_cases q : (zsi key r r (zso key r)).1 < r
      · rw [if_pos q, z_b1 (Or.inr q)]
      · rw [if_neg q]
        congr 1
        exact propext ⟨Or.inl, fun w => by
          rcases w with w | w
          · exact w
          · exact absurd w q⟩
    refine b_X13_sorts_78 rg.1.1 (by omega) ?_
    rw [ey2, show (r : Int) + 1 = ((r + 1 : Nat) : Int) by omega]
    exact ih (r + 1) _ (by omega) (f'.w (Or.inr (Or.inr (by omega)))) fun j k0 k1 => hk' j k0 (by omega)
theorem m_sorts (hd : 4 ≤ d) {k a : Int} {T : zTb} (m : mS h k T) (oT : okT T) (nT : noA T) (ha : 0 ≤ a) (ha' : a < T.2.1) : z_CY D M_X13_sorts d [(2, 88), (0, T.2.1), (0, a)] G h (pM G h (sSort a T)) := by
  have sh := oT.1
  have k1 := l_sorts5 (D := D) (G := G) hd m oT nT ha ha' rfl T.1.toNat 0 h (by omega) frN.rf (fun k k0 k1 => by omega)
  rw [z_b0 (p := zmv (fun r => zkey (T.2.2 r a)) 0) (fun w => w)] at k1
  exact z_begin mo_X13_sorts rfl (nle rfl) (b_X13_sorts_0 k1)
end Mst10
