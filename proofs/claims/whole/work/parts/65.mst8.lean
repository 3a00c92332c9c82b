section Mst8
variable {D : zD} {d : Nat} {G : zG} {h h0 h1 : zH} {Q : zO → zG → zH → Prop}
theorem zag_s {T : zTb} {f x r s : Int} (hx : f ≤ x) : zag T f (x + 1) r s ↔ zag T f x r s ∧ T.2.2 r x = T.2.2 s x := by
  refine ⟨fun w => ⟨fun c a b => w c a (by omega), w x hx (by omega)⟩, fun w c a b => ?_⟩
  by_cases e : c = x
  · rw [e]; exact w.2
  · exact w.1 c a (by omega)
theorem l_areLike (hd : 3 ≤ d) {k r s n : Int} {T : zTb} (m : mS h k T) (oT : okT T) (r0 : 0 ≤ r) (r1 : r < T.1) (s0 : 0 ≤ s) (s1 : s < T.1) (hn : n ≤ T.2.1) : ∀ (mm : Nat) (x : Int), x = n - mm → 0 ≤ x →
    z_Y D M_X13_areLike d 6 [(0, 2, 88), (1, 0, r), (2, 0, s), (3, 0, n), (4, 0, z_b (zag T 0 x r s)), (5, 0, x)] [] G h (fun o G' h' => o = .inl (some (0, z_b (zag T 0 n r s))) ∧ G' = G ∧ h' = h) := by
  have sh := oT.1
  intro mm
  induction mm with
  | zero =>
    intro x e x0
    rw [show x = n by omega]
    exact b_X13_areLike_6 hd ⟨by omega, by omega⟩ ⟨by omega, by omega⟩ (fun _ => z_b01 _) (fun c => by omega) (fun c => by omega) (fun c => by omega) (fun c => by omega) (fun c => by omega) (fun c => by omega) (fun c => by omega) (fun _ => ⟨rfl, rfl, rfl⟩) (fun c => by omega) (fun c => by omega) (fun c => by omega)
  | succ mm ih =>
    intro x e x0
    have j1 := m.at oT r0 r1 x0 (by omega)
    have j2 := m.at oT s0 s1 x0 (by omega)
    have st := zag_s (T := T) (f := 0) (x := x) (r := r) (s := s) x0
    have i1 := ih (x + 1) (by omega) (by omega)
    have n0 : ¬ zag T 0 (x + 1) r s → z_Y D M_X13_areLike d 39 [(0, 2, 88), (1, 0, r), (2, 0, s), (3, 0, n), (5, 0, x)] [] G h (fun o G' h' => o = .inl (some (0, z_b (zag T 0 n r s))) ∧ G' = G ∧ h' = h) := fun w => by
      rw [z_b0 w] at i1
      exact b_X13_areLike_39 (b_X13_areLike_40 i1)
    refine b_X13_areLike_6 hd ⟨by omega, by omega⟩ ⟨by omega, by omega⟩ (fun c => by omega) (fun _ => zb_in _) (fun _ _ => j1.1) (fun _ _ => j1.2.1) (fun _ _ => j2.1) (fun _ _ => j2.2.1) (fun _ _ => j1.2.2.2) (fun _ _ => j2.2.2.2) (fun c => by omega) (fun c c2 => n0 fun w => zb_eq c2 (st.1 w).1) (fun c c2 c3 => n0 fun w => c3 (by rw [j1.2.2.1, j2.2.2.1]; exact (st.1 w).2)) (fun c c2 c3 => ?_)
    have c3 := Classical.not_not.mp c3
    rw [j1.2.2.1, j2.2.2.1] at c3
    rw [z_b1 (st.2 ⟨zb_ne c2, c3⟩)] at i1
    exact b_X13_areLike_40 i1
theorem a_X13_areLike (hd : 3 ≤ d) {k r s n : Int} {T : zTb} (m : mS h k T) (oT : okT T) (r0 : 0 ≤ r) (r1 : r < T.1) (s0 : 0 ≤ s) (s1 : s < T.1) (hn0 : 0 ≤ n) (hn : n ≤ T.2.1) : z_Ei D M_X13_areLike d [(2, 88), (0, r), (0, s), (0, n)] G h (z_b (zag T 0 n r s)) h := by
  have i1 := l_areLike (D := D) (G := G) hd m oT r0 r1 s0 s1 hn n.toNat 0 (by omega) (by omega)
  rw [z_b1 (p := zag T 0 0 r s) (fun c a b => by omega)] at i1
  exact z_begin mo_X13_areLike rfl (nle rfl) (b_X13_areLike_0 i1)
theorem l_firstLike (hd : 4 ≤ d) {k r n z : Int} {T : zTb} (m : mS h k T) (oT : okT T) (r0 : 0 ≤ r) (r1 : r < T.1) (hn0 : 0 ≤ n) (hn : n ≤ T.2.1) (hz : lst (fun q => zag T 0 n r q) z) (hzr : z ≤ r) : ∀ (mm : Nat) (x : Int), x = z - mm → 0 ≤ x →
    z_Y D M_X13_firstLike d 2 [(0, 2, 88), (1, 0, r), (2, 0, n), (3, 0, x)] [] G h (fun o G' h' => o = .inl (some (0, z)) ∧ G' = G ∧ h' = h) := by
  intro mm
  induction mm with
  | zero =>
    intro x e x0
    refine b_X13_firstLike_2 (z_Ki.of (d2 := d - 1) (by omega) (a_X13_areLike (by omega) m oT x0 (by omega) r0 r1 hn0 hn) fun o G' h' _ hh => ⟨_, hh.1, ?_⟩)
    rw [hh.2.1, hh.2.2]
    refine b_X13_firstLike_9 (zb_in _) (fun _ => ⟨by rw [show x = z by omega], rfl, rfl⟩) (fun c => absurd ?_ (zb_eq (Classical.not_not.mp c)))
    have e5 : x = z := by omega
    rw [e5]
    exact zag.sy hz.2.1
  | succ mm ih =>
    intro x e x0
    refine b_X13_firstLike_2 (z_Ki.of (d2 := d - 1) (by omega) (a_X13_areLike (by omega) m oT x0 (by omega) r0 r1 hn0 hn) fun o G' h' _ hh => ⟨_, hh.1, ?_⟩)
    rw [hh.2.1, hh.2.2]
    exact b_X13_firstLike_9 (zb_in _) (fun c => absurd (zag.sy (zb_ne c)) (hz.2.2 x x0 (by omega))) (fun _ => ih (x + 1) (by omega) (by omega))
theorem a_X13_firstLike (hd : 4 ≤ d) {k r n : Int} {T : zTb} (m : mS h k T) (oT : okT T) (r0 : 0 ≤ r) (r1 : r < T.1) (hn0 : 0 ≤ n) (hn : n ≤ T.2.1) : z_Ei D M_X13_firstLike d [(2, 88), (0, r), (0, n)] G h (zls (fun q => zag T 0 n r q)) h := by
  obtain ⟨s, s1, s2⟩ := lst_ex (p := fun q => zag T 0 n r q) (r.toNat + 1) r (by omega) r0 zag.rf
  rw [zls_eq s2]
  have s20 := s2.1
  exact z_begin mo_X13_firstLike rfl (nle rfl) (b_X13_firstLike_0 (l_firstLike hd m oT r0 r1 hn0 hn s2 s1 s.toNat 0 (by omega) (by omega)))
theorem zag_1 {T : zTb} {c r s : Int} : zag T c (c + 1) r s ↔ T.2.2 r c = T.2.2 s c := ⟨fun w => w c (by omega) (by omega), fun w x a b => by rw [show x = c by omega]; exact w⟩
theorem l_firstName (hd : 3 ≤ d) {k r c z : Int} {T : zTb} (m : mS h k T) (oT : okT T) (r0 : 0 ≤ r) (r1 : r < T.1) (c0 : 0 ≤ c) (c1 : c < T.2.1) (hz : lst (fun q => zag T c (c + 1) r q) z) (hzr : z ≤ r) : ∀ (mm : Nat) (x : Int), x = z - mm → 0 ≤ x →
    z_Y D M_X13_firstName d 2 [(0, 2, 88), (1, 0, r), (2, 0, c), (3, 0, x)] [] G h (fun o G' h' => o = .inl (some (0, z)) ∧ G' = G ∧ h' = h) := by
  have j2 := m.at oT r0 r1 c0 c1
  intro mm
  induction mm with
  | zero =>
    intro x e x0
    have j1 := m.at oT x0 (show x < T.1 by omega) c0 c1
    refine b_X13_firstName_2 hd j1.1 j1.2.1 j2.1 j2.2.1 j1.2.2.2 j2.2.2.2 (fun _ => ⟨by rw [show x = z by omega], rfl, rfl⟩) (fun q => absurd ?_ q)
    rw [j1.2.2.1, j2.2.2.1, show x = z by omega]
    exact (zag_1.1 hz.2.1).symm
  | succ mm ih =>
    intro x e x0
    have j1 := m.at oT x0 (show x < T.1 by omega) c0 c1
    refine b_X13_firstName_2 hd j1.1 j1.2.1 j2.1 j2.2.1 j1.2.2.2 j2.2.2.2 (fun q => ?_) (fun _ => ih (x + 1) (by omega) (by omega))
    rw [j1.2.2.1, j2.2.2.1] at q
    exact absurd (zag_1.2 q.symm) (hz.2.2 x x0 (by omega))
theorem a_X13_firstName (hd : 3 ≤ d) {k r c : Int} {T : zTb} (m : mS h k T) (oT : okT T) (r0 : 0 ≤ r) (r1 : r < T.1) (c0 : 0 ≤ c) (c1 : c < T.2.1) : z_Ei D M_X13_firstName d [(2, 88), (0, r), (0, c)] G h (zls (fun q => zag T c (c + 1) r q)) h := by
  obtain ⟨s, s1, s2⟩ := lst_ex (p := fun q => zag T c (c + 1) r q) (r.toNat + 1) r (by omega) r0 zag.rf
  rw [zls_eq s2]
  have s20 := s2.1
  exact z_begin mo_X13_firstName rfl (nle rfl) (b_X13_firstName_0 (l_firstName hd m oT r0 r1 c0 c1 s2 s1 s.toNat 0 (by omega) (by omega)))
/-- a row is its own first, or another before it is -/
theorem zls_F {T : zTb} {f t r : Int} (r0 : 0 ≤ r) : zls (fun q => zag T f t r q) = r ↔ zF T f t r := by
  obtain ⟨s, ⟨a, b⟩, c, e, e2⟩ := zF_of (T := T) (f := f) (t := t) r0
  rw [e2]
  refine ⟨fun w => w ▸ c, fun w => ?_⟩
  by_cases q : s = r
  · exact q
  · exact absurd e (w s a (by omega))
end Mst8
