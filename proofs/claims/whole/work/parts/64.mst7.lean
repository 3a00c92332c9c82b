section Mst7
variable {D : zD} {d : Nat} {G : zG} {h h0 h1 : zH} {Q : zO → zG → zH → Prop}
/-! fills -/
def zfS (T : zTb) (a x : Int) : Prop := ∃ r : Int, 1 ≤ r ∧ r < x ∧ T.2.2 r a = 0 ∧ ¬ zfl (fun r => T.2.2 r a) (r - 1).toNat = 0
theorem zfS_s {T : zTb} {a x : Int} (x1 : 1 ≤ x) : zfS T a (x + 1) ↔ zfS T a x ∨ (T.2.2 x a = 0 ∧ ¬ zfl (fun r => T.2.2 r a) (x - 1).toNat = 0) := by
  refine ⟨fun ⟨r, q1, q2, q3⟩ => ?_, fun w => ?_⟩
  · by_cases e : r = x
    · rw [e] at q3; exact Or.inr q3
    · exact Or.inl ⟨r, q1, by omega, q3⟩
  · rcases w with ⟨r, q1, q2, q3⟩ | w
    · exact ⟨r, q1, by omega, q3⟩
    · exact ⟨x, x1, by omega, w⟩
theorem l_fills15 (hd : 3 ≤ d) {k a : Int} {T U : zTb} (m : mS h0 k T) (oT : okT T) (u1 : U.1 = T.1) (u2 : U.2.1 = T.2.1) (v1 : ∀ r : Int, U.2.2 r a = zfl (fun r => T.2.2 r a) r.toNat) (oU : okT U) (ha : 0 ≤ a) (ha' : a < T.2.1) : ∀ (n : Nat) (x4 : Int) (h : zH), x4 = T.1 - n → 1 ≤ x4 → frN h0 h → isN h 10 U (fun r c => T.1 ≤ r ∨ r < x4 ∨ ¬ c = a) → isN h 10 T (fun r _ => x4 ≤ r) →
    z_Y D M_X13_fills d 15 [(0, 2, 88), (1, 0, T.2.1), (2, 0, a), (3, 0, z_b (zfS T a x4)), (4, 0, x4)] [] G h (pM G h0 (zif (zfS T a T.1) (some U) none)) := by
  have sh := oT.1
  intro n
  induction n with
  | zero =>
    intro x4 h e h4 f k1 k2
    have e4 := (m.fr f).2.1
    rw [show x4 = T.1 by omega] at k1 ⊢
    refine b_X13_fills_15 hd ⟨by omega, by omega⟩ ⟨by omega, by omega⟩ (fun _ => zb_in _) (fun _ _ => ⟨by omega, by omega⟩) (fun c => by omega) (fun c => by omega) (fun c => by omega) (fun c => by omega) (fun c => by omega) (fun c => by omega) (fun c => by omega) (fun c c2 => ?_) (fun c c2 c3 => by omega) (fun c c2 c3 => ?_) (fun c => by omega) (fun c => by omega) (fun c => by omega) (fun c => by omega)
    · rw [zif0 (zb_eq c2)]
      exact ⟨rfl, f, rfl⟩
    · rw [zif1 (zb_ne c2)]
      exact ⟨rfl, f, rfl, k1.all fun r c b1 b2 b3 b4 => by omega⟩
  | succ n ih =>
    intro x4 h e h4 f k1 k2
    have m' := m.fr f
    have e4 := m'.2.1
    have j1 := m'.at oT (show 0 ≤ x4 by omega) (show x4 < T.1 by omega) ha ha'
    have w1 : h 91 (72 * 10 + 6 * (x4 - 1) + a) = zfl (fun r => T.2.2 r a) (x4 - 1).toNat := by
      rw [k1.2.2 (x4 - 1) a (by omega) (by omega) ha (by omega) (Or.inr (Or.inl (by omega))), nrm, if_pos ⟨by omega, by omega⟩, v1]
    have w2 : h 91 (72 * 10 + 6 * x4 + a) = T.2.2 x4 a := by
      rw [k2.2.2 x4 a (by omega) (by omega) ha (by omega) (by omega), nrm, if_pos ⟨by omega, ha'⟩]
    have g1 := oU.2 (x4 - 1) a (by omega) (by omega) ha (by omega)
    rw [v1] at g1
    have zs := zfl_s (f := fun r => T.2.2 r a) h4
    have st := zfS_s (T := T) (a := a) h4
    have w3 : z_in64 (h 91 (72 * 10 + 6 * (x4 - 1) + a)) := by rw [w1]; exact ⟨by omega, by omega⟩
    have go : T.2.2 x4 a = 0 → ∀ s : Int, s = z_b (zfS T a (x4 + 1)) → z_Y D M_X13_fills d 72 [(0, 2, 88), (1, 0, T.2.1), (2, 0, a), (4, 0, x4), (5, 1, h 91 (72 * 10 + 6 * (x4 - 1) + a))] [(0, s)] G h (pM G h0 (zif (zfS T a T.1) (some U) none)) := by
      intro c2 s es
      rw [es]
      refine b_X13_fills_72 hd (by omega) (by omega) (ih (x4 + 1) _ (by omega) (by omega) (f.w (Or.inr (Or.inl ⟨rfl, by omega, by omega⟩))) (isN_put k1 (by omega) (by omega) ha (by omega) (by omega) (by rw [w1, v1, zs, if_pos c2]) fun r c b1 b2 b3 b4 p => by omega) ?_)
      refine ⟨by rw [w_na (by omega)]; exact k2.1, by rw [w_na (by omega)]; exact k2.2.1, fun r c b1 b2 b3 b4 p => ?_⟩
      rw [w_nj (by omega)]
      exact k2.2.2 r c b1 b2 b3 b4 (by omega)
    refine b_X13_fills_15 hd ⟨by omega, by omega⟩ ⟨by omega, by omega⟩ (fun c => by omega) (fun c => by omega) (fun _ => j1.1) (fun _ => j1.2.1) (fun _ => j1.2.2.2) (fun _ _ => by omega) (fun _ _ => by omega) (fun _ _ => zb_in _) (fun _ _ _ => w3) (fun c => by omega) (fun c => by omega) (fun c => by omega) (fun c c2 c3 => ?_) (fun c c2 c3 c5 => ?_) (fun c c2 c3 c5 => ?_) (fun c c2 => ?_)
    · rw [j1.2.2.1] at c2
      exact b_X13_fills_67 (go c2 1 (z_b1 (st.2 (Or.inl (zb_ne c3)))).symm)
    · rw [j1.2.2.1] at c2
      refine go c2 0 (z_b0 (fun w => ?_)).symm
      rcases st.1 w with w | w
      · exact zb_eq (Classical.not_not.mp c3) w
      · exact w.2 (by rw [← w1]; exact c5)
    · rw [j1.2.2.1] at c2
      exact b_X13_fills_67 (go c2 1 (z_b1 (st.2 (Or.inr ⟨c2, by rw [← w1]; exact c5⟩))).symm)
    · rw [j1.2.2.1] at c2
      have es : zfS T a x4 = zfS T a (x4 + 1) := propext ⟨fun w => st.2 (Or.inl w), fun w => by
        rcases st.1 w with w | w
        · exact w
        · exact absurd w.1 c2⟩
      rw [es]
      refine ih (x4 + 1) h (by omega) (by omega) f ⟨k1.1, k1.2.1, fun r c b1 b2 b3 b4 p => ?_⟩ (k2.imp fun r c b1 b2 b3 b4 p => by omega)
      by_cases q : r = x4 ∧ c = a
      · obtain ⟨rfl, rfl⟩ := q
        rw [w2, nrm, if_pos ⟨by omega, by omega⟩, v1, zs, if_neg c2]
      · exact k1.2.2 r c b1 b2 b3 b4 (by omega)
theorem m_fills (hd : 3 ≤ d) {k a : Int} {T : zTb} (m : mS h k T) (oT : okT T) (ha : 0 ≤ a) (ha' : a < T.2.1) : z_CY D M_X13_fills d [(2, 88), (0, T.2.1), (0, a)] G h (pM G h (sFill a T)) := by
  have sh := oT.1
  have e3 := m.1
  have kk := m.2.2.2
  refine z_begin mo_X13_fills rfl (nle rfl) (b_X13_fills_0 ?_)
  rw [e3]
  refine z_Kv.of (d2 := d - 1) (by omega) (a_X13_become 10 k (by omega) (by omega) (by omega) (by omega) (by omega)) ?_
  rintro out G' h2 hl2 ⟨r2, rfl, rfl⟩
  have mb := isM_bec (h := h) (k := 10) (u := k) (by omega) (by omega) (by omega) m.2.2.1
  unfold sFill
  generalize eU : ((T.1, T.2.1, fun r c => if c = a then zfl (fun r => T.2.2 r a) r.toNat else T.2.2 r c) : zTb) = U
  have u1 : U.1 = T.1 := by rw [← eU]
  have u2 : U.2.1 = T.2.1 := by rw [← eU]
  have v1 : ∀ r : Int, U.2.2 r a = zfl (fun r => T.2.2 r a) r.toNat := fun r => by rw [← eU]; simp
  have v2 : ∀ r c : Int, ¬ c = a → U.2.2 r c = T.2.2 r c := fun r c n => by rw [← eU]; dsimp only; rw [if_neg n]
  have oU : okT U := by
    refine ⟨by rw [u1, u2]; exact sh, fun r c b1 b2 b3 b4 => ?_⟩
    by_cases q : c = a
    · rw [q, v1]
      refine zfl_all (P := fun x => -1 ≤ x ∧ x < 72057594037927936) r.toNat fun x y1 y2 => oT.2 x a y1 (by omega) ha ha'
    · rw [v2 r c q]; exact oT.2 r c b1 (by omega) b3 (by omega)
  have k1 := l_fills15 (D := D) (G := G') hd m oT u1 u2 v1 oU ha ha' (T.1 - 1).toNat 1 _ (by omega) (by omega) frN_bec (mb.to u1 u2 fun r c b1 b2 b3 b4 p => by
    by_cases q : c = a
    · have : r = 0 := by omega
      rw [q, v1, this]; rfl
    · exact v2 r c q) (mb.to rfl rfl fun _ _ _ _ _ _ _ => rfl)
  rw [z_b0 (p := zfS T a 1) (fun ⟨r, q1, q2, _⟩ => by omega)] at k1
  exact ⟨r2, b_X13_fills_12 k1⟩
end Mst7
