section Mst14
variable {D : zD} {d : Nat} {G : zG} {h h0 h1 : zH} {Q : zO → zG → zH → Prop}
theorem l_joins30 (hd : 3 ≤ d) {k a b : Int} {T U : zTb} (m : mS h0 k T) (oT : okT T) (nT : noA T) (hb : 0 ≤ b ∧ b ≤ 3) (eU : ((T.1, T.2.1 - 1, fun r c => if c < a then T.2.2 r c else if c = a then zjn b (T.2.2 r a) (T.2.2 r (a + 1)) else T.2.2 r (c + 1)) : zTb) = U) (ha : 0 ≤ a) (ha' : a + 1 < T.2.1) : ∀ (n : Nat) (x4 : Int) (h : zH), x4 = T.1 - n → 0 ≤ x4 → (∀ r : Int, 0 ≤ r → r < x4 → zlen (T.2.2 r a) + 1 + zlen (T.2.2 r (a + 1)) ≤ 7) → frN h0 h → isN h 10 U (fun r c => ouT U r c ∨ r < x4) →
    z_Y D M_X13_joins d 30 [(0, 2, 88), (1, 0, T.2.1), (2, 0, a), (3, 0, b), (4, 0, x4)] [] G h (pM G h0 (zif (∀ r : Int, 0 ≤ r → r < T.1 → zlen (T.2.2 r a) + 1 + zlen (T.2.2 r (a + 1)) ≤ 7) (some U) none)) := by
  have sh := oT.1
  have u1 : U.1 = T.1 := by rw [← eU]
  intro n
  induction n with
  | zero =>
    intro x4 h e h4 hl f k
    have e4 := (m.fr f).2.1
    refine b_X13_joins_30 hd ⟨by omega, by omega⟩ ⟨by omega, by omega⟩ (fun c => by omega) (fun c => by omega) (fun c => by omega) (fun c => by omega) (fun c => by omega) (fun c => by omega) (fun c => by omega) (fun c => by omega) (fun c => by omega) (fun _ => ?_) (fun c => by omega) (fun c => by omega)
    rw [zif1 (fun r q1 q2 => hl r q1 (by omega))]
    refine ⟨rfl, f, rfl, k.all fun r c b1 b2 b3 b4 => ?_⟩
    by_cases q : r < U.1 ∧ c < U.2.1
    · exact Or.inr (by omega)
    · exact Or.inl q
  | succ n ih =>
    intro x4 h e h4 hl f k
    have m' := m.fr f
    have e4 := m'.2.1
    have j1 := m'.at oT h4 (show x4 < T.1 by omega) ha (show a < T.2.1 by omega)
    have j2 := m'.at oT h4 (show x4 < T.1 by omega) (show 0 ≤ a + 1 by omega) ha'
    have g1 := oT.2 x4 a h4 (by omega) ha (by omega)
    have g2 := nT x4 a h4 (by omega) ha (by omega)
    have g3 := oT.2 x4 (a + 1) h4 (by omega) (by omega) ha'
    have g4 := nT x4 (a + 1) h4 (by omega) (by omega) ha'
    have l1 := zlen_nn (T.2.2 x4 a)
    have l2 := zlen_nn (T.2.2 x4 (a + 1))
    have ev := j1.2.2.1
    have ew := j2.2.2.1
    refine b_X13_joins_30 hd ⟨by omega, by omega⟩ ⟨by omega, by omega⟩ (fun _ => j1.1) (fun _ => j1.2.1) (fun _ => j2.1) (fun _ => j2.2.1) (fun _ => by rw [ew]; exact g4) (fun _ => by rw [ew]; exact g3.2) (fun _ => by rw [ev]; exact g2) (fun _ => by rw [ev]; exact g1.2) (fun _ => by rw [ev, ew]; exact ⟨by omega, by omega⟩) (fun c => by omega) (fun c c2 => ?_) (fun c c2 => ?_)
    · rw [ev, ew] at c2 ⊢
      refine l_joins86 hd m oT nT hb eU ha ha' h4 (by omega) c2 (fun h' f' k' => ih (x4 + 1) h' (by omega) (by omega) (fun r q1 q2 => ?_) f' k') T.2.1.toNat 0 h (by omega) (by omega) f (k.imp fun r c b1 b2 b3 b4 p => ?_)
      · by_cases q : r = x4
        · rw [q]; exact c2
        · exact hl r q1 (by omega)
      · rcases p with p | p
        · exact Or.inl p
        · exact Or.inr (by omega)
    · rw [ev, ew] at c2
      rw [zif0 (fun w => c2 (w x4 h4 (by omega)))]
      exact ⟨rfl, f, rfl⟩
theorem m_joins (hd : 3 ≤ d) {k a b : Int} {T : zTb} (m : mS h k T) (oT : okT T) (nT : noA T) (hb : 0 ≤ b ∧ b ≤ 3) (ha : 0 ≤ a) (ha' : a + 1 < T.2.1) : z_CY D M_X13_joins d [(2, 88), (0, T.2.1), (0, a), (0, b)] G h (pM G h (sJoin a b T)) := by
  have sh := oT.1
  have e4 := m.2.1
  refine z_begin mo_X13_joins rfl (nle rfl) (b_X13_joins_0 ⟨by omega, by omega⟩ (fun _ => ⟨by omega, by omega⟩) (fun _ => ⟨by omega, by omega⟩) (fun c => by omega) (fun _ _ => ?_) (fun _ c => by omega))
  rw [e4]
  refine z_Kv.of (d2 := d - 1) (by omega) (a_X13_shape 10 T.1 (T.2.1 - 1) (by omega) (by omega)) ?_
  rintro out G' h1 hl1 ⟨r1, rfl, rfl⟩
  exact ⟨r1, b_X13_joins_27 (l_joins30 hd m oT nT hb rfl ha ha' T.1.toNat 0 _ (by omega) (by omega) (fun r q1 q2 => by omega) frN_new ((isN_new (U := (T.1, T.2.1 - 1, fun r c => if c < a then T.2.2 r c else if c = a then zjn b (T.2.2 r a) (T.2.2 r (a + 1)) else T.2.2 r (c + 1)))).imp fun r c b1 b2 b3 b4 p => by
    rcases p with p | p
    · exact p
    · omega))⟩
end Mst14
