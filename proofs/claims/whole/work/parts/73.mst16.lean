section Mst16
variable {D : zD} {d : Nat} {G : zG} {h h0 h1 : zH} {Q : zO → zG → zH → Prop}
def zsS (b a : Int) (T : zTb) (x : Int) : Prop := ∃ r : Int, 0 ≤ r ∧ r < x ∧ ¬ zmp b (T.2.2 r a) = -1
theorem l_splits44 (hd : 3 ≤ d) {k a b x5 : Int} {T U : zTb} (m : mS h0 k T) (oT : okT T) (nT : noA T) (hb : 0 ≤ b ∧ b ≤ 3) (eU : ((T.1, T.2.1 + 1, fun r c => if c < a then T.2.2 r c else if c = a then spA b (T.2.2 r a) else if c = a + 1 then spB b (T.2.2 r a) else T.2.2 r (c - 1)) : zTb) = U) (t6 : T.2.1 ≤ 5) (ha : 0 ≤ a) (ha' : a < T.2.1) (h5 : 0 ≤ x5) (h5' : x5 < T.1)
    (kk : ∀ h, frN h0 h → isN h 10 U (fun r c => ouT U r c ∨ r < x5 + 1) → z_Y D M_X13_splits d 32 [(0, 2, 88), (1, 0, T.2.1), (2, 0, a), (3, 0, b), (4, 0, z_b (zsS b a T (x5 + 1))), (5, 0, x5 + 1)] [] G h Q) : ∀ (n : Nat) (y : Int) (h : zH), y = T.2.1 - n → 0 ≤ y → frN h0 h → isN h 10 U (fun r c => ouT U r c ∨ r < x5 ∨ (r = x5 ∧ ((c < a ∧ c < y) ∨ (a + 1 < c ∧ c - 1 < y)))) →
    z_Y D M_X13_splits d 44 [(0, 2, 88), (1, 0, T.2.1), (2, 0, a), (3, 0, b), (4, 0, z_b (zsS b a T x5)), (5, 0, x5), (6, 0, y)] [] G h Q := by
  have sh := oT.1
  have u1 : U.1 = T.1 := by rw [← eU]
  have u2 : U.2.1 = T.2.1 + 1 := by rw [← eU]
  have v3 : ∀ r c : Int, c < a → U.2.2 r c = T.2.2 r c := fun r c q => by rw [← eU]; dsimp only; rw [if_pos q]
  have v4 : ∀ r c : Int, a < c → U.2.2 r (c + 1) = T.2.2 r c := fun r c q => by rw [← eU]; dsimp only; rw [if_neg (by omega), if_neg (by omega), if_neg (by omega), show c + 1 - 1 = c by omega]
  have mb := zmb_rg b
  have g1 := oT.2 x5 a h5 h5' ha ha'
  have g2 := nT x5 a h5 h5' ha ha'
  obtain ⟨z1, z2, z3⟩ := zmi_e b (T.2.2 x5 a)
  intro n
  induction n with
  | zero =>
    intro y h e y0 f k
    have j1 := (m.fr f).at oT h5 h5' ha ha'
    have ev := j1.2.2.1
    have k' : isN h 10 U (fun r c => ouT U r c ∨ r < x5 ∨ (r = x5 ∧ ¬ c = a ∧ ¬ c = a + 1)) := k.imp fun r c b1 b2 b3 b4 p => by
      by_cases z : r < U.1 ∧ c < U.2.1
      · rcases p with p | p
        · exact absurd z p
        · exact Or.inr (by omega)
      · exact Or.inl z
    have last : ∀ s0 : Int, s0 = z_b (zsS b a T (x5 + 1)) → z_Y D M_X13_splits d 134 [(0, 2, 88), (1, 0, T.2.1), (2, 0, a), (3, 0, b), (5, 0, x5), (6, 1, T.2.2 x5 a), (8, 0, zlen (T.2.2 x5 a)), (9, 0, zmi b (T.2.2 x5 a))] [(0, s0)] G h Q := fun s0 e0 => by
      subst e0
      exact l_splits134 hd m oT nT eU t6 ha ha' h5 h5' f k' kk
    refine b_X13_splits_44 hd ⟨by omega, by omega⟩ ⟨by omega, by omega⟩ (fun _ => j1.1) (fun _ => j1.2.1) (fun _ => by rw [ev]; exact g2) (fun _ => by rw [ev]; exact g1.2) (fun _ => hb.1) (fun _ => by omega) (fun _ => ⟨by omega, by omega⟩) (fun _ => zb_in _) (fun _ _ => by rw [ev]; exact z2) (fun c => by omega) (fun _ c => ?_) (fun _ c c2 => ?_) (fun _ c c2 => ?_) (fun c => by omega) (fun c => by omega) (fun c => by omega)
    · rw [ev]
      obtain ⟨r, r0, r1, r2⟩ := zb_ne c
      exact b_X13_splits_129 (last 1 (z_b1 ⟨r, r0, by omega, r2⟩).symm)
    · rw [ev] at c2 ⊢
      have c0 := zb_eq (Classical.not_not.mp c)
      refine last 0 (z_b0 ?_).symm
      rintro ⟨r, r0, r1, r2⟩
      by_cases q : r = x5
      · rw [q] at r2; exact r2 (z1.1 c2)
      · exact c0 ⟨r, r0, by omega, r2⟩
    · rw [ev] at c2 ⊢
      exact b_X13_splits_129 (last 1 (z_b1 ⟨x5, h5, by omega, fun w => c2 (z1.2 w)⟩).symm)
  | succ n ih =>
    intro y h e y0 f k
    have j1 := (m.fr f).at oT h5 h5' y0 (show y < T.2.1 by omega)
    refine b_X13_splits_44 hd ⟨by omega, by omega⟩ ⟨by omega, by omega⟩ (fun c => by omega) (fun c => by omega) (fun c => by omega) (fun c => by omega) (fun c => by omega) (fun c => by omega) (fun c => by omega) (fun c => by omega) (fun c => by omega) (fun _ => ⟨by omega, by omega⟩) (fun c => by omega) (fun c => by omega) (fun c => by omega) (fun _ c => ih (y + 1) h (by omega) (by omega) f (k.imp fun r c b1 b2 b3 b4 p => ?_)) (fun _ c c2 => ?_) (fun _ c c2 => ?_)
    · rcases p with p | p
      · exact Or.inl p
      · exact Or.inr (by omega)
    · refine b_X13_splits_74 hd j1.1 j1.2.1 (by omega) (by omega) (ih (y + 1) _ (by omega) (by omega) (f.w (Or.inr (Or.inl ⟨rfl, by omega, by omega⟩))) (isN_put k h5 (by omega) (show 0 ≤ y + 1 by omega) (by omega) (by omega) (by rw [j1.2.2.1, v4 _ _ (by omega)]) fun r c b1 b2 b3 b4 p => ?_))
      rcases p with p | p
      · exact Or.inl (Or.inl p)
      · by_cases q : r = x5 ∧ c = y + 1
        · exact Or.inr q
        · exact Or.inl (Or.inr (by omega))
    · refine b_X13_splits_74 hd j1.1 j1.2.1 (by omega) (by omega) (ih (y + 1) _ (by omega) (by omega) (f.w (Or.inr (Or.inl ⟨rfl, by omega, by omega⟩))) (isN_put k h5 (by omega) y0 (by omega) (by omega) (by rw [j1.2.2.1, v3 _ _ (by omega)]) fun r c b1 b2 b3 b4 p => ?_))
      rcases p with p | p
      · exact Or.inl (Or.inl p)
      · by_cases q : r = x5 ∧ c = y
        · exact Or.inr q
        · exact Or.inl (Or.inr (by omega))
theorem l_splits32 (hd : 3 ≤ d) {k a b : Int} {T U : zTb} (m : mS h0 k T) (oT : okT T) (nT : noA T) (hb : 0 ≤ b ∧ b ≤ 3) (eU : ((T.1, T.2.1 + 1, fun r c => if c < a then T.2.2 r c else if c = a then spA b (T.2.2 r a) else if c = a + 1 then spB b (T.2.2 r a) else T.2.2 r (c - 1)) : zTb) = U) (t6 : T.2.1 ≤ 5) (ha : 0 ≤ a) (ha' : a < T.2.1) : ∀ (n : Nat) (x5 : Int) (h : zH), x5 = T.1 - n → 0 ≤ x5 → frN h0 h → isN h 10 U (fun r c => ouT U r c ∨ r < x5) →
    z_Y D M_X13_splits d 32 [(0, 2, 88), (1, 0, T.2.1), (2, 0, a), (3, 0, b), (4, 0, z_b (zsS b a T x5)), (5, 0, x5)] [] G h (pM G h0 (zif (zsS b a T T.1) (some U) none)) := by
  have sh := oT.1
  have u1 : U.1 = T.1 := by rw [← eU]
  intro n
  induction n with
  | zero =>
    intro x5 h e h5 f k
    have e4 := (m.fr f).2.1
    rw [show x5 = T.1 by omega]
    refine b_X13_splits_32 ⟨by omega, by omega⟩ ⟨by omega, by omega⟩ (fun _ => z_b01 _) (fun _ => ?_) (fun c => by omega)
    by_cases q : zsS b a T T.1
    · rw [zif1 q, z_b1 q]
      refine ⟨rfl, f, rfl, k.all fun r c b1 b2 b3 b4 => ?_⟩
      by_cases q : r < U.1 ∧ c < U.2.1
      · exact Or.inr (by omega)
      · exact Or.inl q
    · rw [zif0 q, z_b0 q]
      exact ⟨rfl, f, rfl⟩
  | succ n ih =>
    intro x5 h e h5 f k
    have e4 := (m.fr f).2.1
    refine b_X13_splits_32 ⟨by omega, by omega⟩ ⟨by omega, by omega⟩ (fun c => by omega) (fun c => by omega) (fun _ => l_splits44 hd m oT nT hb eU t6 ha ha' h5 (by omega) (fun h' f' k' => ih (x5 + 1) h' (by omega) (by omega) f' k') T.2.1.toNat 0 h (by omega) (by omega) f (k.imp fun r c b1 b2 b3 b4 p => ?_))
    rcases p with p | p
    · exact Or.inl p
    · exact Or.inr (by omega)
theorem m_splits (hd : 3 ≤ d) {k a b : Int} {T : zTb} (m : mS h k T) (oT : okT T) (nT : noA T) (hb : 0 ≤ b ∧ b ≤ 3) (ha : 0 ≤ a) (ha' : a < T.2.1) : z_CY D M_X13_splits d [(2, 88), (0, T.2.1), (0, a), (0, b)] G h (pM G h (sSplit a b T)) := by
  have sh := oT.1
  have e4 := m.2.1
  refine z_begin mo_X13_splits rfl (nle rfl) (b_X13_splits_0 ⟨by omega, by omega⟩ (fun _ => ⟨by omega, by omega⟩) (fun c => by omega) (fun _ c => ?_) (fun _ c => ?_))
  · rw [e4]
    refine z_Kv.of (d2 := d - 1) (by omega) (a_X13_shape 10 T.1 (T.2.1 + 1) (by omega) (by omega)) ?_
    rintro out G' h1 hl1 ⟨r1, rfl, rfl⟩
    have z0 : z_b (zsS b a T 0) = 0 := z_b0 (fun ⟨r, r0, r1, _⟩ => by omega)
    have q := l_splits32 (D := D) (d := d) (G := G') (h0 := h) hd m oT nT hb rfl (by omega) ha ha' T.1.toNat 0 _ (by omega) (by omega) frN_new ((isN_new (h := h) (U := (T.1, T.2.1 + 1, fun r c => if c < a then T.2.2 r c else if c = a then spA b (T.2.2 r a) else if c = a + 1 then spB b (T.2.2 r a) else T.2.2 r (c - 1)))).imp fun r c b1 b2 b3 b4 p => by
      rcases p with p | p
      · exact p
      · omega)
    rw [z0] at q
    refine ⟨r1, b_X13_splits_29 ?_⟩
    have es : sSplit a b T = zif (zsS b a T T.1) (some (T.1, T.2.1 + 1, fun r c => if c < a then T.2.2 r c else if c = a then spA b (T.2.2 r a) else if c = a + 1 then spB b (T.2.2 r a) else T.2.2 r (c - 1))) none := by
      unfold sSplit
      by_cases w : zsS b a T T.1
      · rw [zif1 w, zif1 ⟨by omega, w⟩]
      · rw [zif0 w, zif0 (fun z => w z.2)]
    rw [es]
    exact q
  · have : sSplit a b T = none := by unfold sSplit; rw [zif0 (by omega)]
    rw [this]
    exact ⟨rfl, frN.rf, rfl⟩
end Mst16
