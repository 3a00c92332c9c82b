section Mst11
variable {D : zD} {d : Nat} {G : zG} {h h0 h1 : zH} {Q : zO → zG → zH → Prop}
/-! folds -/
theorem l_folds83 (hd : 3 ≤ d) {k a w x3 x4 x5 : Int} {T U : zTb} (m : mS h0 k T) (oT : okT T) (ew : w = T.2.1 - a) (u1 : U.1 = (T.1 - 1) * w) (u2 : U.2.1 = a + 2) (v1 : ∀ k c : Int, c < a → U.2.2 k c = T.2.2 (1 + k / w) c) (v2 : ∀ k : Int, U.2.2 k a = T.2.2 0 (a + k % w)) (v3 : ∀ k : Int, U.2.2 k (a + 1) = T.2.2 (1 + k / w) (a + k % w)) (oU : shT U) (ha : 1 ≤ a) (ha' : a < T.2.1) (h4 : 1 ≤ x4) (h4' : x4 < T.1) (h5 : a ≤ x5) (h5' : x5 < T.2.1) (e3 : x3 = (x4 - 1) * w + (x5 - a))
    (kk : ∀ h, frN h0 h → isN h 10 U (fun r c => ouT U r c ∨ r < x3 + 1) → z_Y D M_X13_folds d 74 [(0, 2, 88), (1, 0, T.2.1), (2, 0, a), (3, 0, x3 + 1), (4, 0, x4), (5, 0, x5 + 1)] [] G h Q) : ∀ (n : Nat) (x6 : Int) (h : zH), x6 = a - n → 0 ≤ x6 → frN h0 h → isN h 10 U (fun r c => ouT U r c ∨ r < x3 ∨ (r = x3 ∧ c < x6)) →
    z_Y D M_X13_folds d 83 [(0, 2, 88), (1, 0, T.2.1), (2, 0, a), (3, 0, x3), (4, 0, x4), (5, 0, x5), (6, 0, x6)] [] G h Q := by
  have sh := oT.1
  obtain ⟨o1, o2, o3, o4⟩ := oU
  have hw : 0 < w := by omega
  have rr := ix_lt (R := T.1 - 1) (C := w) (r := x4 - 1) (c := x5 - a) (by omega) (by omega) (by omega) (by omega)
  have r0 : 0 ≤ x3 := by omega
  have r1 : x3 < U.1 := by rw [u1]; omega
  have dv : x3 / w = x4 - 1 := by rw [e3, Int.add_comm, Int.add_mul_ediv_right _ _ (by omega), Int.ediv_eq_zero_of_lt (by omega) (by omega)]; omega
  have md : x3 % w = x5 - a := by rw [e3, Int.add_comm, Int.add_mul_emod_self_right, Int.emod_eq_of_lt (by omega) (by omega)]
  intro n
  induction n with
  | zero =>
    intro x6 h e h6 f k
    have m' := m.fr f
    have ek := m'.1
    have km := m'.2.2.2
    have j0 := m'.at oT (r := 0) (c := x5) (by omega) (by omega) (by omega) (by omega)
    have j1 := m'.at oT (r := x4) (c := x5) (by omega) (by omega) (by omega) (by omega)
    refine b_X13_folds_83 hd ⟨by omega, by omega⟩ ⟨by omega, by omega⟩ (fun _ => j0.1) (fun _ => j0.2.1) (fun _ => by omega) (fun _ => by omega) (fun _ => j1.1) (fun _ => j1.2.1) (fun _ => by omega) (fun _ => by omega) (fun c => by omega) (fun c => by omega) (fun c => by omega) (fun c => by omega) (fun _ => ?_) (fun c => by omega)
    rw [w_nj (show ¬ 72 * h 88 3 + 6 * x4 + x5 = 72 * 10 + 6 * x3 + a by omega), j0.2.2.1, j1.2.2.1]
    refine kk _ ((f.w (Or.inr (Or.inl ⟨rfl, by omega, by omega⟩))).w (Or.inr (Or.inl ⟨rfl, by omega, by omega⟩))) ?_
    have q := isN_put (P' := fun r c => ouT U r c ∨ r < x3 ∨ (r = x3 ∧ c < a + 1)) k r0 r1 (show 0 ≤ a by omega) (by omega) (by omega) (v := T.2.2 0 x5) (by rw [v2, md, show a + (x5 - a) = x5 by omega]) (fun r c b1 b2 b3 b4 p => by
      rcases p with p | p
      · exact Or.inl (Or.inl p)
      · by_cases q : r = x3 ∧ c = a
        · exact Or.inr q
        · exact Or.inl (Or.inr (by omega)))
    exact isN_put (P' := fun r c => ouT U r c ∨ r < x3 + 1) q r0 r1 (show 0 ≤ a + 1 by omega) (by omega) (by omega) (v := T.2.2 x4 x5) (by rw [v3, dv, md, show a + (x5 - a) = x5 by omega, show 1 + (x4 - 1) = x4 by omega]) (fun r c b1 b2 b3 b4 p => by
      by_cases z : r < U.1 ∧ c < U.2.1
      · rcases p with p | p
        · exact absurd z p
        · by_cases q : r = x3 ∧ c = a + 1
          · exact Or.inr q
          · exact Or.inl (Or.inr (by omega))
      · exact Or.inl (Or.inl z))
  | succ n ih =>
    intro x6 h e h6 f k
    have m' := m.fr f
    have j1 := m'.at oT (r := x4) (c := x6) (by omega) (by omega) (by omega) (by omega)
    refine b_X13_folds_83 hd ⟨by omega, by omega⟩ ⟨by omega, by omega⟩ (fun c => by omega) (fun c => by omega) (fun c => by omega) (fun c => by omega) (fun c => by omega) (fun c => by omega) (fun c => by omega) (fun c => by omega) (fun c => j1.1) (fun c => j1.2.1) (fun c => by omega) (fun c => by omega) (fun c => by omega) (fun c => ih (x6 + 1) _ (by omega) (by omega) (f.w (Or.inr (Or.inl ⟨rfl, by omega, by omega⟩))) (isN_put k r0 r1 h6 (by omega) (by omega) (by rw [j1.2.2.1, v1 _ _ (by omega), dv, show 1 + (x4 - 1) = x4 by omega]) fun r c b1 b2 b3 b4 p => ?_))
    rcases p with p | p
    · exact Or.inl (Or.inl p)
    · by_cases q : r = x3 ∧ c = x6
      · exact Or.inr q
      · exact Or.inl (Or.inr (by omega))
theorem l_folds74 (hd : 3 ≤ d) {k a w x4 : Int} {T U : zTb} (m : mS h0 k T) (oT : okT T) (ew : w = T.2.1 - a) (u1 : U.1 = (T.1 - 1) * w) (u2 : U.2.1 = a + 2) (v1 : ∀ k c : Int, c < a → U.2.2 k c = T.2.2 (1 + k / w) c) (v2 : ∀ k : Int, U.2.2 k a = T.2.2 0 (a + k % w)) (v3 : ∀ k : Int, U.2.2 k (a + 1) = T.2.2 (1 + k / w) (a + k % w)) (oU : shT U) (ha : 1 ≤ a) (ha' : a < T.2.1) (h4 : 1 ≤ x4) (h4' : x4 < T.1)
    (kk : ∀ h, frN h0 h → isN h 10 U (fun r c => ouT U r c ∨ r < (x4 + 1 - 1) * w) → z_Y D M_X13_folds d 62 [(0, 2, 88), (1, 0, T.2.1), (2, 0, a), (3, 0, (x4 + 1 - 1) * w), (4, 0, x4 + 1)] [] G h Q) : ∀ (n : Nat) (x3 x5 : Int) (h : zH), x5 = T.2.1 - n → a ≤ x5 → x3 = (x4 - 1) * w + (x5 - a) → frN h0 h → isN h 10 U (fun r c => ouT U r c ∨ r < x3) →
    z_Y D M_X13_folds d 74 [(0, 2, 88), (1, 0, T.2.1), (2, 0, a), (3, 0, x3), (4, 0, x4), (5, 0, x5)] [] G h Q := by
  have sh := oT.1
  intro n
  induction n with
  | zero =>
    intro x3 x5 h e h5 e3 f k
    have e3' : x3 = (x4 + 1 - 1) * w := by rw [show x4 + 1 - 1 = (x4 - 1) + 1 by omega, Int.add_mul, Int.one_mul]; omega
    refine b_X13_folds_74 ⟨by omega, by omega⟩ ⟨by omega, by omega⟩ (fun _ => ?_) (fun c => by omega)
    rw [e3'] at k ⊢
    exact kk h f k
  | succ n ih =>
    intro x3 x5 h e h5 e3 f k
    refine b_X13_folds_74 ⟨by omega, by omega⟩ ⟨by omega, by omega⟩ (fun c => by omega) (fun c => l_folds83 hd m oT ew u1 u2 v1 v2 v3 oU ha ha' h4 h4' h5 (by omega) e3 (fun h' f' k' => ih (x3 + 1) (x5 + 1) h' (by omega) (by omega) (by omega) f' k') a.toNat 0 h (by omega) (by omega) f (k.imp fun r c b1 b2 b3 b4 p => ?_))
    rcases p with p | p
    · exact Or.inl p
    · exact Or.inr (by omega)
theorem l_folds62 (hd : 3 ≤ d) {k a w : Int} {T U : zTb} (m : mS h0 k T) (oT : okT T) (ew : w = T.2.1 - a) (u1 : U.1 = (T.1 - 1) * w) (u2 : U.2.1 = a + 2) (v1 : ∀ k c : Int, c < a → U.2.2 k c = T.2.2 (1 + k / w) c) (v2 : ∀ k : Int, U.2.2 k a = T.2.2 0 (a + k % w)) (v3 : ∀ k : Int, U.2.2 k (a + 1) = T.2.2 (1 + k / w) (a + k % w)) (oU : shT U) (ha : 1 ≤ a) (ha' : a < T.2.1) : ∀ (n : Nat) (x4 : Int) (h : zH), x4 = T.1 - n → 1 ≤ x4 → frN h0 h → isN h 10 U (fun r c => ouT U r c ∨ r < (x4 - 1) * w) →
    z_Y D M_X13_folds d 62 [(0, 2, 88), (1, 0, T.2.1), (2, 0, a), (3, 0, (x4 - 1) * w), (4, 0, x4)] [] G h (pM G h0 (some U)) := by
  have sh := oT.1
  intro n
  induction n with
  | zero =>
    intro x4 h e h4 f k
    have e4 := (m.fr f).2.1
    refine b_X13_folds_62 ⟨by omega, by omega⟩ ⟨by omega, by omega⟩ (fun _ => ⟨rfl, f, rfl, k.all fun r c b1 b2 b3 b4 => ?_⟩) (fun c => by omega)
    by_cases q : r < U.1 ∧ c < U.2.1
    · rw [u1] at q
      rw [show x4 = T.1 by omega]
      exact Or.inr q.1
    · exact Or.inl q
  | succ n ih =>
    intro x4 h e h4 f k
    have e4 := (m.fr f).2.1
    exact b_X13_folds_62 ⟨by omega, by omega⟩ ⟨by omega, by omega⟩ (fun c => by omega) (fun c => l_folds74 hd m oT ew u1 u2 v1 v2 v3 oU ha ha' h4 (by omega) (fun h' f' k' => ih (x4 + 1) h' (by omega) (by omega) f' k') w.toNat _ a h (by omega) (by omega) (by omega) f k)
end Mst11
