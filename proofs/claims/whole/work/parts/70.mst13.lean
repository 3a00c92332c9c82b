section Mst13
variable {D : zD} {d : Nat} {G : zG} {h h0 h1 : zH} {Q : zO → zG → zH → Prop}
/-! joins -/
theorem l_joins86 (hd : 3 ≤ d) {k a b x4 : Int} {T U : zTb} (m : mS h0 k T) (oT : okT T) (nT : noA T) (hb : 0 ≤ b ∧ b ≤ 3) (eU : ((T.1, T.2.1 - 1, fun r c => if c < a then T.2.2 r c else if c = a then zjn b (T.2.2 r a) (T.2.2 r (a + 1)) else T.2.2 r (c + 1)) : zTb) = U) (ha : 0 ≤ a) (ha' : a + 1 < T.2.1) (h4 : 0 ≤ x4) (h4' : x4 < T.1) (hl : zlen (T.2.2 x4 a) + 1 + zlen (T.2.2 x4 (a + 1)) ≤ 7)
    (kk : ∀ h, frN h0 h → isN h 10 U (fun r c => ouT U r c ∨ r < x4 + 1) → z_Y D M_X13_joins d 30 [(0, 2, 88), (1, 0, T.2.1), (2, 0, a), (3, 0, b), (4, 0, x4 + 1)] [] G h Q) : ∀ (n : Nat) (y : Int) (h : zH), y = T.2.1 - n → 0 ≤ y → frN h0 h → isN h 10 U (fun r c => ouT U r c ∨ r < x4 ∨ (r = x4 ∧ ((c < a ∧ c < y) ∨ (a < c ∧ c + 1 < y)))) →
    z_Y D M_X13_joins d 86 [(0, 2, 88), (1, 0, T.2.1), (2, 0, a), (3, 0, b), (4, 0, x4), (5, 1, T.2.2 x4 a), (7, 1, T.2.2 x4 (a + 1)), (9, 0, zlen (T.2.2 x4 (a + 1))), (10, 0, y)] [] G h Q := by
  have sh := oT.1
  have u1 : U.1 = T.1 := by rw [← eU]
  have u2 : U.2.1 = T.2.1 - 1 := by rw [← eU]
  have v1 : ∀ r : Int, U.2.2 r a = zjn b (T.2.2 r a) (T.2.2 r (a + 1)) := fun r => by rw [← eU]; dsimp only; rw [if_neg (by omega), if_pos rfl]
  have v3 : ∀ r c : Int, c < a → U.2.2 r c = T.2.2 r c := fun r c q => by rw [← eU]; dsimp only; rw [if_pos q]
  have v4 : ∀ r c : Int, a + 1 < c → U.2.2 r (c - 1) = T.2.2 r c := fun r c q => by rw [← eU]; dsimp only; rw [if_neg (by omega), if_neg (by omega), show c - 1 + 1 = c by omega]
  have mb := zmb_rg b
  have g1 := oT.2 x4 a h4 h4' ha (by omega)
  have g2 := nT x4 a h4 h4' ha (by omega)
  have g3 := oT.2 x4 (a + 1) h4 h4' (by omega) ha'
  have g4 := nT x4 (a + 1) h4 h4' (by omega) ha'
  intro n
  induction n with
  | zero =>
    intro y h e y0 f k
    refine b_X13_joins_86 hd ⟨by omega, by omega⟩ ⟨by omega, by omega⟩ (fun _ => hb.1) (fun _ => by omega) (fun _ => ⟨by omega, by omega⟩) (fun _ => by omega) (fun _ => by omega) (fun c => by omega) (fun c => by omega) (fun _ => ?_) (fun c => by omega) (fun c => by omega) (fun c => by omega)
    rw [zjn_of g2 g1.2 g4 g3.2 hl]
    refine kk _ (f.w (Or.inr (Or.inl ⟨rfl, by omega, by omega⟩))) (isN_put k h4 (by omega) ha (by omega) (by omega) (v1 x4).symm fun r c b1 b2 b3 b4 p => ?_)
    by_cases z : r < U.1 ∧ c < U.2.1
    · rcases p with p | p
      · exact absurd z p
      · by_cases q : r = x4 ∧ c = a
        · exact Or.inr q
        · exact Or.inl (Or.inr (by omega))
    · exact Or.inl (Or.inl z)
  | succ n ih =>
    intro y h e y0 f k
    have j1 := (m.fr f).at oT h4 h4' y0 (show y < T.2.1 by omega)
    refine b_X13_joins_86 hd ⟨by omega, by omega⟩ ⟨by omega, by omega⟩ (fun c => by omega) (fun c => by omega) (fun c => by omega) (fun c => by omega) (fun c => by omega) (fun _ => ⟨by omega, by omega⟩) (fun _ _ => ⟨by omega, by omega⟩) (fun c => by omega) (fun c c2 => ?_) (fun c c2 c3 => ih (y + 1) h (by omega) (by omega) f (k.imp fun r c b1 b2 b3 b4 p => ?_)) (fun c c2 c3 => ?_)
    · refine b_X13_joins_106 ⟨by omega, by omega⟩ ⟨by omega, by omega⟩ (fun c => by omega) (fun _ => b_X13_joins_124 hd j1.1 j1.2.1 (by omega) (by omega) (ih (y + 1) _ (by omega) (by omega) (f.w (Or.inr (Or.inl ⟨rfl, by omega, by omega⟩))) (isN_put k h4 (by omega) y0 (by omega) (by omega) (by rw [j1.2.2.1, v3 _ _ c2]) fun r c b1 b2 b3 b4 p => ?_)))
      rcases p with p | p
      · exact Or.inl (Or.inl p)
      · by_cases q : r = x4 ∧ c = y
        · exact Or.inr q
        · exact Or.inl (Or.inr (by omega))
    · rcases p with p | p
      · exact Or.inl p
      · exact Or.inr (by omega)
    · refine b_X13_joins_106 ⟨by omega, by omega⟩ ⟨by omega, by omega⟩ (fun _ => b_X13_joins_124 hd j1.1 j1.2.1 (by omega) (by omega) (ih (y + 1) _ (by omega) (by omega) (f.w (Or.inr (Or.inl ⟨rfl, by omega, by omega⟩))) (isN_put k h4 (by omega) (show 0 ≤ y - 1 by omega) (by omega) (by omega) (by rw [j1.2.2.1, v4 _ _ (by omega)]) fun r c b1 b2 b3 b4 p => ?_))) (fun c => by omega)
      rcases p with p | p
      · exact Or.inl (Or.inl p)
      · by_cases q : r = x4 ∧ c = y - 1
        · exact Or.inr q
        · exact Or.inl (Or.inr (by omega))
end Mst13
