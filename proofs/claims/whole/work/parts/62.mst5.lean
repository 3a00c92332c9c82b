section Mst5
variable {D : zD} {d : Nat} {G : zG} {h h0 h1 : zH} {Q : zO → zG → zH → Prop}
theorem pM_tr {res : Option zTb} {out : zO} {G' : zG} {h' : zH} (f : frN h0 h1) (k : pM G h1 res out G' h') : pM G h0 res out G' h' := ⟨k.1, f.tr k.2.1, k.2.2⟩
/-! drops -/
theorem l_drops33 (hd : 3 ≤ d) {k a x3 : Int} {T U : zTb} (m : mS h0 k T) (oT : okT T) (eU : U = (T.1, T.2.1 - 1, fun r c => if c < a then T.2.2 r c else T.2.2 r (c + 1))) (ha : 0 ≤ a) (ha' : a < T.2.1) (h3 : 0 ≤ x3) (h3' : x3 < T.1)
    (kk : ∀ h, frN h0 h → isN h 10 U (fun r c => ouT U r c ∨ r < x3 + 1) → z_Y D M_X13_drops d 22 [(0, 2, 88), (1, 0, T.2.1), (2, 0, a), (3, 0, x3 + 1)] [] G h Q) : ∀ (n : Nat) (x4 : Int) (h : zH), x4 = T.2.1 - n → 0 ≤ x4 → frN h0 h → isN h 10 U (fun r c => ouT U r c ∨ r < x3 ∨ (r = x3 ∧ ((c < a ∧ c < x4) ∨ (a ≤ c ∧ c + 1 < x4)))) →
    z_Y D M_X13_drops d 33 [(0, 2, 88), (1, 0, T.2.1), (2, 0, a), (3, 0, x3), (4, 0, x4)] [] G h Q := by
  have sh := oT.1
  have u1 : U.1 = T.1 := by rw [eU]
  have u2 : U.2.1 = T.2.1 - 1 := by rw [eU]
  have v1 : ∀ r c : Int, c < a → U.2.2 r c = T.2.2 r c := fun r c q => by rw [eU]; dsimp only; rw [if_pos q]
  have v2 : ∀ r c : Int, a < c → U.2.2 r (c - 1) = T.2.2 r c := fun r c q => by rw [eU]; dsimp only; rw [if_neg (by omega), show c - 1 + 1 = c by omega]
  intro n
  induction n with
  | zero =>
    intro x4 h e h4 f k
    refine b_X13_drops_33 ⟨by omega, by omega⟩ ⟨by omega, by omega⟩ (fun c => by omega) (fun _ => kk h f (k.imp fun r c b1 b2 b3 b4 p => ?_)) (fun c => by omega) (fun c => by omega) (fun c => by omega)
    by_cases q : r < U.1 ∧ c < U.2.1
    · rcases p with p | p
      · exact absurd q p
      · exact Or.inr (by omega)
    · exact Or.inl q
  | succ n ih =>
    intro x4 h e h4 f k
    have j1 := (m.fr f).at oT h3 h3' h4 (by omega)
    refine b_X13_drops_33 ⟨by omega, by omega⟩ ⟨by omega, by omega⟩ (fun c => ⟨by omega, by omega⟩) (fun c => by omega) (fun c c2 => ih (x4 + 1) h (by omega) (by omega) f (k.imp fun r c b1 b2 b3 b4 p => ?_)) (fun c c2 c3 => ?_) (fun c c2 c3 => ?_)
    · rcases p with p | p
      · exact Or.inl p
      · exact Or.inr (by omega)
    · refine b_X13_drops_62 hd j1.1 j1.2.1 (by omega) (by omega) (ih (x4 + 1) _ (by omega) (by omega) (f.w (Or.inr (Or.inl ⟨rfl, by omega, by omega⟩))) (isN_put k (by omega) (by omega) (by omega) (by omega) (by omega) (by rw [j1.2.2.1, v2 _ _ (by omega)]) fun r c b1 b2 b3 b4 p => ?_))
      rcases p with p | p
      · exact Or.inl (Or.inl p)
      · by_cases q : r = x3 ∧ c = x4 - 1
        · exact Or.inr q
        · exact Or.inl (Or.inr (by omega))
    · refine b_X13_drops_62 hd j1.1 j1.2.1 (by omega) (by omega) (ih (x4 + 1) _ (by omega) (by omega) (f.w (Or.inr (Or.inl ⟨rfl, by omega, by omega⟩))) (isN_put k (by omega) (by omega) (by omega) (by omega) (by omega) (by rw [j1.2.2.1, v1 _ _ (by omega)]) fun r c b1 b2 b3 b4 p => ?_))
      rcases p with p | p
      · exact Or.inl (Or.inl p)
      · by_cases q : r = x3 ∧ c = x4
        · exact Or.inr q
        · exact Or.inl (Or.inr (by omega))
theorem l_drops22 (hd : 3 ≤ d) {k a : Int} {T U : zTb} (m : mS h0 k T) (oT : okT T) (eU : U = (T.1, T.2.1 - 1, fun r c => if c < a then T.2.2 r c else T.2.2 r (c + 1))) (ha : 0 ≤ a) (ha' : a < T.2.1) : ∀ (n : Nat) (x3 : Int) (h : zH), x3 = T.1 - n → 0 ≤ x3 → frN h0 h → isN h 10 U (fun r c => ouT U r c ∨ r < x3) →
    z_Y D M_X13_drops d 22 [(0, 2, 88), (1, 0, T.2.1), (2, 0, a), (3, 0, x3)] [] G h (pM G h0 (some U)) := by
  have sh := oT.1
  have u1 : U.1 = T.1 := by rw [eU]
  intro n
  induction n with
  | zero =>
    intro x3 h e h3 f k
    have e4 := (m.fr f).2.1
    refine b_X13_drops_22 ⟨by omega, by omega⟩ ⟨by omega, by omega⟩ (fun _ => ⟨rfl, f, rfl, k.all fun r c b1 b2 b3 b4 => ?_⟩) (fun c => by omega)
    by_cases q : r < U.1 ∧ c < U.2.1
    · exact Or.inr (by omega)
    · exact Or.inl q
  | succ n ih =>
    intro x3 h e h3 f k
    have e4 := (m.fr f).2.1
    refine b_X13_drops_22 ⟨by omega, by omega⟩ ⟨by omega, by omega⟩ (fun c => by omega) (fun c => l_drops33 hd m oT eU ha ha' h3 (by omega) (fun h' f' k' => ih (x3 + 1) h' (by omega) (by omega) f' k') T.2.1.toNat 0 h (by omega) (by omega) f (k.imp fun r c b1 b2 b3 b4 p => ?_))
    rcases p with p | p
    · exact Or.inl p
    · exact Or.inr (by omega)
theorem m_drops (hd : 3 ≤ d) {k a : Int} {T : zTb} (m : mS h k T) (oT : okT T) (ha : 0 ≤ a) (ha' : a < T.2.1) : z_CY D M_X13_drops d [(2, 88), (0, T.2.1), (0, a)] G h (pM G h (sDrop a T)) := by
  have sh := oT.1
  have e4 := m.2.1
  refine z_begin mo_X13_drops rfl (nle rfl) (b_X13_drops_0 ⟨by omega, by omega⟩ (fun c => ?_) (fun c => ?_))
  · rw [e4, sDrop, zif1 c]
    refine z_Kv.of (d2 := d - 1) (by omega) (a_X13_shape 10 T.1 (T.2.1 - 1) (by omega) (by omega)) ?_
    rintro out G' h1 hl1 ⟨r1, rfl, rfl⟩
    exact ⟨r1, b_X13_drops_20 (l_drops22 hd m oT rfl ha ha' T.1.toNat 0 _ (by omega) (by omega) frN_new ((isN_new (U := (T.1, T.2.1 - 1, fun r c => if c < a then T.2.2 r c else T.2.2 r (c + 1)))).imp fun r c b1 b2 b3 b4 p => by
      rcases p with p | p
      · exact p
      · omega))⟩
  · rw [sDrop, zif0 c]
    exact ⟨rfl, frN.rf, rfl⟩
/-! rows as they were chosen -/
theorem l_rb18 (hd : 3 ≤ d) {k n x : Int} {g : Int → Int} {T : zTb} (m : mS h0 k T) (oT : okT T) (hn : n ≤ 12) (hx : 0 ≤ x) (hx' : x < n) (hg : h0 94 x = g x ∧ 0 ≤ g x ∧ g x < T.1)
    (kk : ∀ h, frN h0 h → (∀ j : Int, h 94 j = h0 94 j) → isN h 10 (sRows n g T) (fun r c => ouT (sRows n g T) r c ∨ r < x + 1) → z_Y D M_X13_rowsBy d 10 [(0, 2, 88), (1, 0, n), (2, 0, T.2.1), (3, 0, x + 1)] [] G h Q) : ∀ (mm : Nat) (y : Int) (h : zH), y = T.2.1 - mm → 0 ≤ y → frN h0 h → (∀ j : Int, h 94 j = h0 94 j) → isN h 10 (sRows n g T) (fun r c => ouT (sRows n g T) r c ∨ r < x ∨ (r = x ∧ c < y)) →
    z_Y D M_X13_rowsBy d 18 [(0, 2, 88), (1, 0, n), (2, 0, T.2.1), (3, 0, x), (4, 0, y)] [] G h Q := by
  have sh := oT.1
  have u1 : (sRows n g T).1 = n := rfl
  have u2 : (sRows n g T).2.1 = T.2.1 := rfl
  intro mm
  induction mm with
  | zero =>
    intro y h e y0 f h4 k
    refine b_X13_rowsBy_18 hd ⟨by omega, by omega⟩ ⟨by omega, by omega⟩ (fun c => by omega) (fun c => by omega) (fun c => by omega) (fun c => by omega) (fun c => by omega) (fun c => by omega) (fun _ => kk h f h4 (k.imp fun r c b1 b2 b3 b4 p => ?_)) (fun c => by omega)
    by_cases q : r < (sRows n g T).1 ∧ c < (sRows n g T).2.1
    · rcases p with p | p
      · exact absurd q p
      · exact Or.inr (by omega)
    · exact Or.inl q
  | succ mm ih =>
    intro y h e y0 f h4 k
    have j1 := (m.fr f).at oT hg.2.1 hg.2.2 y0 (by omega)
    have eg : h 94 x = g x := (h4 x).trans hg.1
    refine b_X13_rowsBy_18 hd ⟨by omega, by omega⟩ ⟨by omega, by omega⟩ (fun c => by omega) (fun c => by omega) (fun c => by rw [eg]; exact j1.1) (fun c => by rw [eg]; exact j1.2.1) (fun c => by omega) (fun c => by omega) (fun c => by omega) (fun c => ?_)
    rw [eg, j1.2.2.1]
    refine ih (y + 1) _ (by omega) (by omega) (f.w (Or.inr (Or.inl ⟨rfl, by omega, by omega⟩))) (fun j => by rw [w_na (by omega)]; exact h4 j) (isN_put k hx (by omega) y0 (by omega) (by omega) rfl fun r c b1 b2 b3 b4 p => ?_)
    rcases p with p | p
    · exact Or.inl (Or.inl p)
    · by_cases q : r = x ∧ c = y
      · exact Or.inr q
      · exact Or.inl (Or.inr (by omega))
theorem l_rb10 (hd : 3 ≤ d) {k n : Int} {g : Int → Int} {T : zTb} (m : mS h0 k T) (oT : okT T) (hn : n ≤ 12) (hg : ∀ x : Int, 0 ≤ x → x < n → h0 94 x = g x ∧ 0 ≤ g x ∧ g x < T.1) : ∀ (mm : Nat) (x : Int) (h : zH), x = n - mm → 0 ≤ x → frN h0 h → (∀ j : Int, h 94 j = h0 94 j) → isN h 10 (sRows n g T) (fun r c => ouT (sRows n g T) r c ∨ r < x) →
    z_Y D M_X13_rowsBy d 10 [(0, 2, 88), (1, 0, n), (2, 0, T.2.1), (3, 0, x)] [] G h (fun out G' h' => out = .inl none ∧ G' = G ∧ frN h0 h' ∧ isM h' 10 (sRows n g T)) := by
  have sh := oT.1
  have u1 : (sRows n g T).1 = n := rfl
  intro mm
  induction mm with
  | zero =>
    intro x h e x0 f h4 k
    refine b_X13_rowsBy_10 ⟨by omega, by omega⟩ ⟨by omega, by omega⟩ (fun _ => ⟨rfl, rfl, f, k.all fun r c b1 b2 b3 b4 => ?_⟩) (fun c => by omega)
    by_cases q : r < (sRows n g T).1 ∧ c < (sRows n g T).2.1
    · exact Or.inr (by omega)
    · exact Or.inl q
  | succ mm ih =>
    intro x h e x0 f h4 k
    refine b_X13_rowsBy_10 ⟨by omega, by omega⟩ ⟨by omega, by omega⟩ (fun c => by omega) (fun c => l_rb18 hd m oT hn x0 (by omega) (hg x x0 (by omega)) (fun h' f' h4' k' => ih (x + 1) h' (by omega) (by omega) f' h4' k') T.2.1.toNat 0 h (by omega) (by omega) f h4 (k.imp fun r c b1 b2 b3 b4 p => ?_))
    rcases p with p | p
    · exact Or.inl p
    · exact Or.inr (by omega)
theorem m_rowsBy (hd : 3 ≤ d) {k n : Int} {g : Int → Int} {T : zTb} (m : mS h k T) (oT : okT T) (hn0 : 0 ≤ n) (hn : n ≤ 12) (hg : ∀ x : Int, 0 ≤ x → x < n → h 94 x = g x ∧ 0 ≤ g x ∧ g x < T.1) : z_CY D M_X13_rowsBy d [(2, 88), (0, n), (0, T.2.1)] G h (fun out G' h' => out = .inl none ∧ G' = G ∧ frN h h' ∧ isM h' 10 (sRows n g T)) := by
  refine z_begin mo_X13_rowsBy rfl (nle rfl) (b_X13_rowsBy_0 (z_Kv.of (d2 := d - 1) (by omega) (a_X13_shape 10 n T.2.1 (by omega) (by omega)) ?_))
  rintro out G' h1 hl1 ⟨r1, rfl, rfl⟩
  exact ⟨r1, b_X13_rowsBy_8 (l_rb10 hd m oT hn hg n.toNat 0 _ (by omega) (by omega) frN_new (fun j => by rw [zfr_na (by omega), w_na (by omega), w_na (by omega)]) ((isN_new (U := sRows n g T)).imp fun r c b1 b2 b3 b4 p => by
    rcases p with p | p
    · exact p
    · omega))⟩
end Mst5
