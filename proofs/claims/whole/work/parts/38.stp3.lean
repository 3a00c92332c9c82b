section Stp3
variable {D : zD} {d : Nat} {G : zG} {h h0 : zH} {Q : zO → zG → zH → Prop}
/-! moveColumns -/
theorem l_move15 (hd : 2 ≤ d) {i o x2 x3 x4 x5 : Int} {T U : zTb} {P : Int → Int → Prop} (ap : apS G i o) (ki : isC h0 i T) (oT : okT T) (eU : U.1 = T.1) (oU : shT U) (h2 : 0 ≤ x2) (h2' : x2 ≤ 10) (h3 : x3 ≤ T.2.1) (h3' : -10 ≤ x3) (hv : ∀ r c : Int, 0 ≤ r → r < T.1 → x2 ≤ c → c < x3 → (0 ≤ c + x4 ∧ c + x4 < U.2.1) ∧ T.2.2 r c = U.2.2 r (c + x4)) (h5 : 0 ≤ x5) (h5' : x5 < T.1)
    (kk : ∀ h, frS o h0 h → isP h o U (fun r c => P r c ∨ (r < x5 + 1 ∧ x2 + x4 ≤ c ∧ c < x3 + x4)) → z_Y D M_X3_moveColumns d 3 [(0, 2, i), (1, 2, o), (2, 0, x2), (3, 0, x3), (4, 0, x4), (5, 0, x5 + 1)] [] G h Q) : ∀ (n : Nat) (x6 : Int) (h : zH), x3 ≤ x6 + n → x2 ≤ x6 → x6 ≤ 10 → frS o h0 h → isP h o U (fun r c => (P r c ∨ (r < x5 ∧ x2 + x4 ≤ c ∧ c < x3 + x4)) ∨ (r = x5 ∧ x2 + x4 ≤ c ∧ c < x6 + x4)) →
    z_Y D M_X3_moveColumns d 15 [(0, 2, i), (1, 2, o), (2, 0, x2), (3, 0, x3), (4, 0, x4), (5, 0, x5), (6, 0, x6)] [] G h Q := by
  have sh := oT.1
  intro n
  induction n with
  | zero =>
    intro x6 h e h6 h6' f k
    exact b_X3_moveColumns_15 hd ⟨by omega, by omega⟩ ⟨by omega, by omega⟩ (fun _ => ap.1) (fun c => by omega) (fun c => by omega) (fun _ => ap.2.1) (fun c => by omega) (fun c => by omega) (fun _ => kk h f (k.imp fun r c b1 b2 b3 b4 p => by
      rcases p with p | p
      · exact Or.inl (Or.inl p)
      · rcases Int.lt_or_le r x5 with q | q
        · exact Or.inl (Or.inr (by omega))
        · exact Or.inr (by omega))) (fun c => by omega)
  | succ n ih =>
    intro x6 h e h6 h6' f k
    by_cases cc : x3 ≤ x6
    · exact ih x6 h (by omega) h6 h6' f k
    have k' := isC_fr ap ki f
    have j1 := isC_ix k' oT h5 h5' (show 0 ≤ x6 by omega) (by omega)
    have v := hv x5 x6 h5 h5' h6 (by omega)
    have j2 := isP_ix (r := x5) (c := x6 + x4) k oU h5 (by omega) v.1.1 v.1.2
    exact b_X3_moveColumns_15 hd ⟨by omega, by omega⟩ ⟨by omega, by omega⟩ (fun _ => ap.1) (fun c => j1.1) (fun c => j1.2.1) (fun _ => ap.2.1) (fun c => j2.1) (fun c => j2.2) (fun c => by omega) (fun c => ih (x6 + 1) _ (by omega) (by omega) (by omega) (f.w (Or.inr (Or.inl rfl))) (isP_put2 k v.1.1 v.1.2 (j1.2.2.1.trans v.2) fun r c b1 b2 b3 b4 p => by
      rcases p with p | p
      · exact Or.inl (Or.inl p)
      · by_cases q : c = x6 + x4
        · exact Or.inr ⟨p.1, q⟩
        · exact Or.inl (Or.inr (by omega))))
theorem l_move3 (hd : 2 ≤ d) {i o x2 x3 x4 : Int} {T U : zTb} {P : Int → Int → Prop} (ap : apS G i o) (ki : isC h0 i T) (oT : okT T) (eU : U.1 = T.1) (oU : shT U) (h2 : 0 ≤ x2) (h2' : x2 ≤ 10) (h3 : x3 ≤ T.2.1) (h3' : -10 ≤ x3) (hv : ∀ r c : Int, 0 ≤ r → r < T.1 → x2 ≤ c → c < x3 → (0 ≤ c + x4 ∧ c + x4 < U.2.1) ∧ T.2.2 r c = U.2.2 r (c + x4)) : ∀ (n : Nat) (x5 : Int) (h : zH), x5 = T.1 - n → 0 ≤ x5 → frS o h0 h → isP h o U (fun r c => P r c ∨ (r < x5 ∧ x2 + x4 ≤ c ∧ c < x3 + x4)) →
    z_Y D M_X3_moveColumns d 3 [(0, 2, i), (1, 2, o), (2, 0, x2), (3, 0, x3), (4, 0, x4), (5, 0, x5)] [] G h (fun out G' h' => out = .inl none ∧ G' = G ∧ frS o h0 h' ∧ isP h' o U (fun r c => P r c ∨ (x2 + x4 ≤ c ∧ c < x3 + x4))) := by
  have sh := oT.1
  intro n
  induction n with
  | zero =>
    intro x5 h e h5 f k
    have k' := isC_fr ap ki f
    have e1 := k'.1
    exact b_X3_moveColumns_3 ap.1 ⟨by omega, by omega⟩ ⟨by omega, by omega⟩ (fun _ => ⟨rfl, rfl, f, k.imp fun r c b1 b2 b3 b4 p => by
      rcases p with p | p
      · exact Or.inl p
      · exact Or.inr (by omega)⟩) (fun c => by omega)
  | succ n ih =>
    intro x5 h e h5 f k
    have k' := isC_fr ap ki f
    have e1 := k'.1
    refine b_X3_moveColumns_3 ap.1 ⟨by omega, by omega⟩ ⟨by omega, by omega⟩ (fun c => by omega) (fun c => l_move15 hd ap ki oT eU oU h2 h2' h3 h3' hv h5 (by omega) ?_ 20 x2 h (by omega) (by omega) h2' f (k.imp fun r c b1 b2 b3 b4 p => by
      rcases p with p | p
      · exact p
      · omega))
    intro h' f' k'
    exact ih (x5 + 1) h' (by omega) (by omega) f' k'
theorem c_move (hd : 2 ≤ d) {i o : Int} (x2 x3 x4 : Int) {T U : zTb} (P : Int → Int → Prop) (ap : apS G i o) (ki : isC h0 i T) (oT : okT T) (eU : U.1 = T.1) (oU : shT U) (h2 : 0 ≤ x2) (h2' : x2 ≤ 10) (h3 : x3 ≤ T.2.1) (h3' : -10 ≤ x3) (hv : ∀ r c : Int, 0 ≤ r → r < T.1 → x2 ≤ c → c < x3 → (0 ≤ c + x4 ∧ c + x4 < U.2.1) ∧ T.2.2 r c = U.2.2 r (c + x4)) (f : frS o h0 h) (k : isP h o U P) :
    z_CY D M_X3_moveColumns d [(2, i), (2, o), (0, x2), (0, x3), (0, x4)] G h (fun out G' h' => out = .inl none ∧ G' = G ∧ frS o h0 h' ∧ isP h' o U (fun r c => P r c ∨ (x2 + x4 ≤ c ∧ c < x3 + x4))) := by
  have sh := oT.1
  exact z_begin mo_X3_moveColumns rfl (nle rfl) (b_X3_moveColumns_0 (l_move3 hd ap ki oT eU oU h2 h2' h3 h3' hv T.1.toNat 0 h (by omega) (by omega) f (k.imp fun r c b1 b2 b3 b4 p => by
      rcases p with p | p
      · exact p
      · omega)))
/-! drop -/
theorem c_drop (hd : 3 ≤ d) {i o a : Int} {T : zTb} (ap : apS G i o) (ki : isC h i T) (oT : okT T) (ha : 0 ≤ a) (ha' : a < T.2.1) : z_CY D M_X3_drop d [(2, i), (2, o), (0, a)] G h (pC G o h (sDrop a T)) := by
  have sh := oT.1
  have e1 := ki.1; have e2 := ki.2.1
  refine z_begin mo_X3_drop rfl (nle rfl) (b_X3_drop_0 (by omega) ap.1 ap.2.1 ⟨by omega, by omega⟩ ⟨by omega, by omega⟩ (fun c => ?_) (fun c => ?_))
  · unfold sDrop
    rw [zif1 (by omega), e1, e2]
    generalize eU : ((T.1, T.2.1 - 1, fun r c => if c < a then T.2.2 r c else T.2.2 r (c + 1)) : zTb) = U
    have u1 : U.1 = T.1 := by rw [← eU]
    have u2 : U.2.1 = T.2.1 - 1 := by rw [← eU]
    have oU : shT U := ⟨by omega, by omega, by omega, by omega⟩
    rw [← u1, ← u2]
    refine z_Kv.of (d2 := d - 1) (by omega) (c_move (by omega) 0 a 0 (fun _ _ => False) ap ki oT u1 oU (by omega) (by omega) (by omega) (by omega) (fun r c b1 b2 b3 b4 => ?_) frS_new isP_new) ?_
    · rw [← eU]; dsimp only; rw [Int.add_zero, if_pos b4]; exact ⟨by omega, rfl⟩
    rintro out G' h1 hl1 ⟨r1, rfl, f1, k1⟩
    refine ⟨r1, b_X3_drop_27 ap.1 ?_⟩
    have e2' := (isC_fr ap ki f1).2.1
    rw [e2']
    refine z_Kv.of (d2 := d - 1) (by omega) (c_move (by omega) (a + 1) T.2.1 (-1) _ ap ki oT u1 oU (by omega) (by omega) (by omega) (by omega) (fun r c b1 b2 b3 b4 => ?_) f1 k1) ?_
    · rw [← eU]; dsimp only; rw [if_neg (by omega), show c + -1 + 1 = c by omega]; exact ⟨by omega, rfl⟩
    rintro out2 G' h2 hl2 ⟨r2, rfl, f2, k2⟩
    exact ⟨r2, b_X3_drop_40 ⟨rfl, f2, rfl, k2.all fun r c b1 b2 b3 b4 => by omega⟩⟩
  · unfold sDrop
    rw [zif0 (by omega)]
    exact ⟨rfl, frS.rf, rfl⟩
/-! head -/
theorem l_head21 (hd : 3 ≤ d) {i o : Int} {T U : zTb} (ap : apS G i o) (ki : isC h0 i T) (oT : okT T) (u1 : U.1 = T.1 - 1) (u2 : U.2.1 = T.2.1) (uv : ∀ r c : Int, U.2.2 r c = T.2.2 (r + 1) c) (oU : shT U) : ∀ (n : Nat) (x2 : Int) (h : zH), x2 = T.1 - n → 1 ≤ x2 → frS o h0 h → isP h o U (fun r _ => r < x2 - 1) →
    z_Y D M_X3_head d 21 [(0, 2, i), (1, 2, o), (2, 0, x2)] [] G h (pC G o h0 (some U)) := by
  have sh := oT.1
  intro n
  induction n with
  | zero =>
    intro x2 h e h2 f k
    have k' := isC_fr ap ki f
    have e1 := k'.1; have e2 := k'.2.1
    exact b_X3_head_21 hd ap.1 ⟨by omega, by omega⟩ ⟨by omega, by omega⟩ (fun _ => ap.2.1) (fun _ => ap.2.2.1) (fun c => by omega) (fun c => by omega) (fun c => by omega) (fun c => by omega) (fun c => by omega) (fun _ => ⟨rfl, f, rfl, k.all fun r c b1 b2 b3 b4 => by omega⟩) (fun c => by omega)
  | succ n ih =>
    intro x2 h e h2 f k
    have k' := isC_fr ap ki f
    have e1 := k'.1; have e2 := k'.2.1
    have e3 := k.2.1
    have q1 := isC_ix k' oT (r := x2) (c := T.2.1 - 1) (by omega) (by omega) (by omega) (by omega)
    have q2 := isC_ix k' oT (r := x2) (c := 0) (by omega) (by omega) (by omega) (by omega)
    have q3 := isP_ix (r := x2 - 1) (c := T.2.1 - 1) k oU (by omega) (by omega) (by omega) (by omega)
    have q4 := isP_ix (r := x2 - 1) (c := 0) k oU (by omega) (by omega) (by omega) (by omega)
    refine b_X3_head_21 hd ap.1 ⟨by omega, by omega⟩ ⟨by omega, by omega⟩ (fun _ => ap.2.1) (fun _ => ap.2.2.1) (fun c => by omega) (fun c => by omega) (fun c => by omega) (fun c => by omega) (fun c => by omega) (fun c => by omega) (fun c => ih (x2 + 1) _ (by omega) (by omega) (f.c (Or.inr (Or.inl rfl))) ?_)
    rw [e2, e3]
    exact (isP_cp k k' (r := x2 - 1) (q := x2) (n := T.2.1) (by omega) (by omega) (by omega) (fun c _ _ => by rw [uv, show x2 - 1 + 1 = x2 by omega])).imp fun r c b1 b2 b3 b4 p => by omega
theorem c_head (hd : 3 ≤ d) {i o : Int} {T : zTb} (ap : apS G i o) (ki : isC h i T) (oT : okT T) : z_CY D M_X3_head d [(2, i), (2, o)] G h (pC G o h (sHead T)) := by
  have sh := oT.1
  have e1 := ki.1; have e2 := ki.2.1
  refine z_begin mo_X3_head rfl (nle rfl) (b_X3_head_0 (by omega) ap.1 ap.2.1 ⟨by omega, by omega⟩ ⟨by omega, by omega⟩ (fun c => ?_) (fun c => ?_))
  · unfold sHead
    rw [zif1 (by omega), e1, e2]
    generalize eU : ((T.1 - 1, T.2.1, fun r c => T.2.2 (r + 1) c) : zTb) = U
    have u1 : U.1 = T.1 - 1 := by rw [← eU]
    have u2 : U.2.1 = T.2.1 := by rw [← eU]
    have uv : ∀ r c : Int, U.2.2 r c = T.2.2 (r + 1) c := by rw [← eU]; exact fun _ _ => rfl
    rw [← u1, ← u2]
    exact l_head21 hd ap ki oT u1 u2 uv ⟨by omega, by omega, by omega, by omega⟩ (T.1 - 1).toNat 1 _ (by omega) (by omega) frS_new (isP_new.imp fun r c b1 b2 b3 b4 p => by omega)
  · unfold sHead
    rw [zif0 (by omega)]
    exact ⟨rfl, frS.rf, rfl⟩
end Stp3
