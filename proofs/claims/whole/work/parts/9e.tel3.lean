section Tel3
variable {D : zD} {G : zG} {h h0 h1 : zH} {two : Prop} {W V B : zTb} {wi vi : Int} {lvl : Int → Int} {l : Int} {s : bS}
theorem l_tel122 {d r : Nat} (hd : 10 ≤ d) (IH : tlR D G two W V B wi vi lvl l s r (d - 1)) (o : lvO lvl l) (e0 : lvl (l + 1) = s.1) (tg : tgB two lvl l s) (l3 : l ≤ 3) {x dep n : Int} {T X : List (List Int)} {pre : List Int} (d0 : 0 ≤ dep) (er : l = dep + (r + 1 : Nat)) (x0 : lvl dep ≤ x) (x1 : x < lvl (dep + 1)) (rp : rwM h0 pre) (lp : (pre.length : Int) = dep) (tm : tlM two W V B wi vi lvl l s h0) (n1 : 1 ≤ n) (n2 : n ≤ 14)
    (K : ∀ g : zH, frB mTl h0 g → (∀ a j : Int, 108 ≤ a → a ≤ 110 → j < dep → g a j = h0 a j) → tdM l g ((T ++ cbl (pP two W V lvl l s r) pre (edP two (s.2 x) (lvl (dep + 1)) s (ei (n + 1) 0 0).toNat)).take 60) → z_Y D M_X13_tellWays d 112 [(0, 2, 88), (1, 0, x), (2, 0, dep), (3, 0, l), (4, 0, n + 1)] [] G g (tlQ two W V lvl l s dep X G h0)) :
    ∀ (m : Nat) (a : Int) (g : zH), 6 = a + m → 0 ≤ a → frB mTl h0 g → (∀ a j : Int, 108 ≤ a → a ≤ 110 → j < dep → g a j = h0 a j) → tdM l g ((T ++ cbl (pP two W V lvl l s r) pre (edP two (s.2 x) (lvl (dep + 1)) s (ei n a 0).toNat)).take 60) → z_Y D M_X13_tellWays d 122 [(0, 2, 88), (1, 0, x), (2, 0, dep), (3, 0, l), (4, 0, n), (5, 0, a)] [] G g (tlQ two W V lvl l s dep X G h0) := by
  intro m
  induction m with
  | zero =>
    intro a g e a0 f fr td
    refine b_X13_tellWays_122 ⟨by omega, by omega⟩ (fun _ => K g f fr ?_) (fun c => by omega)
    rw [show ei n a 0 = ei (n + 1) 0 0 by unfold ei; omega] at td
    exact td
  | succ m ih =>
    intro a g e a0 f fr td
    exact b_X13_tellWays_122 ⟨by omega, by omega⟩ (fun c => by omega) (fun _ => l_tel132 hd IH o e0 tg l3 d0 er x0 x1 rp lp tm n1 n2 a0 (by omega) (fun g f fr td => ih (a + 1) g (by omega) (by omega) f fr td) 6 0 g (by omega) (by omega) f fr td)
theorem l_tel112 {d r : Nat} (hd : 10 ≤ d) (IH : tlR D G two W V B wi vi lvl l s r (d - 1)) (o : lvO lvl l) (e0 : lvl (l + 1) = s.1) (tg : tgB two lvl l s) (l3 : l ≤ 3) {x dep : Int} {T : List (List Int)} {pre : List Int} (d0 : 0 ≤ dep) (er : l = dep + (r + 1 : Nat)) (x0 : lvl dep ≤ x) (x1 : x < lvl (dep + 1)) (rp : rwM h0 pre) (lp : (pre.length : Int) = dep) (tm : tlM two W V B wi vi lvl l s h0) :
    ∀ (m : Nat) (n : Int) (g : zH), 15 = n + m → 1 ≤ n → frB mTl h0 g → (∀ a j : Int, 108 ≤ a → a ≤ 110 → j < dep → g a j = h0 a j) → tdM l g ((T ++ cbl (pP two W V lvl l s r) pre (edP two (s.2 x) (lvl (dep + 1)) s (ei n 0 0).toNat)).take 60) → z_Y D M_X13_tellWays d 112 [(0, 2, 88), (1, 0, x), (2, 0, dep), (3, 0, l), (4, 0, n)] [] G g (tlQ two W V lvl l s dep (T ++ (pP two W V lvl l s (r + 1) x).map fun p => pre ++ p) G h0) := by
  intro m
  induction m with
  | zero =>
    intro n g e n0 f fr td
    refine b_X13_tellWays_112 ⟨by omega, by omega⟩ (fun _ => ⟨rfl, rfl, f, ?_, fr⟩) (fun c => by omega)
    rw [show n = 15 by omega, show ei 15 0 0 = 504 by decide] at td
    rw [cbl_t d0 er]
    exact td
  | succ m ih =>
    intro n g e n0 f fr td
    exact b_X13_tellWays_112 ⟨by omega, by omega⟩ (fun c => by omega) (fun _ => l_tel122 hd IH o e0 tg l3 d0 er x0 x1 rp lp tm (by omega) (by omega) (fun g f fr td => ih (n + 1) g (by omega) (by omega) f fr td) 6 0 g (by omega) (by omega) f fr td)
theorem m_tells (o : lvO lvl l) (e0 : lvl (l + 1) = s.1) (tg : tgB two lvl l s) (l3 : l ≤ 3) : ∀ (r d : Nat), 10 + r ≤ d → tlR D G two W V B wi vi lvl l s r d := by
  intro r
  induction r with
  | zero =>
    intro d hd x dep h T pre d0 er x0 x1 ne td rp lp tm
    have ne := ne rfl
    have td1 := td.1
    have td2 := td.2.1
    refine z_begin mo_X13_tellWays rfl (nle rfl) (b_X13_tellWays_0 (by rw [td2]; exact ⟨by omega, by omega⟩) (fun _ => ⟨by omega, by omega⟩) (fun _ => ⟨by omega, by omega⟩) (fun _ c => absurd (show dep = l by omega) c) (fun c _ => ?_) (fun c => ?_))
    · have pe : pP two W V lvl l s 0 x = [[]] := by
        unfold pP at ne ⊢
        show (if eE (eW W V) s x = true then [[]] else []) = _
        rw [if_pos]
        refine Classical.byContradiction fun q => ne ?_
        show (if eE (eW W V) s x = true then [[]] else []) = _
        rw [if_neg q]
      refine (l_tel18 (h0 := h) (by omega) l3 (by omega) (by omega) td rp pre.length 0 h (by omega) (fun _ _ _ => rfl) (fun i c hi => by omega)).mono fun out G' h' _ q => ?_
      obtain ⟨q1, q2, q3, q4, q5⟩ := q
      refine ⟨q1, q2, q3, ?_, fun a j a1 a2 _ => q5 a j a1 a2⟩
      rw [pe]
      show tdM l h' ((T ++ [pre ++ []]).take 60)
      rw [List.append_nil, List.take_of_length_le q4.1]
      exact q4
    · have c : h 88 41 = 60 := Classical.byContradiction fun q => c q
      refine ⟨rfl, rfl, frB.rf, ?_, fun _ _ _ _ _ => rfl⟩
      have t60 : T.take 60 = T := List.take_of_length_le td1
      rw [tk_ge (by rw [t60]; omega), t60]; exact td
  | succ r ihr =>
    intro d hd x dep h T pre d0 er x0 x1 ne td rp lp tm
    have td1 := td.1
    have td2 := td.2.1
    have t60 : T.take 60 = T := List.take_of_length_le td1
    refine z_begin mo_X13_tellWays rfl (nle rfl) (b_X13_tellWays_0 (by rw [td2]; exact ⟨by omega, by omega⟩) (fun _ => ⟨by omega, by omega⟩) (fun _ => ⟨by omega, by omega⟩) (fun c _ => ?_) (fun _ c => absurd (show ¬ dep = l by omega) c) (fun c => ?_))
    · refine l_tel112 (by omega) (ihr (d - 1) (by omega)) o e0 tg l3 d0 er x0 x1 rp lp tm 14 1 h (by omega) (by omega) frB.rf (fun _ _ _ _ _ => rfl) ?_
      rw [show ei 1 0 0 = 0 by decide]
      show tdM l h ((T ++ []).take 60)
      rw [List.append_nil, t60]; exact td
    · have c : h 88 41 = 60 := Classical.byContradiction fun q => c q
      refine ⟨rfl, rfl, frB.rf, ?_, fun _ _ _ _ _ => rfl⟩
      rw [tk_ge (by rw [t60]; omega), t60]; exact td
end Tel3
/-! clean: what is outside is empty already -/
section Clean
variable {D : zD} {d : Nat} {G : zG} {h h0 h1 : zH}
theorem a_clean (hd : 2 ≤ d) {t : Int} {T : zTb} (t0 : 0 ≤ t) (t1 : t < 12) (m : isM h t T) (oT : okT T) : z_Ev D M_X13_clean d [(2, 88), (0, t)] G h h := by
  have p := oT.1
  have e1 := m.1
  have e2 := m.2.1
  have zr : ∀ r c : Int, 0 ≤ r → r < 12 → 0 ≤ c → c < 6 → ¬ (r < T.1 ∧ c < T.2.1) → z_wr h 91 (72 * t + 6 * r + c) 0 = h := by
    intro r c r0 r1 c0 c1 q
    have := m.2.2 r c r0 r1 c0 c1
    unfold nrm at this
    rw [if_neg q] at this
    rw [← this]; exact wr_id
  have inner : ∀ (r : Int), 0 ≤ r → r < 12 → z_Y D M_X13_clean d 2 [(0, 2, 88), (1, 0, t), (2, 0, r + 1)] [] G h (fun o G' h' => o = .inl none ∧ G' = G ∧ h' = h) → ∀ (k : Nat) (c : Int), 6 = c + k → 0 ≤ c → z_Y D M_X13_clean d 10 [(0, 2, 88), (1, 0, t), (2, 0, r), (3, 0, c)] [] G h (fun o G' h' => o = .inl none ∧ G' = G ∧ h' = h) := by
    intro r r0 r1 K k
    induction k with
    | zero =>
      intro c e c0
      exact b_X13_clean_10 ⟨by omega, by omega⟩ (fun c => by omega) (fun c => by omega) (fun c => by omega) (fun c => by omega) (fun c => by omega) (fun _ => K) (fun c => by omega) (fun c => by omega) (fun c => by omega)
    | succ k ih =>
      intro c e c0
      have nx := ih (c + 1) (by omega) (by omega)
      refine b_X13_clean_10 ⟨by omega, by omega⟩ (fun _ => t0) (fun _ => t1) (fun _ => ⟨by omega, by omega⟩) (fun _ => by rw [e1]; exact ⟨by omega, by omega⟩) (fun _ _ => by rw [e2]; exact ⟨by omega, by omega⟩) (fun c => by omega) (fun _ q => ?_) (fun _ _ _ => nx) (fun _ _ q => ?_)
      · refine b_X13_clean_36 hd (by omega) (by omega) ?_
        rw [zr r c r0 r1 c0 (by omega) (by omega)]; exact nx
      · refine b_X13_clean_36 hd (by omega) (by omega) ?_
        rw [zr r c r0 r1 c0 (by omega) (by omega)]; exact nx
  have outer : ∀ (k : Nat) (r : Int), 12 = r + k → 0 ≤ r → z_Y D M_X13_clean d 2 [(0, 2, 88), (1, 0, t), (2, 0, r)] [] G h (fun o G' h' => o = .inl none ∧ G' = G ∧ h' = h) := by
    intro k
    induction k with
    | zero =>
      intro r e r0
      exact b_X13_clean_2 ⟨by omega, by omega⟩ (fun _ => ⟨rfl, rfl, rfl⟩) (fun c => by omega)
    | succ k ih =>
      intro r e r0
      exact b_X13_clean_2 ⟨by omega, by omega⟩ (fun c => by omega) (fun _ => inner r r0 (by omega) (ih (r + 1) (by omega) (by omega)) 6 0 (by omega) (by omega))
  exact z_begin mo_X13_clean rfl (nle rfl) (b_X13_clean_0 (outer 12 0 (by omega) (by omega)))
end Clean
