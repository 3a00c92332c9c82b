/-! the model's search: found, kept, taken -/
def lof (p : Int → Prop) (n x : Int) : Prop := (x = -1 ∧ ∀ j : Int, 0 ≤ j → j < n → ¬ p j) ∨ ((0 ≤ x ∧ x < n) ∧ p x ∧ ∀ j : Int, x < j → j < n → ¬ p j)
def mST (two : Prop) (h : zH) (s : bS) : Prop := (h 88 29 = s.1 ∧ 0 ≤ s.1 ∧ s.1 ≤ 1500) ∧ (∀ i : Int, 0 ≤ i → i < s.1 → isQ two h i (s.2 i) ∧ okP (s.2 i)) ∧ dst s ∧ (∀ v : Int, 0 ≤ v → v < 4096 → lof (fun i => hm two (s.2 i) = v) s.1 (h 104 v)) ∧ ∀ i : Int, 0 ≤ i → i < s.1 → lof (fun j => hm two (s.2 j) = hm two (s.2 i)) i (h 103 i)
def sB (two : Prop) (B : zTb) (s : bS) (S : zSt) : Prop := ¬ two → S.2 = B ∧ ∀ i : Int, 0 ≤ i → i < s.1 → (s.2 i).2 = B
theorem okP.Q {two : Prop} {P : zSt} (o : okP P) : okQ two P := ⟨o.1, fun _ => o.2⟩
theorem sB_sq {two : Prop} {B : zTb} {s : bS} {S : zSt} (b : sB two B s S) {i : Int} (i0 : 0 ≤ i) (i1 : i < s.1) : sq two (s.2 i) S ↔ seqS (s.2 i) S := by
  constructor
  · intro q
    refine ⟨q.1, ?_⟩
    by_cases z : two
    · exact q.2 z
    · obtain ⟨b1, b2⟩ := b z
      rw [b1, b2 i i0 i1]; exact teq.rf
  · intro q; exact ⟨q.1, fun _ => q.2⟩
theorem hm_rg (two : Prop) (P : zSt) : 0 ≤ hm two P ∧ hm two P < 4096 := land_rg _
section Ms2
variable {D : zD} {d : Nat} {G : zG} {h h0 h1 : zH} {Q : zO → zG → zH → Prop} {two : Prop} {B : zTb}
theorem l_search (hd : 2 ≤ d) {s : bS} {S : zSt} (ms : mST two h s) (m : mPr two h S) (oS : okP S) (b : sB two B s S) : ∀ (k : Nat) (x n : Int), n ≤ k → n ≤ s.1 → lof (fun j => hm two (s.2 j) = hm two S) n x → (∀ j : Int, n ≤ j → j < s.1 → ¬ sq two (s.2 j) S) →
    z_Y D M_X13_search d 10 [(0, 2, 88), (1, 0, x)] [] G h (fun out G' h' => out = .inl (some (0, idx s S)) ∧ G' = G ∧ h' = h) := by
  obtain ⟨⟨e29, s0, s15⟩, he, ds, hh, hc⟩ := id ms
  intro k
  induction k with
  | zero =>
    intro x n e ns l al
    rcases l with ⟨l1, l2⟩ | ⟨l1, l2⟩
    · refine b_X13_search_10 ⟨by omega, by omega⟩ (fun _ => ⟨?_, rfl, rfl⟩) (fun c => by omega)
      rcases idx_rg s S with w | w
      · rw [w.1]
      · exfalso
        exact al (idx s S) (by omega) w.2.1.1 ((sB_sq b w.1 w.2.1.1).2 w.2.1.2)
    · omega
  | succ k ih =>
    intro x n e ns l al
    rcases l with ⟨l1, l2⟩ | ⟨l1, l2, l3⟩
    · refine b_X13_search_10 ⟨by omega, by omega⟩ (fun _ => ⟨?_, rfl, rfl⟩) (fun c => by omega)
      rcases idx_rg s S with w | w
      · rw [w.1]
      · exfalso
        have wq := (sB_sq b w.1 w.2.1.1).2 w.2.1.2
        by_cases z : idx s S < n
        · exact l2 _ w.1 z (hm_eq (he _ w.1 w.2.1.1).2.Q oS.Q wq)
        · exact al (idx s S) (by omega) w.2.1.1 wq
    · have al' : ∀ j : Int, x < j → j < s.1 → ¬ sq two (s.2 j) S := fun j a b2 q => by
        by_cases z : j < n
        · exact l3 j a z (hm_eq (he j (by omega) b2).2.Q oS.Q q)
        · exact al j (by omega) b2 q
      refine b_X13_search_10 ⟨by omega, by omega⟩ (fun c => by omega) (fun _ => ?_)
      refine z_Ki.of (d2 := d - 1) (by omega) (a_isState (by omega) l1.1 (by omega) m oS.Q (he x l1.1 (by omega)).2.Q (he x l1.1 (by omega)).1) ?_
      rintro out G' h' hl' ⟨r1, rfl, rfl⟩
      have r01 := z_b01 (sq two (s.2 x) S)
      refine ⟨_, r1, b_X13_search_20 ⟨by omega, by omega⟩ (fun _ => by omega) (fun _ => by omega) (fun c => ?_) (fun c => ⟨?_, rfl, rfl⟩)⟩
      · have nq : ¬ sq two (s.2 x) S := fun w => by rw [z_b1 w] at c; cases c
        have lx := hc x l1.1 (by omega)
        rw [l2] at lx
        refine ih (h' 103 x) x (by omega) (by omega) lx fun j a b2 => ?_
        by_cases z : j = x
        · rw [z]; exact nq
        · exact al' j (by omega) b2
      · have q : sq two (s.2 x) S := Classical.byContradiction fun w => c (z_b0 w)
        rw [dst_idx ds l1.1 (by omega) ((sB_sq b l1.1 (by omega)).1 q)]
theorem a_search (hd : 3 ≤ d) {s : bS} {S : zSt} (ms : mST two h s) (m : mPr two h S) (oS : okP S) (b : sB two B s S) : z_Ei D M_X13_search d [(2, 88)] G h (idx s S) h := by
  have hr := hm_rg two S
  refine z_begin mo_X13_search rfl (nle rfl) (b_X13_search_0 (z_Ki.of (d2 := d - 1) (by omega) (a_sum (by omega) m oS.Q) ?_))
  rintro out G' h' hl' ⟨r1, rfl, rfl⟩
  have s0 := ms.1
  exact ⟨_, r1, b_X13_search_8 hr.1 hr.2 (l_search (by omega) ms m oS b s.1.toNat _ s.1 (by omega) (Int.le_refl _) (ms.2.2.2.1 _ hr.1 hr.2) fun j a b => by omega)⟩
/-- keepState -/
theorem l_keep20 {n v : Int} (n0 : 0 ≤ n) (n1 : n < 1500) (v0 : 0 ≤ v) (v1 : v < 4096) : ∀ (m : Nat) (k : Int) (h : zH), 72 = k + m → 0 ≤ k → h 88 29 = n → (∀ b j : Int, ¬ b = 101 → h b j = h0 b j) → (∀ j : Int, j < 144 * n → h 101 j = h0 101 j) → (∀ i : Int, 0 ≤ i → i < k → h 101 (144 * n + i) = h0 91 (576 + i) ∧ h 101 (144 * n + 72 + i) = h0 91 (648 + i)) →
    z_Y D M_X13_keepState d 20 [(0, 2, 88), (1, 0, v), (2, 0, k)] [] G h (fun out G' h' => out = .inl none ∧ G' = G ∧ (∀ b j : Int, ¬ b = 101 → ¬ (b = 103 ∧ j = n) → ¬ (b = 104 ∧ j = v) → ¬ (b = 88 ∧ j = 29) → h' b j = h0 b j) ∧ (∀ j : Int, j < 144 * n → h' 101 j = h0 101 j) ∧ (∀ i : Int, 0 ≤ i → i < 72 → h' 101 (144 * n + i) = h0 91 (576 + i) ∧ h' 101 (144 * n + 72 + i) = h0 91 (648 + i)) ∧ h' 103 n = h0 104 v ∧ h' 104 v = n ∧ h' 88 29 = n + 1) := by
  intro m
  induction m with
  | zero =>
    intro k h e k0 e29 f fo fn
    refine b_X13_keepState_20 ⟨by omega, by omega⟩ (fun _ => v0) (fun _ => v1) (fun _ => by omega) (fun _ => by omega) (fun c => by omega) (fun c => by omega) (fun c => by omega) (fun c => by omega) (fun c => by omega) (fun c => by omega) (fun c => by omega) (fun c => by omega) (fun _ => ?_) (fun c => by omega)
    rw [e29]
    refine ⟨rfl, rfl, fun b j b1 b2 b3 b4 => ?_, fun j j1 => ?_, fun i i0 i1 => ?_, ?_, ?_, ?_⟩
    · have : z_wr (z_wr (z_wr h 103 n (h 104 v)) 104 v n) 88 29 (n + 1) b j = h b j := by unfold z_wr; rw [if_neg b4, if_neg b3, if_neg b2]
      rw [this]; exact f b j b1
    · rw [w_na (by omega), w_na (by omega), w_na (by omega)]; exact fo j j1
    · rw [w_na (by omega), w_na (by omega), w_na (by omega), w_na (by omega), w_na (by omega), w_na (by omega)]; exact fn i i0 (by omega)
    · rw [w_na (by omega), w_na (by omega), w_s]; exact f 104 v (by omega)
    · rw [w_na (by omega), w_s]
    · rw [w_s]
  | succ m ih =>
    intro k h e k0 e29 f fo fn
    refine b_X13_keepState_20 ⟨by omega, by omega⟩ (fun _ => v0) (fun _ => v1) (fun _ => by omega) (fun _ => by omega) (fun _ => by omega) (fun _ => by omega) (fun _ => by omega) (fun _ => by omega) (fun _ => by omega) (fun _ => by omega) (fun _ => by omega) (fun _ => by omega) (fun c => by omega) (fun _ => ?_)
    rw [e29]
    refine ih (k + 1) _ (by omega) (by omega) (by rw [w_na (by omega), w_na (by omega)]; exact e29) (fun b j b1 => by rw [w_na b1, w_na b1]; exact f b j b1) (fun j j1 => by rw [w_nj (by omega), w_nj (by omega)]; exact fo j j1) (fun i i0 i1 => ?_)
    by_cases z : i = k
    · subst z
      refine ⟨?_, ?_⟩
      · rw [w_nj (by omega), w_s]; exact f 91 _ (by omega)
      · rw [w_s]; exact f 91 _ (by omega)
    · rw [w_nj (by omega), w_nj (by omega), w_nj (by omega), w_nj (by omega)]
      exact fn i i0 (by omega)
def mK (a j : Int) : Prop := (101 ≤ a ∧ a ≤ 104) ∨ (a = 88 ∧ j = 29)
theorem m_keepS (hd : 2 ≤ d) {s : bS} {S : zSt} (ms : mST two h s) (m : mPr two h S) (oS : okP S) (ix : idx s S = -1) (s15 : s.1 < 1500) : z_CY D M_X13_keepState d [(2, 88)] G h (fun out G' h' => out = .inl none ∧ G' = G ∧ frB mK h h' ∧ mST two h' (adS s S)) := by
  obtain ⟨⟨e29, s0, -⟩, he, ds, hh, hc⟩ := id ms
  have hr := hm_rg two S
  refine z_begin mo_X13_keepState rfl (nle rfl) (b_X13_keepState_0 (z_Ki.of (d2 := d - 1) (by omega) (a_sum (by omega) m oS.Q) ?_))
  rintro out G' h' hl' ⟨r1, rfl, rfl⟩
  refine ⟨_, r1, b_X13_keepState_4 (z_Ki.of (d2 := d - 1) (by omega) (a_shapeNow m) ?_)⟩
  rintro out G' h' hl' ⟨r2, rfl, rfl⟩
  refine ⟨_, r2, b_X13_keepState_17 (by omega) (by omega) ?_⟩
  rw [e29]
  refine (l_keep20 (h0 := z_wr h' 102 s.1 (shp two S)) s0 s15 hr.1 hr.2 72 0 _ (by omega) (by omega) (by rw [w_na (by omega)]; exact e29) (fun _ _ _ => rfl) (fun _ _ => rfl) (fun i a b => by omega)).mono fun out G' g _ q => ?_
  obtain ⟨q1, q2, q3, q4, q5, q6, q7, q8⟩ := q
  have o : ∀ b j : Int, ¬ (101 ≤ b ∧ b ≤ 104) → ¬ (b = 88 ∧ j = 29) → g b j = h' b j := fun b j p r => by rw [q3 b j (by omega) (by omega) (by omega) r, w_na (by omega)]
  have e102 : ∀ j : Int, ¬ j = s.1 → g 102 j = h' 102 j := fun j p => by rw [q3 102 j (by omega) (by omega) (by omega) (by omega), w_nj p]
  have n102 : g 102 s.1 = shp two S := by rw [q3 102 _ (by omega) (by omega) (by omega) (by omega), w_s]
  have e103 : ∀ j : Int, ¬ j = s.1 → g 103 j = h' 103 j := fun j p => by rw [q3 103 j (by omega) (fun w => p w.2) (by omega) (by omega), w_na (by omega)]
  have e104 : ∀ j : Int, ¬ j = hm two S → g 104 j = h' 104 j := fun j p => by rw [q3 104 j (by omega) (by omega) (fun w => p w.2) (by omega), w_na (by omega)]
  rw [w_na (by omega)] at q6
  refine ⟨q1, q2, fun b j p => o b j (fun w => p (Or.inl w)) (fun w => p (Or.inr w)), ⟨q8, by show 0 ≤ s.1 + 1; omega, by show s.1 + 1 ≤ 1500; omega⟩, fun i i0 i1 => ?_, fun i j i0 ij j1 => ?_, fun v v0 v1 => ?_, fun i i0 i1 => ?_⟩
  · have i1 : i < s.1 + 1 := i1
    by_cases z : i = s.1
    · subst z
      rw [adS_n]
      refine ⟨⟨n102, fun k k0 k1 => ?_, fun tw k k0 k1 => ?_⟩, oS⟩
      · rw [(q5 k k0 k1).1, w_na (by omega), ← isM_gd m.1 k0 k1]; congr 1
      · rw [(q5 k k0 k1).2, w_na (by omega), ← isM_gd (m.2.1 tw) k0 k1]; congr 1
    · rw [adS_o z]
      obtain ⟨⟨y1, y2, y3⟩, y4⟩ := he i i0 (by omega)
      refine ⟨⟨by rw [e102 i z]; exact y1, fun k k0 k1 => ?_, fun tw k k0 k1 => ?_⟩, y4⟩
      · rw [q4 _ (by omega), w_na (by omega)]; exact y2 k k0 k1
      · rw [q4 _ (by omega), w_na (by omega)]; exact y3 tw k k0 k1
  · have j1 : j < s.1 + 1 := j1
    rw [adS_o (show ¬ i = s.1 by omega)]
    by_cases nj : j = s.1
    · subst nj
      rw [adS_n]
      intro w
      rcases idx_rg s S with z | z
      · exact z.2 i i0 ⟨ij, w⟩
      · omega
    · rw [adS_o nj]; exact ds i j i0 ij (by omega)
  · show lof (fun i => hm two ((adS s S).2 i) = v) (s.1 + 1) (g 104 v)
    by_cases z : v = hm two S
    · subst z
      rw [q7]
      exact Or.inr ⟨⟨s0, by omega⟩, by show hm two ((adS s S).2 s.1) = _; rw [adS_n], fun j a b => by omega⟩
    · rw [e104 v z]
      rcases hh v v0 v1 with ⟨l1, l2⟩ | ⟨l1, l2, l3⟩
      · refine Or.inl ⟨l1, fun j j0 j1 w => ?_⟩
        have w : hm two ((adS s S).2 j) = v := w
        by_cases y : j = s.1
        · rw [y, adS_n] at w; exact z w.symm
        · rw [adS_o y] at w; exact l2 j j0 (by omega) w
      · refine Or.inr ⟨⟨l1.1, by omega⟩, by show hm two ((adS s S).2 _) = _; rw [adS_o (by omega)]; exact l2, fun j j0 j1 w => ?_⟩
        have w : hm two ((adS s S).2 j) = v := w
        by_cases y : j = s.1
        · rw [y, adS_n] at w; exact z w.symm
        · rw [adS_o y] at w; exact l3 j j0 (by omega) w
  · have i1 : i < s.1 + 1 := i1
    have tr : ∀ {x n v : Int}, n ≤ s.1 → lof (fun j => hm two (s.2 j) = v) n x → lof (fun j => hm two ((adS s S).2 j) = v) n x := by
      intro x n v hn l
      rcases l with ⟨l1, l2⟩ | ⟨l1, l2, l3⟩
      · refine Or.inl ⟨l1, fun j j0 j1 w => ?_⟩
        have w : hm two ((adS s S).2 j) = v := w
        rw [adS_o (by omega)] at w; exact l2 j j0 j1 w
      · refine Or.inr ⟨l1, ?_, fun j j0 j1 w => ?_⟩
        · show hm two ((adS s S).2 _) = _
          rw [adS_o (by omega)]; exact l2
        · have w : hm two ((adS s S).2 j) = v := w
          rw [adS_o (by omega)] at w; exact l3 j j0 j1 w
    by_cases z : i = s.1
    · subst z
      rw [adS_n, q6]
      exact tr (Int.le_refl _) (hh _ hr.1 hr.2)
    · rw [adS_o z, e103 i z]
      exact tr (by omega) (hc i i0 (by omega))
end Ms2
