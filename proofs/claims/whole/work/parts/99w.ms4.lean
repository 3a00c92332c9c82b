/-! the model's search: ends, and a State spread -/
def flk (md : Int) (T U : zTb) : Prop := T.1 = U.1 ∧ T.2.1 = U.2.1 ∧ ∀ r c : Int, 0 ≤ r → r < T.1 → 0 ≤ c → c < T.2.1 → T.2.2 r c = U.2.2 r c ∨ (¬ md = 0 ∧ (T.2.2 r c = -1 ∨ U.2.2 r c = -1))
theorem flk_1 {T U : zTb} : flk 1 T U = tlk T U := by
  unfold flk tlk
  refine propext ⟨fun q => ⟨q.1, q.2.1, fun r c a b e f => (q.2.2 r c a b e f).imp id fun w => w.2⟩, fun q => ⟨q.1, q.2.1, fun r c a b e f => (q.2.2 r c a b e f).imp id fun w => ⟨by decide, w⟩⟩⟩
theorem flk_0 {T U : zTb} : flk 0 T U = teq T U := by
  unfold flk teq
  refine propext ⟨fun q => ⟨q.1, q.2.1, fun r c a b e f => ?_⟩, fun q => ⟨q.1, q.2.1, fun r c a b e f => Or.inl (q.2.2 r c a b e f)⟩⟩
  rcases q.2.2 r c a b e f with w | w
  · exact w
  · exact absurd rfl w.1
section Ms4
variable {D : zD} {d : Nat} {G : zG} {h h0 h1 : zH} {Q : zO → zG → zH → Prop} {two : Prop} {W V B : zTb}
theorem a_fit (hd : 2 ≤ d) {k u md : Int} {T U : zTb} (k0 : 0 ≤ k) (k1 : k < 12) (u0 : 0 ≤ u) (u1 : u < 12) (m : isM h k T) (n : isM h u U) (oT : okT T) (oU : okT U) (hmd : z_in md) : z_Ei D M_X13_fit d [(2, 88), (0, k), (0, u), (0, md)] G h (z_b (flk md T U)) h := by
  have t1 := oT.1
  have u2 := oU.1
  have e1 := m.1
  have e2 := m.2.1
  have e3 := n.1
  have e4 := n.2.1
  have no : ∀ {x y : Int}, ¬ x = y → (flk md T U → x = y) → (.inl (some (0, 0)) : zO) = .inl (some (0, z_b (flk md T U))) := by
    intro x y q w
    rw [z_b0 fun z => q (w z)]
  refine z_begin mo_X13_fit rfl (nle rfl) (b_X13_fit_0 k0 k1 u0 u1 (by rw [e1]; exact ⟨by omega, by omega⟩) (by rw [e3]; exact ⟨by omega, by omega⟩) (fun _ => by rw [e2]; exact ⟨by omega, by omega⟩) (fun _ => by rw [e4]; exact ⟨by omega, by omega⟩) (fun c => ⟨no c fun q => by rw [e1, e3]; exact q.1, rfl, rfl⟩) (fun c c2 => ?_) (fun _ c => ⟨no c fun q => by rw [e2, e4]; exact q.2.1, rfl, rfl⟩))
  have g1 : T.1 = U.1 := by omega
  have g2 : T.2.1 = U.2.1 := by omega
  have vT : ∀ r c : Int, 0 ≤ r → r < T.1 → 0 ≤ c → c < T.2.1 → h 91 (72 * k + 6 * r + c) = T.2.2 r c := fun r c a b e f => by
    rw [m.2.2 r c a (by omega) e (by omega)]; unfold nrm; rw [if_pos ⟨b, f⟩]
  have vU : ∀ r c : Int, 0 ≤ r → r < T.1 → 0 ≤ c → c < T.2.1 → h 91 (72 * u + 6 * r + c) = U.2.2 r c := fun r c a b e f => by
    rw [n.2.2 r c a (by omega) e (by omega)]; unfold nrm; rw [if_pos ⟨by omega, by omega⟩]
  have in64 : ∀ {x : Int}, -1 ≤ x ∧ x < 72057594037927936 → z_in64 x := fun q => ⟨by omega, by omega⟩
  have ff : ∀ r c : Int, 0 ≤ r → r < T.1 → 0 ≤ c → c < T.2.1 → ¬ (T.2.2 r c = U.2.2 r c ∨ (¬ md = 0 ∧ (T.2.2 r c = -1 ∨ U.2.2 r c = -1))) → (.inl (some (0, 0)) : zO) = .inl (some (0, z_b (flk md T U))) := by
    intro r c a b e f q
    rw [z_b0 fun w => q (w.2.2 r c a b e f)]
  have inner : ∀ (r : Int), 0 ≤ r → r < T.1 → (∀ r' c : Int, 0 ≤ r' → r' < r → 0 ≤ c → c < T.2.1 → T.2.2 r' c = U.2.2 r' c ∨ (¬ md = 0 ∧ (T.2.2 r' c = -1 ∨ U.2.2 r' c = -1))) → ((∀ r' c : Int, 0 ≤ r' → r' < r + 1 → 0 ≤ c → c < T.2.1 → T.2.2 r' c = U.2.2 r' c ∨ (¬ md = 0 ∧ (T.2.2 r' c = -1 ∨ U.2.2 r' c = -1))) → z_Y D M_X13_fit d 35 [(0, 2, 88), (1, 0, k), (2, 0, u), (3, 0, md), (4, 0, r + 1)] [] G h (fun out G' h' => out = .inl (some (0, z_b (flk md T U))) ∧ G' = G ∧ h' = h)) → ∀ (j : Nat) (c : Int), T.2.1 = c + j → 0 ≤ c → (∀ c' : Int, 0 ≤ c' → c' < c → T.2.2 r c' = U.2.2 r c' ∨ (¬ md = 0 ∧ (T.2.2 r c' = -1 ∨ U.2.2 r c' = -1))) → z_Y D M_X13_fit d 49 [(0, 2, 88), (1, 0, k), (2, 0, u), (3, 0, md), (4, 0, r), (5, 0, c)] [] G h (fun out G' h' => out = .inl (some (0, z_b (flk md T U))) ∧ G' = G ∧ h' = h) := by
    intro r r0 r1 old K j
    induction j with
    | zero =>
      intro c e c0 w
      refine b_X13_fit_49 hd k0 k1 ⟨by omega, by omega⟩ (by rw [e2]; exact ⟨by omega, by omega⟩) (fun c => by omega) (fun c => by omega) (fun c => by omega) (fun c => by omega) (fun c => by omega) (fun c => by omega) (fun c => by omega) (fun _ => K fun r' c' a b e f => ?_) (fun c => by omega) (fun c => by omega) (fun c => by omega) (fun c => by omega) (fun c => by omega)
      by_cases z : r' = r
      · rw [z]; exact w c' e (by omega)
      · exact old r' c' a (by omega) e f
    | succ j ih =>
      intro c e c0 w
      have c1 : c < T.2.1 := by omega
      have a1 := vT r c r0 r1 c0 c1
      have a2 := vU r c r0 r1 c0 c1
      have go : (T.2.2 r c = U.2.2 r c ∨ (¬ md = 0 ∧ (T.2.2 r c = -1 ∨ U.2.2 r c = -1))) → z_Y D M_X13_fit d 49 [(0, 2, 88), (1, 0, k), (2, 0, u), (3, 0, md), (4, 0, r), (5, 0, c + 1)] [] G h (fun out G' h' => out = .inl (some (0, z_b (flk md T U))) ∧ G' = G ∧ h' = h) := fun q => ih (c + 1) (by omega) (by omega) fun c' x y => by
        by_cases z : c' = c
        · rw [z]; exact q
        · exact w c' x (by omega)
      refine b_X13_fit_49 hd k0 k1 ⟨by omega, by omega⟩ (by rw [e2]; exact ⟨by omega, by omega⟩) (fun _ => by omega) (fun _ => by omega) (fun _ => by omega) (fun _ => by omega) (fun _ => by rw [a1]; exact in64 (oT.2 r c r0 r1 c0 c1)) (fun _ => by rw [a2]; exact in64 (oU.2 r c r0 (by omega) c0 (by omega))) (fun _ _ => hmd) (fun c => by omega) (fun _ q => go (Or.inl (by rw [a1, a2] at q; exact q))) (fun _ q y => ⟨ff r c r0 r1 c0 c1 (fun z => ?_), rfl, rfl⟩) (fun _ q y z => go (Or.inr ⟨y, Or.inl (by rw [a1] at z; exact z)⟩)) (fun _ q y z x => go (Or.inr ⟨y, Or.inr (by rw [a2] at x; exact x)⟩)) (fun _ q y z x => ⟨ff r c r0 r1 c0 c1 (fun p => ?_), rfl, rfl⟩)
      · rw [a1, a2] at q
        rcases z with z | z
        · exact q z
        · exact z.1 y
      · rw [a1, a2] at q
        rw [a1] at z
        rw [a2] at x
        rcases p with p | p
        · exact q p
        · rcases p.2 with p | p
          · exact z p
          · exact x p
  have outer : ∀ (j : Nat) (r : Int), T.1 = r + j → 0 ≤ r → (∀ r' c : Int, 0 ≤ r' → r' < r → 0 ≤ c → c < T.2.1 → T.2.2 r' c = U.2.2 r' c ∨ (¬ md = 0 ∧ (T.2.2 r' c = -1 ∨ U.2.2 r' c = -1))) → z_Y D M_X13_fit d 35 [(0, 2, 88), (1, 0, k), (2, 0, u), (3, 0, md), (4, 0, r)] [] G h (fun out G' h' => out = .inl (some (0, z_b (flk md T U))) ∧ G' = G ∧ h' = h) := by
    intro j
    induction j with
    | zero =>
      intro r e r0 w
      refine b_X13_fit_35 k0 k1 ⟨by omega, by omega⟩ (by rw [e1]; exact ⟨by omega, by omega⟩) (fun _ => ⟨?_, rfl, rfl⟩) (fun c => by omega)
      rw [z_b1 ⟨g1, g2, fun r' c a b e f => w r' c a (by omega) e f⟩]
    | succ j ih =>
      intro r e r0 w
      exact b_X13_fit_35 k0 k1 ⟨by omega, by omega⟩ (by rw [e1]; exact ⟨by omega, by omega⟩) (fun c => by omega) (fun _ => inner r r0 (by omega) w (fun q => ih (r + 1) (by omega) (by omega) q) T.2.1.toNat 0 (by omega) (by omega) (fun c' x y => by omega))
  exact outer T.1.toNat 0 (by omega) (by omega) (fun r' c a b => by omega)
/-- the model's heap while it searches -/
def msI (two : Prop) (W V B : zTb) (wi vi : Int) (h : zH) (s : bS) : Prop := mST two h s ∧ h 88 32 = z_b two ∧ ((0 ≤ wi ∧ wi < 8) ∧ h 88 33 = wi ∧ isM h wi W) ∧ (two → (0 ≤ vi ∧ vi < 8) ∧ h 88 34 = vi ∧ isM h vi V) ∧ h 88 30 = zct (fun i => eW W V (s.2 i)) s.1.toNat ∧ (∀ i : Int, 0 ≤ i → i < s.1 → h 107 i = z_b (eW W V (s.2 i))) ∧ (¬ two → V = B ∧ ∀ i : Int, 0 ≤ i → i < s.1 → (s.2 i).2 = B)
def mX (a j : Int) : Prop := mW a j ∨ mK a j ∨ a = 107 ∨ (a = 88 ∧ j = 30)
theorem mST_k {s : bS} (ms : mST two h s) (f : ∀ b j : Int, (101 ≤ b ∧ b ≤ 104) ∨ (b = 88 ∧ j = 29) → h1 b j = h b j) : mST two h1 s := by
  obtain ⟨⟨e29, s0, s15⟩, he, ds, hh, hc⟩ := ms
  refine ⟨⟨by rw [f 88 29 (by omega)]; exact e29, s0, s15⟩, fun i i0 i1 => ?_, ds, fun v v0 v1 => by rw [f 104 v (by omega)]; exact hh v v0 v1, fun i i0 i1 => by rw [f 103 i (by omega)]; exact hc i i0 i1⟩
  obtain ⟨⟨y1, y2, y3⟩, y4⟩ := he i i0 i1
  exact ⟨⟨by rw [f 102 i (by omega)]; exact y1, fun k k0 k1 => by rw [f 101 _ (by omega)]; exact y2 k k0 k1, fun t k k0 k1 => by rw [f 101 _ (by omega)]; exact y3 t k k0 k1⟩, y4⟩
theorem msI_W {s : bS} {wi vi : Int} (m : msI two W V B wi vi h s) (f : frB mW h h1) : msI two W V B wi vi h1 s := by
  obtain ⟨a1, a2, ⟨a3, a4, a5⟩, a6, a7, a8, a9⟩ := m
  refine ⟨mST_k a1 (fun b j p => f b j (by unfold mW; omega)), by rw [f 88 32 (by unfold mW; omega)]; exact a2, ⟨a3, by rw [f 88 33 (by unfold mW; omega)]; exact a4, isM_B a5 f (by unfold mW; omega) (by unfold mW; omega) (fun j _ _ => by unfold mW; omega)⟩, fun t => ?_, by rw [f 88 30 (by unfold mW; omega)]; exact a7, fun i i0 i1 => by rw [f 107 i (by unfold mW; omega)]; exact a8 i i0 i1, a9⟩
  obtain ⟨b1, b2, b3⟩ := a6 t
  exact ⟨b1, by rw [f 88 34 (by unfold mW; omega)]; exact b2, isM_B b3 f (by unfold mW; omega) (by unfold mW; omega) (fun j _ _ => by unfold mW; omega)⟩
/-- noteEnd -/
theorem m_noteEnd (hd : 3 ≤ d) {s wi vi : Int} {S : zSt} (s0 : 0 ≤ s) (s1 : s < 1500) (m : mPr two h S) (oS : okP S) (w : (0 ≤ wi ∧ wi < 8) ∧ h 88 33 = wi ∧ isM h wi W) (v : two → (0 ≤ vi ∧ vi < 8) ∧ h 88 34 = vi ∧ isM h vi V) (oW : okT W) (oV : okT V) (bb : ¬ two → tlk S.2 V) : z_CY D M_X13_noteEnd d [(2, 88), (0, s)] G h (fun out G' h' => out = .inl none ∧ G' = G ∧ h' = z_wr (z_wr h 107 s (z_b (eW W V S))) 88 30 (h 88 30 + z_b (eW W V S))) := by
  obtain ⟨m1, m2, m3⟩ := m
  obtain ⟨t1, t2⟩ := tw_z m3
  obtain ⟨w1, w2, w3⟩ := w
  have at45 : ∀ x : Int, x = z_b (eW W V S) → z_Y D M_X13_noteEnd d 45 [(0, 2, 88), (1, 0, s)] [(0, x), (0, s), (2, 107)] G h (fun out G' h' => out = .inl none ∧ G' = G ∧ h' = z_wr (z_wr h 107 s (z_b (eW W V S))) 88 30 (h 88 30 + z_b (eW W V S))) := by
    intro x ex
    have zb := z_b01 (eW W V S)
    rw [← ex] at zb ⊢
    refine b_X13_noteEnd_45 s0 s1 zb s0 s1 (by rw [w_s]; exact ⟨by omega, by omega⟩) (fun c => ⟨rfl, rfl, ?_⟩) (fun c => ⟨rfl, rfl, ?_⟩)
    · rw [w_s] at c
      have : x = 0 := by omega
      rw [this]
    · rw [w_s] at c
      have : x = 1 := by omega
      rw [this]
  refine z_begin mo_X13_noteEnd rfl (nle rfl) (b_X13_noteEnd_0 (by
    rw [w2]
    refine z_Ki.of (d2 := d - 1) (by omega) (a_fit (by omega) (by omega) (by omega) (by omega) (by omega) m1 w3 oS.1 oW ⟨by omega, by omega⟩) ?_
    rintro out G' h' hl' ⟨r1, rfl, rfl⟩
    rw [flk_1] at r1
    have zb := z_b01 (tlk S.1 W)
    refine ⟨_, r1, b_X13_noteEnd_16 ⟨by omega, by omega⟩ (fun _ => t2) (fun c => b_X13_noteEnd_44 (at45 0 ?_)) (fun c c2 => b_X13_noteEnd_40 (at45 1 ?_)) (fun c c2 => ?_)⟩
    · rw [z_b0]; intro q; rw [z_b1 q.1] at c; cases c
    · have q : tlk S.1 W := Classical.byContradiction fun q => c (z_b0 q)
      rw [z_b1 ⟨q, bb (t1.1 c2)⟩]
    · have q : tlk S.1 W := Classical.byContradiction fun q => c (z_b0 q)
      have tw : two := Classical.byContradiction fun q => c2 (t1.2 q)
      obtain ⟨v1, v2, v3⟩ := v tw
      rw [v2]
      refine z_Ki.of (d2 := d - 1) (by omega) (a_fit (by omega) (by omega) (by omega) (by omega) (by omega) (m2 tw) v3 oS.2 oV ⟨by omega, by omega⟩) ?_
      rintro out G' h'' hl' ⟨r2, rfl, rfl⟩
      rw [flk_1] at r2
      have zb := z_b01 (tlk S.2 V)
      refine ⟨_, r2, b_X13_noteEnd_37 ⟨by omega, by omega⟩ (fun c => b_X13_noteEnd_44 (at45 0 ?_)) (fun c => b_X13_noteEnd_40 (at45 1 ?_))⟩
      · rw [z_b0]; intro q; rw [z_b1 q.2] at c; cases c
      · rw [z_b1 ⟨q, Classical.byContradiction fun q => c (z_b0 q)⟩]))
end Ms4
