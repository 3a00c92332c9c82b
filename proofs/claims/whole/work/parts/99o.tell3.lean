/-! tellWays, whole -/
section Tell3
variable {D : zD} {d : Nat} {G : zG} {h h1 h2 h0 g : zH} {two : Prop} {W V B : zTb} {Q : zO → zG → zH → Prop}
theorem skI_16 {lvl : Int → Int} {l : Int} {s : bS} {w : Int → Nat} (k : skI two W V B lvl l s w G h) (f : ∀ b j : Int, ¬ (b = 33 ∧ j = 16) → h1 b j = h b j) : skI two W V B lvl l s w G h1 := by
  obtain ⟨⟨⟨n, ss⟩, rm, eg, ⟨kw, kv⟩, e8, e15, est, w0, nt, c12⟩, k2, k3, k4, k5, k6⟩ := k
  have e48 : ∀ j : Int, h1 48 j = h 48 j := fun j => f 48 j (by omega)
  have e11 := f 33 11 (by omega)
  have e12 := f 33 12 (by omega)
  have p1 := ss.1.1
  have sr := ss.2.1
  have ea : ∀ i : Int, 0 ≤ i → i < n → (∀ j : Int, h1 (h 48 i) j = h (h 48 i) j) ∧ ∀ j : Int, h1 (h (h 48 i) 0) j = h (h (h 48 i) 0) j := fun i i0 i1 => by
    have y := ss.1.2.1 i i0 i1
    exact ⟨fun j => f _ j (by omega), fun j => f _ j (by omega)⟩
  refine ⟨⟨⟨n, SS_k ss ext.rf e48 (fun j => f 49 j (by omega)) (f 33 14 (by omega)) fun i i0 i1 => ⟨fun j _ => (ea i i0 i1).1 j, (ea i i0 i1).2⟩⟩, rm_k rm ss.1 e48 (fun i i0 i1 => (ea i i0 i1).1 0) e11, by unfold edg; rw [e11]; exact eg, ⟨isC_keep kw (fun j => f 42 j (by omega)) (fun j => f 43 j (by omega)), isC_keep kv (fun j => f 44 j (by omega)) (fun j => f 45 j (by omega))⟩, by rw [f 33 8 (by omega)]; exact e8, by rw [f 33 15 (by omega)]; exact e15, fun i i0 i1 => ?_, w0, fun n2 => ⟨isC_keep (nt n2).1 (fun j => f 40 j (by omega)) (fun j => f 41 j (by omega)), (nt n2).2⟩, by rw [e11, e12]; exact c12⟩, k2, k3, fun l' a b j c e i => ?_, k5, by rw [e12]; exact k6⟩
  · have y := (ea i i0 (by omega)).1
    rw [e48, y, y]; exact est i i0 i1
  · have := k4 l' a b j c e i
    have m0 := k2.1.mo (Int.le_refl 0) a (by omega)
    rw [k2.1.2.1] at m0
    have m1 := k2.1.mo (a := l' + 1) (b := l + 1) (by omega) (by omega) (by omega)
    have y := (ea j (by omega) (by omega)).1
    unfold edE at this ⊢
    rw [e48, y, y, e11, e12]
    refine ⟨⟨this.1.1, this.1.2.1, this.1.2.2.1, fun i ct hi => ?_⟩, this.2⟩
    rw [f _ _ (by have := eg.2.1; omega)]; exact this.1.2.2.2 i ct hi
/-- what tellWays leaves -/
def twQ (two : Prop) (W V : zTb) (lvl : Int → Int) (l : Int) (s : bS) (G : zG) (h : zH) : zO → zG → zH → Prop := fun out G' h' => out = .inl none ∧ G' = G ∧ (∀ b j : Int, b < 114 → ¬ (b = 33 ∧ j = 16) → ¬ (51 ≤ b ∧ b ≤ 55) → h' b j = h b j) ∧ (∀ b j : Int, 114 ≤ b → ¬ j = 9 → h' b j = h b j) ∧ tdI h' ∧ h' 33 16 = cap (pth (eD two s lvl l) (eE (eW W V) s) l.toNat 0).length ∧ h' 51 1 = l ∧ h' 51 0 = (((pth (eD two s lvl l) (eE (eW W V) s) l.toNat 0).take 60).length : Int) ∧ ∀ (k : Nat) (p : List Int), ((pth (eD two s lvl l) (eE (eW W V) s) l.toNat 0).take 60)[k]? = some p → h' (h' 51 2) k = enc 0 p
def tlI (two : Prop) (W V : zTb) (lvl : Int → Int) (l : Int) (s : bS) (g : zH) (k : Nat) (X : List (Int × Int)) (g2 : zH) : Prop := (∀ b j : Int, ¬ (51 ≤ b ∧ b ≤ 55) → g2 b j = g b j) ∧ tdI g2 ∧ (g2 51 0 = (X.length : Int) ∧ g2 51 1 = k) ∧ X.length ≤ 60 ∧ tdR g2 (g2 51 2) (g2 51 3) X ∧ (∀ ps ∈ X, (lvl k ≤ ps.2 ∧ ps.2 < lvl (k + 1)) ∧ 0 ≤ ps.1 ∧ ps.1 < 1024 ^ k) ∧ tld (eD two s lvl l) (fF (eD two s lvl l) (eE (eW W V) s)) (l.toNat - k) X = tld (eD two s lvl l) (fF (eD two s lvl l) (eE (eW W V) s)) l.toNat [(0, 0)] ∧ (1 ≤ k → ∀ ps ∈ X, ¬ pth (eD two s lvl l) (eE (eW W V) s) (l.toNat - k) ps.2 = [])
theorem grw_c {ed ed' : Int → List (Int × Int)} {F F' : Int → Bool} {X : List (Int × Int)} (k : ∀ ps ∈ X, ed ps.2 = ed' ps.2 ∧ ∀ ct ∈ ed ps.2, F ct.2 = F' ct.2) : grw ed F X = grw ed' F' X := by
  unfold grw
  induction X with
  | nil => rfl
  | cons ps X ih =>
    rw [List.flatMap_cons, List.flatMap_cons, ih fun q hq => k q (List.mem_cons_of_mem _ hq)]
    obtain ⟨e, f⟩ := k ps List.mem_cons_self
    rw [← e, List.filter_congr (q := fun ct => F' ct.2) f]
theorem l_tell93 (hd : 2 ≤ d) {lvl : Int → Int} {l : Int} {s : bS} {w : Int → Nat} (sk : skI two W V B lvl l s w G h0) (l3 : l ≤ 3) (hld : ldI (G := G) W V (eD two s lvl l) lvl l s (-1) h0 g)
    (K : ∀ (X : List (Int × Int)) (g2 : zH), tlI two W V lvl l s g l.toNat X g2 → Q (.inl none) G g2) :
    ∀ (m k : Nat) (X : List (Int × Int)) (g2 : zH), l.toNat = k + m → tlI two W V lvl l s g k X g2 → z_Y D M_X1_tellWays d 93 [(0, 2, 33), (1, 0, l), (3, 0, (k : Int))] [] G g2 Q := by
  obtain ⟨⟨⟨n, ss⟩, rm, eg, -, -, -, est, -, -, c12⟩, ⟨o, lN⟩, -, eb, tg, -⟩ := sk
  obtain ⟨f, f9, fr, ld⟩ := hld
  have po := ss.1
  have sr := ss.2.1
  have p1 := po.1
  have o1 := o.1
  intro m
  induction m with
  | zero =>
    intro k X g2 e x
    have ek : k = l.toNat := by omega
    subst ek
    exact b_X1_tellWays_93 ⟨by omega, by omega⟩ ⟨by omega, by omega⟩ (fun _ => K X g2 x) (fun c => by omega)
  | succ m ih =>
    intro k X g2 e x
    obtain ⟨x1, x2, ⟨x3, x3'⟩, x4, x5, x6, x7, x8⟩ := id x
    have kl : (k : Int) < l := by omega
    have fz : ∀ b j : Int, ¬ (51 ≤ b ∧ b ≤ 55) → ¬ (114 ≤ b ∧ j = 9) → g2 b j = h0 b j := fun b j p q => (x1 b j p).trans (f b j q)
    have g48 : ∀ j : Int, g2 48 j = h0 48 j := fun j => fz 48 j (by omega) (by omega)
    have g11 : g2 33 11 = h0 33 11 := fz 33 11 (by omega) (by omega)
    have g12 : g2 33 12 = h0 33 12 := fz 33 12 (by omega) (by omega)
    have po' : pool G g2 n := by
      refine ⟨po.1, fun j j0 j1 => ?_, fun j k j0 jk k1 => ?_, fun j j0 j1 => by rw [g48]; exact po.2.2.2 j j0 j1⟩
      · have y := (po.2.1 j j0 j1)
        unfold stS; rw [g48, fz _ 0 (by omega) (by omega)]; exact y
      · have y := (po.2.1 j j0 (by omega)).2
        have y' := (po.2.1 k (by omega) k1).2
        rw [g48, g48, fz _ 0 (by omega) (by omega), fz _ 0 (by omega) (by omega)]; exact po.2.2.1 j k j0 jk k1
    have eg' : edg G g2 := by unfold edg; rw [g11]; exact eg
    have e9 : ∀ t : Int, 0 ≤ t → t < s.1 → g2 (g2 48 t) 9 = g (h0 48 t) 9 := fun t t0 t1 => by
      have y := (po.2.1 t t0 (by omega)).2.1
      rw [g48]; exact x1 _ 9 (by omega)
    have lk0 := o.mo (Int.le_refl 0) (show (0 : Int) ≤ k by omega) (by omega)
    rw [o.2.1] at lk0
    have lk1 := o.mo (a := k) (b := k + 1) (by omega) (by omega) (by omega)
    have lk2 := o.mo (a := (k : Int) + 1) (b := l) (by omega) (by omega) (by omega)
    have lk3 := o.mo (a := (k : Int) + 1 + 1) (b := l + 1) (by omega) (by omega) (by omega)
    have lm := o.2.2 l o.1 (Int.le_refl _)
    have pw : (1024 : Int) ^ k ≤ 1048576 := by
      have : k = 0 ∨ k = 1 ∨ k = 2 := by omega
      rcases this with rfl | rfl | rfl <;> decide
    have edx : ∀ ps ∈ X, edO G g2 s.1 (fun t => edP two (s.2 t) (lvl ((k : Int) + 1)) s 504) ps.2 ∧ 0 ≤ ps.1 ∧ ps.1 < 1048576 := by
      intro ps hp
      obtain ⟨y1, y2⟩ := x6 ps hp
      obtain ⟨ee, -⟩ := eb k (by omega) (by omega) ps.2 y1.1 y1.2 (by omega)
      have y := (po.2.1 ps.2 (by omega) (by omega)).2.1
      refine ⟨⟨⟨by omega, by omega⟩, ?_, fun ct hc => ?_⟩, by omega, by omega⟩
      · unfold edE
        rw [g48, fz _ 7 (by omega) (by omega), fz _ 8 (by omega) (by omega), g11, g12]
        refine ⟨ee.1, ee.2.1, ee.2.2.1, fun j ct hj => ?_⟩
        have er : g2 (h0 33 11) (h0 (h0 48 ps.2) 7 + j) = h0 (h0 33 11) (h0 (h0 48 ps.2) 7 + j) := by
          rw [x1 _ _ (by have := eg.2.1; omega)]; exact fr _ _ (Or.inl eg.1)
        rw [er]; exact ee.2.2.2 j ct hj
      · have q1 := edP_tg (by omega) 504 ct hc
        have q2 := edP_cd 504 ct (Nat.le_refl _) hc
        omega
    refine b_X1_tellWays_93 ⟨by omega, by omega⟩ ⟨by omega, by omega⟩ (fun c => by omega) (fun _ => ?_)
    refine z_Kv.of (d2 := d - 1) (by omega) (c_grow (by omega) sr.2 po' eg' (by rw [g11, g12]; exact c12.2) x2 (fun t t0 t1 => by rw [e9 t t0 t1]; exact f9 t t0 t1) x4 x3 x5 edx) ?_
    rintro out G' h' hl' ⟨r1, rfl, q1, q2, q3, q4, q5⟩
    refine ⟨r1, b_X1_tellWays_113 ?_⟩
    rw [show (k : Int) + 1 = ((k + 1 : Nat) : Int) by omega]
    have er : l.toNat - k = (l.toNat - (k + 1)) + 1 := by omega
    have ei : (l - k - 1).toNat = l.toNat - (k + 1) := by omega
    have gc : grw (fun t => edP two (s.2 t) (lvl ((k : Int) + 1)) s 504) (f9F g2) X = grw (eD two s lvl l (l.toNat - (k + 1))) (fF (eD two s lvl l) (eE (eW W V) s) (l.toNat - (k + 1))) X := by
      refine grw_c fun ps hp => ⟨?_, fun ct hc => ?_⟩
      · rw [← ei, eD_at (by omega) kl]
      · obtain ⟨y1, y2⟩ := x6 ps hp
        have t1 := edP_tg (by omega) 504 ct hc
        have t2 := tg k (by omega) kl ps.2 y1.1 y1.2 ct hc
        have q := ld ((k : Int) + 1) (by omega) (by omega) ct.2 t1.1 (by rw [show (k : Int) + 1 + 1 = k + 2 by omega]; exact t2) (by omega)
        rw [show (l - ((k : Int) + 1)).toNat = l.toNat - (k + 1) by omega] at q
        unfold f9F fF
        rw [e9 ct.2 (by omega) t1.2, q]
        by_cases z : pth (eD two s lvl l) (eE (eW W V) s) (l.toNat - (k + 1)) ct.2 = []
        · rw [z_b0 (fun w => w z)]
          have : zB (¬ pth (eD two s lvl l) (eE (eW W V) s) (l.toNat - (k + 1)) ct.2 = []) = false := by
            cases hz : zB (¬ pth (eD two s lvl l) (eE (eW W V) s) (l.toNat - (k + 1)) ct.2 = []) with
            | false => rfl
            | true => exact absurd z (zB1.1 hz)
          rw [this]; decide
        · rw [z_b1 z, zB1.2 z]; decide
    rw [gc] at q3 q5
    refine ih (k + 1) _ h' (by omega) ⟨fun b j p => (q1 b j p).trans (x1 b j p), q2, ⟨q3, by rw [q4, x3']; omega⟩, by rw [List.length_take]; omega, q5, fun ps hp => ?_, ?_, fun _ ps hp => ?_⟩
    · have hp := List.mem_of_mem_take hp
      unfold grw at hp
      obtain ⟨qs, hq, hp⟩ := List.mem_flatMap.mp hp
      obtain ⟨ct, hc, rfl⟩ := List.mem_map.mp hp
      have hc := (List.mem_filter.mp hc).1
      rw [← ei, eD_at (by omega) kl] at hc
      obtain ⟨y1, y2⟩ := x6 qs hq
      have t1 := edP_tg (by omega) 504 ct hc
      have t2 := tg k (by omega) kl qs.2 y1.1 y1.2 ct hc
      have t3 := edP_cd 504 ct (Nat.le_refl _) hc
      refine ⟨⟨by rw [show ((k + 1 : Nat) : Int) = (k : Int) + 1 by omega]; exact t1.1, by rw [show ((k + 1 : Nat) : Int) + 1 = (k : Int) + 2 by omega]; exact t2⟩, ?_, ?_⟩
      · show 0 ≤ qs.1 * 1024 + ct.1; omega
      · show qs.1 * 1024 + ct.1 < 1024 ^ (k + 1)
        rw [Int.pow_succ]; omega
    · rw [← x7, er, tld]
    · have hp := List.mem_of_mem_take hp
      unfold grw at hp
      obtain ⟨qs, hq, hp⟩ := List.mem_flatMap.mp hp
      obtain ⟨ct, hc, rfl⟩ := List.mem_map.mp hp
      exact zB1.1 (List.mem_filter.mp hc).2
theorem c_tell (hd : 3 ≤ d) {lvl : Int → Int} {l : Int} {s : bS} {w : Int → Nat} (sk : skI two W V B lvl l s w G h) (l3 : l ≤ 3) (L1 : 0 < lvl 1) (E0 : l = 0 → eW W V (s.2 0)) (td : tdI h) (h16 : h 33 16 = 0) : z_CY D M_X1_tellWays d [(2, 33), (0, l), (0, lvl l)] G h (twQ two W V lvl l s G h) := by
  intro hl
  obtain ⟨si, ⟨o, lN⟩, lI, eb, tg, -⟩ := id sk
  obtain ⟨⟨n, ss⟩, rm, eg, -, -, -, est, -, -, c12⟩ := id si
  have po := ss.1
  have sr := ss.2.1
  have p1 := po.1
  have o1 := o.1
  have lm := o.2.2 l o.1 (Int.le_refl _)
  have e0 : ((l.toNat : Nat) : Int) = l := by omega
  refine z_begin mo_X1_tellWays rfl (nle rfl) (b_X1_tellWays_0 ?_) hl
  refine l_tell2 (Ed := eD two s lvl l) (by omega) sk (fun g1 f1 v1 => ?_) (s.1 - lvl l).toNat (lvl l) h (by omega) (Int.le_refl _) (fun _ _ _ => rfl) (by rw [h16, Int.sub_self]; exact ((cap_z _).2 rfl).symm)
  have cnt := lI 0 (eD two s lvl l) (eE (eW W V) s) (fun l' a b i c e => by rw [Nat.zero_add]; exact eD_at a b)
  rw [Nat.zero_add] at cnt
  rw [cnt] at v1
  have sk1 := skI_16 sk f1
  have g48 : ∀ k : Int, g1 48 k = h 48 k := fun k => f1 48 k (by omega)
  have g11 : g1 33 11 = h 33 11 := f1 33 11 (by omega)
  have g12 : g1 33 12 = h 33 12 := f1 33 12 (by omega)
  refine l_tell55 (by omega) sk1 (by rw [g11, g12]; exact c12.2) (fun g ldg => ?_) (lvl l).toNat (lvl l - 1) g1 ?_ (by omega) ?_
  · obtain ⟨f, f9, fr, ld⟩ := id ldg
    refine b_X1_tellWays_55 ⟨by omega, by omega⟩ (fun c => absurd (by decide) c) (fun c => absurd (by decide) c) (fun _ => ?_) (fun c => absurd (by decide) c)
    have fg : ∀ k : Int, g 51 k = h 51 k := fun k => (f 51 k (by omega)).trans (f1 51 k (by omega))
    have i2 : z_is G (g 51 2) 50 ∧ G.2.2.2 (g 51 2) = 60 := by
      rw [fg]
      rcases (by unfold tdI at td; omega : h 51 2 = 52 ∨ h 51 2 = 54) with q | q <;> rw [q]
      · exact ⟨hl.i 52 (by decide) rfl, hl.n 52 (by decide) rfl⟩
      · exact ⟨hl.i 54 (by decide) rfl, hl.n 54 (by decide) rfl⟩
    have i3 : z_is G (g 51 3) 50 ∧ G.2.2.2 (g 51 3) = 60 := by
      rw [fg]
      rcases (by unfold tdI at td; omega : h 51 3 = 53 ∨ h 51 3 = 55) with q | q <;> rw [q]
      · exact ⟨hl.i 53 (by decide) rfl, hl.n 53 (by decide) rfl⟩
      · exact ⟨hl.i 55 (by decide) rfl, hl.n 55 (by decide) rfl⟩
    refine z_Kv.of (d2 := d - 1) (by omega) (z_begin mo_X7_start rfl (nle rfl) (b_X7_start_0 (Q := fun o G' h' => o = .inl none ∧ G' = G ∧ h' = _) i2.1 (by omega) i3.1 (by omega) ⟨rfl, rfl, rfl⟩)) ?_
    rintro out G' h' hl' ⟨rfl, rfl, eh⟩
    refine ⟨rfl, b_X1_tellWays_91 ?_⟩
    have r2 : g 51 2 = 52 ∨ g 51 2 = 54 := by rw [fg]; unfold tdI at td; omega
    have r3 : g 51 3 = 53 ∨ g 51 3 = 55 := by rw [fg]; unfold tdI at td; omega
    have w51 : ∀ k : Int, ¬ k = 0 → ¬ k = 1 → h' 51 k = g 51 k := fun k a b => by rw [eh, w_na (by omega), w_na (by omega), w_nj b, w_nj a]
    have v0 : h' 51 0 = 1 := by rw [eh, w_na (by omega), w_na (by omega), w_nj (by omega), w_s]
    have vv1 : h' 51 1 = 0 := by rw [eh, w_na (by omega), w_na (by omega), w_s]
    have a2 : h' (g 51 2) 0 = 0 := by rw [eh, w_na (by omega), w_s]
    have a3 : h' (g 51 3) 0 = 0 := by rw [eh, w_s]
    refine l_tell93 (g := g) (by omega) sk1 l3 ldg (fun X g2 x => ?_) l.toNat 0 [(0, 0)] h' (by omega) ?_
    · obtain ⟨x1, x2, ⟨x3, x3'⟩, x4, x5, x6, x7, x8⟩ := x
      have fin : X = tld (eD two s lvl l) (fF (eD two s lvl l) (eE (eW W V) s)) l.toNat [(0, 0)] := by
        rw [← x7, Nat.sub_self]; rfl
      have tk := tld_ok (Ed := eD two s lvl l) (E := eE (eW W V) s) (F := fF (eD two s lvl l) (eE (eW W V) s)) l.toNat [(0, 0)] (fun r' _ t => zB1)
      rw [← fin] at tk
      have EX : ∀ ps ∈ X, eE (eW W V) s ps.2 = true := by
        intro ps hp
        by_cases z : l.toNat = 0
        · rw [z] at fin
          have fin : X = [(0, 0)] := fin
          rw [fin] at hp
          rw [List.mem_singleton.mp hp]
          exact zB1.2 (E0 (by omega))
        · have q := x8 (by omega) ps hp
          rw [Nat.sub_self] at q
          refine Classical.byContradiction fun y => q ?_
          show (if eE (eW W V) s ps.2 = true then [[]] else []) = _
          rw [if_neg y]
      rw [enX_0 EX] at tk
      have e1 : enX (eD two s lvl l) (eE (eW W V) s) l.toNat [(0, 0)] = (pth (eD two s lvl l) (eE (eW W V) s) l.toNat 0).map (enc 0) := by
        unfold enX; rw [List.flatMap_cons, List.flatMap_nil, List.append_nil]
      rw [e1, List.take_of_length_le (by rw [List.length_map]; exact x4), ← List.map_take] at tk
      have len : X.length = ((pth (eD two s lvl l) (eE (eW W V) s) l.toNat 0).take 60).length := by
        have := congrArg List.length tk
        rw [List.length_map, List.length_map] at this
        exact this
      refine ⟨rfl, rfl, fun b j p q r => ?_, fun b j p q => ?_, x2, ?_, by rw [x3']; exact e0, by rw [x3, len], fun k p hk => ?_⟩
      · rw [x1 b j r, f b j (by omega)]; exact f1 b j q
      · rw [x1 b j (by omega), f b j (by omega)]; exact f1 b j (by omega)
      · rw [x1 33 16 (by omega), f 33 16 (by omega)]; exact v1
      · have q : (X.map fun ps => ps.1)[k]? = some (enc 0 p) := by
          rw [tk, List.getElem?_map, hk]; rfl
        rw [List.getElem?_map] at q
        cases hX : X[k]? with
        | none => rw [hX] at q; cases q
        | some ps =>
          rw [hX] at q
          have q : some ps.1 = some (enc 0 p) := q
          have := (x5 k ps hX).1
          rw [this]
          exact Option.some.inj q
    · refine ⟨fun b j p => by rw [eh, w_na (by omega), w_na (by omega), w_na (by omega), w_na (by omega)], ?_, ⟨v0, vv1⟩, by decide, fun k ps hk => ?_, fun ps hp => ?_, rfl, fun q => by omega⟩
      · unfold tdI at td ⊢
        rw [w51 2 (by omega) (by omega), w51 3 (by omega) (by omega), w51 4 (by omega) (by omega), w51 5 (by omega) (by omega), fg, fg, fg, fg]; exact td
      · rw [w51 2 (by omega) (by omega), w51 3 (by omega) (by omega)]
        have k0 : k < 1 := (List.getElem?_eq_some_iff.mp hk).1
        have k0 : k = 0 := by omega
        subst k0
        cases hk
        exact ⟨a2, a3⟩
      · rw [List.mem_singleton.mp hp]
        exact ⟨⟨by show lvl 0 ≤ 0; rw [o.2.1]; exact Int.le_refl _, L1⟩, Int.le_refl _, by decide⟩
  · have m0 := o.mo (Int.le_refl 0) o.1 (by omega)
    rw [o.2.1] at m0
    omega
  · refine ⟨fun _ _ _ => rfl, fun t t0 t1 => ?_, fun _ _ _ => rfl, fun l' a b t t0 t1 ti => ?_⟩
    · have y := (po.2.1 t t0 (by omega)).2.1
      rw [g48, f1 _ 9 (by omega), (est t t0 t1).2]
      exact z_b01 _
    · have el : l' = l := by
        refine Classical.byContradiction fun y => ?_
        have := o.mo (a := l' + 1) (b := l) (by omega) (by omega) (by omega)
        omega
      subst el
      have m0 := o.mo (Int.le_refl 0) o.1 (by omega)
      rw [o.2.1] at m0
      have y := (po.2.1 t (by omega) (by omega)).2.1
      rw [g48, f1 _ 9 (by omega), (est t (by omega) (by omega)).2, Int.sub_self]
      congr 1
      show _ = ¬ (if eE (eW W V) s t = true then [[]] else []) = []
      refine propext ⟨fun z => ?_, fun z => ?_⟩
      · rw [if_pos (show eE (eW W V) s t = true from zB1.2 z)]; intro q; cases q
      · refine Classical.byContradiction fun q => z ?_
        rw [if_neg (show ¬ eE (eW W V) s t = true from fun w => q (zB1.1 w))]
end Tell3
