/-! the model's search: States kept, found by a sum -/
def gd (T : zTb) (k : Int) : Int := nrm T (k / 6) (k % 6)
theorem isM_gd {h : zH} {t : Int} {T : zTb} (m : isM h t T) {k : Int} (k0 : 0 ≤ k) (k1 : k < 72) : h 91 (72 * t + k) = gd T k := by
  have := m.2.2 (k / 6) (k % 6) (by omega) (by omega) (by omega) (by omega)
  rw [show 72 * t + 6 * (k / 6) + k % 6 = 72 * t + k by omega] at this
  exact this
theorem isM_of {h : zH} {t : Int} {T : zTb} (e1 : h 89 t = T.1) (e2 : h 90 t = T.2.1) (k : ∀ k : Int, 0 ≤ k → k < 72 → h 91 (72 * t + k) = gd T k) : isM h t T := by
  refine ⟨e1, e2, fun r c r0 r1 c0 c1 => ?_⟩
  have := k (6 * r + c) (by omega) (by omega)
  rw [show 72 * t + (6 * r + c) = 72 * t + 6 * r + c by omega] at this
  rw [this]
  unfold gd
  rw [show (6 * r + c) / 6 = r by omega, show (6 * r + c) % 6 = c by omega]
theorem teq_gd {T U : zTb} (oT : okT T) (oU : okT U) : teq T U ↔ T.1 = U.1 ∧ T.2.1 = U.2.1 ∧ ∀ k : Int, 0 ≤ k → k < 72 → gd T k = gd U k := by
  have t1 := oT.1
  constructor
  · intro q
    refine ⟨q.1, q.2.1, fun k k0 k1 => ?_⟩
    unfold gd nrm
    rw [q.1, q.2.1]
    by_cases z : k / 6 < U.1 ∧ k % 6 < U.2.1
    · rw [if_pos z, if_pos z]
      exact q.2.2 _ _ (by omega) (by rw [q.1]; exact z.1) (by omega) (by rw [q.2.1]; exact z.2)
    · rw [if_neg z, if_neg z]
  · intro q
    refine ⟨q.1, q.2.1, fun r c r0 r1 c0 c1 => ?_⟩
    have := q.2.2 (6 * r + c) (by omega) (by omega)
    unfold gd nrm at this
    rw [show (6 * r + c) / 6 = r by omega, show (6 * r + c) % 6 = c by omega, if_pos ⟨r1, c1⟩, if_pos ⟨by rw [← q.1]; exact r1, by rw [← q.2.1]; exact c1⟩] at this
    exact this
theorem gd_in {T : zTb} (oT : okT T) {k : Int} (k0 : 0 ≤ k) (k1 : k < 72) : z_in64 (gd T k) := by
  unfold gd nrm
  by_cases z : k / 6 < T.1 ∧ k % 6 < T.2.1
  · rw [if_pos z]
    have := oT.2 (k / 6) (k % 6) (by omega) z.1 (by omega) z.2
    exact ⟨by omega, by omega⟩
  · rw [if_neg z]; exact ⟨by decide, by decide⟩
theorem land_rg (x : Int) : 0 ≤ z_land x 4095 ∧ z_land x 4095 < 4096 := by
  unfold z_land
  have e : (Int64.ofInt x &&& Int64.ofInt 4095).toBitVec.toNat ≤ 4095 := by
    rw [Int64.toBitVec_and, BitVec.toNat_and, bv_ofInt (x := 4095) (by omega) (by omega)]
    exact Nat.and_le_right
  rw [bv_toInt (by omega)]
  omega
noncomputable def shp (two : Prop) (P : zSt) : Int := (P.1.1 * 8 + P.1.2.1) * 128 + zif two (P.2.1 * 8 + P.2.2.1) 0
def sg (f : Int → Int) : Nat → Int → Int → Int
  | 0, _, v => v
  | m + 1, j, v => sg f m (j + 1) (31 * v + f j)
theorem sg_c {f g : Int → Int} : ∀ (m : Nat) (j v : Int), (∀ i : Int, j ≤ i → i < j + m → f i = g i) → sg f m j v = sg g m j v := by
  intro m
  induction m with
  | zero => intro j v _; rfl
  | succ m ih => intro j v k; rw [sg, sg, k j (Int.le_refl _) (by omega), ih (j + 1) _ fun i a b => k i (by omega) (by omega)]
noncomputable def hmv (two : Prop) (P : zSt) : Int := zif two (sg (gd P.2) 72 0 (sg (gd P.1) 72 0 (shp two P))) (sg (gd P.1) 72 0 (shp two P))
noncomputable def hm (two : Prop) (P : zSt) : Int := z_land (z_lxor (z_lxor (hmv two P) (z_lushr (hmv two P) 21)) (z_lushr (hmv two P) 43)) 4095
/-- the same State, for the model -/
def sq (two : Prop) (P S : zSt) : Prop := teq P.1 S.1 ∧ (two → teq P.2 S.2)
def okQ (two : Prop) (P : zSt) : Prop := okT P.1 ∧ (two → okT P.2)
theorem hm_eq {two : Prop} {P S : zSt} (oP : okQ two P) (oS : okQ two S) (k : sq two P S) : hm two P = hm two S := by
  have q := (teq_gd oP.1 oS.1).1 k.1
  have e : hmv two P = hmv two S := by
    unfold hmv
    by_cases z : two
    · have q2 := (teq_gd (oP.2 z) (oS.2 z)).1 (k.2 z)
      have es : shp two P = shp two S := by unfold shp; rw [zif1 z, zif1 z, q.1, q.2.1, q2.1, q2.2.1]
      rw [zif1 z, zif1 z, es, sg_c (f := gd P.1) (g := gd S.1) 72 0 _ fun i a b => q.2.2 i a (by omega), sg_c (f := gd P.2) (g := gd S.2) 72 0 _ fun i a b => q2.2.2 i a (by omega)]
    · have es : shp two P = shp two S := by unfold shp; rw [zif0 z, zif0 z, q.1, q.2.1]
      rw [zif0 z, zif0 z, es, sg_c (f := gd P.1) (g := gd S.1) 72 0 _ fun i a b => q.2.2 i a (by omega)]
  unfold hm
  rw [e]
/-- the two tables at hand -/
def mPr (two : Prop) (h : zH) (P : zSt) : Prop := isM h 8 P.1 ∧ (two → isM h 9 P.2) ∧ h 88 32 = z_b two
/-- a State kept -/
def isQ (two : Prop) (h : zH) (s : Int) (P : zSt) : Prop := h 102 s = shp two P ∧ (∀ k : Int, 0 ≤ k → k < 72 → h 101 (144 * s + k) = gd P.1 k) ∧ (two → ∀ k : Int, 0 ≤ k → k < 72 → h 101 (144 * s + 72 + k) = gd P.2 k)
theorem shp_rg {two : Prop} {P : zSt} (o : okQ two P) : 0 ≤ shp two P ∧ shp two P < 20000 := by
  have p1 := o.1.1
  unfold shp
  by_cases z : two
  · have p2 := (o.2 z).1
    rw [zif1 z]; omega
  · rw [zif0 z]; omega
theorem shp_inj {two : Prop} {P S : zSt} (oP : okQ two P) (oS : okQ two S) (e : shp two P = shp two S) : P.1.1 = S.1.1 ∧ P.1.2.1 = S.1.2.1 ∧ (two → P.2.1 = S.2.1 ∧ P.2.2.1 = S.2.2.1) := by
  have p1 := oP.1.1
  have s1 := oS.1.1
  unfold shp at e
  by_cases z : two
  · have p2 := (oP.2 z).1
    have s2 := (oS.2 z).1
    rw [zif1 z, zif1 z] at e
    refine ⟨by omega, by omega, fun _ => ⟨by omega, by omega⟩⟩
  · rw [zif0 z, zif0 z] at e
    exact ⟨by omega, by omega, fun w => absurd w z⟩
section Ms
variable {D : zD} {d : Nat} {G : zG} {h h0 h1 : zH} {Q : zO → zG → zH → Prop} {two : Prop}
theorem tw_z (e : h 88 32 = z_b two) : (h 88 32 % 2 = 0 ↔ ¬ two) ∧ z_in (h 88 32 % 2) := by
  rw [e]
  by_cases z : two
  · rw [z_b1 z]; exact ⟨⟨fun q => absurd q (by decide), fun q => absurd z q⟩, by decide, by decide⟩
  · rw [z_b0 z]; exact ⟨⟨fun _ => z, fun _ => rfl⟩, by decide, by decide⟩
theorem a_shapeNow {P : zSt} (m : mPr two h P) : z_Ei D M_X13_shapeNow d [(2, 88)] G h (shp two P) h := by
  obtain ⟨m1, m2, m3⟩ := m
  obtain ⟨t1, t2⟩ := tw_z m3
  refine z_begin mo_X13_shapeNow rfl (nle rfl) (b_X13_shapeNow_0 t2 (fun c => ⟨?_, rfl, rfl⟩) (fun c => ⟨?_, rfl, rfl⟩))
  · have z := t1.1 c
    unfold shp
    rw [m1.1, m1.2.1, zif0 z]
  · have z : two := Classical.byContradiction fun w => c (t1.2 w)
    have m2 := m2 z
    unfold shp
    rw [m1.1, m1.2.1, m2.1, m2.2.1, zif1 z]
theorem l_sum39 {P : zSt} (m : mPr two h P) (z : two) : ∀ (m : Nat) (j v : Int), 72 = j + m → 0 ≤ j → z_Y D M_X13_sum d 39 [(0, 2, 88), (1, 1, v), (3, 0, j)] [] G h (fun out G' h' => out = .inl (some (0, z_land (z_lxor (z_lxor (sg (gd P.2) m j v) (z_lushr (sg (gd P.2) m j v) 21)) (z_lushr (sg (gd P.2) m j v) 43)) 4095)) ∧ G' = G ∧ h' = h) := by
  obtain ⟨m1, m2, m3⟩ := m
  obtain ⟨t1, t2⟩ := tw_z m3
  have nz : ¬ h 88 32 % 2 = 0 := fun q => t1.1 q z
  intro m
  induction m with
  | zero =>
    intro j v e j0
    exact b_X13_sum_39 t2 (fun _ => ⟨by omega, by omega⟩) (fun _ c => by omega) (fun _ c => by omega) (fun c => absurd c nz) (fun _ _ => b_X13_sum_75 ⟨rfl, rfl, rfl⟩) (fun _ c => by omega)
  | succ m ih =>
    intro j v e j0
    refine b_X13_sum_39 t2 (fun _ => ⟨by omega, by omega⟩) (fun _ c => by omega) (fun _ c => by omega) (fun c => absurd c nz) (fun _ c => by omega) (fun _ c => ?_)
    have q := isM_gd (m2 z) j0 (show j < 72 by omega)
    rw [show 72 * (9 : Int) + j = 648 + j by omega] at q
    rw [q]
    exact ih (j + 1) _ (by omega) (by omega)
theorem l_sum8 {P : zSt} (m : mPr two h P) : ∀ (k : Nat) (j v : Int), 72 = j + k → 0 ≤ j → z_Y D M_X13_sum d 8 [(0, 2, 88), (1, 1, v), (3, 0, j)] [] G h (fun out G' h' => out = .inl (some (0, z_land (z_lxor (z_lxor (zif two (sg (gd P.2) 72 0 (sg (gd P.1) k j v)) (sg (gd P.1) k j v)) (z_lushr (zif two (sg (gd P.2) 72 0 (sg (gd P.1) k j v)) (sg (gd P.1) k j v)) 21)) (z_lushr (zif two (sg (gd P.2) 72 0 (sg (gd P.1) k j v)) (sg (gd P.1) k j v)) 43)) 4095)) ∧ G' = G ∧ h' = h) := by
  obtain ⟨m1, m2, m3⟩ := id m
  obtain ⟨t1, t2⟩ := tw_z m3
  intro k
  induction k with
  | zero =>
    intro j v e j0
    refine b_X13_sum_8 ⟨by omega, by omega⟩ (fun c => by omega) (fun c => by omega) (fun _ => ?_) (fun c => by omega)
    by_cases z : two
    · rw [zif1 z]
      exact l_sum39 m z 72 0 v (by omega) (by omega)
    · rw [zif0 z]
      exact b_X13_sum_39 t2 (fun c => absurd (t1.2 z) c) (fun c => absurd (t1.2 z) c) (fun c => absurd (t1.2 z) c) (fun _ => b_X13_sum_75 ⟨rfl, rfl, rfl⟩) (fun c => absurd (t1.2 z) c) (fun c => absurd (t1.2 z) c)
  | succ k ih =>
    intro j v e j0
    refine b_X13_sum_8 ⟨by omega, by omega⟩ (fun c => by omega) (fun c => by omega) (fun c => by omega) (fun c => ?_)
    have q := isM_gd m1 j0 (show j < 72 by omega)
    rw [show 72 * (8 : Int) + j = 576 + j by omega] at q
    rw [q]
    exact ih (j + 1) _ (by omega) (by omega)
theorem a_sum (hd : 1 ≤ d) {P : zSt} (m : mPr two h P) (o : okQ two P) : z_Ei D M_X13_sum d [(2, 88)] G h (hm two P) h := by
  have sr := shp_rg o
  refine z_begin mo_X13_sum rfl (nle rfl) (b_X13_sum_0 (z_Ki.of (d2 := d - 1) (by omega) (a_shapeNow m) ?_))
  rintro out G' h' hl' ⟨r1, rfl, rfl⟩
  exact ⟨_, r1, b_X13_sum_4 ⟨by omega, by omega⟩ (l_sum8 m 72 0 (shp two P) (by omega) (by omega))⟩
theorem l_isSt59 {s : Int} {P S : zSt} (s0 : 0 ≤ s) (s1 : s < 1500) (m : mPr two h S) (oS : okQ two S) (oP : okQ two P) (k : isQ two h s P) (z : two) : ∀ (m : Nat) (j : Int), 72 = j + m → 0 ≤ j → (∀ i : Int, 0 ≤ i → i < j → gd P.2 i = gd S.2 i) → z_Y D M_X13_isState d 59 [(0, 2, 88), (1, 0, s), (2, 0, j)] [] G h (fun out G' h' => out = .inl (some (0, z_b (∀ i : Int, 0 ≤ i → i < 72 → gd P.2 i = gd S.2 i))) ∧ G' = G ∧ h' = h) := by
  obtain ⟨m1, m2, m3⟩ := m
  obtain ⟨t1, t2⟩ := tw_z m3
  have nz : ¬ h 88 32 % 2 = 0 := fun q => t1.1 q z
  intro m
  induction m with
  | zero =>
    intro j e j0 w
    refine b_X13_isState_59 t2 (fun _ => ⟨by omega, by omega⟩) (fun _ c => by omega) (fun _ c => by omega) (fun _ c => by omega) (fun _ c => by omega) (fun _ c => by omega) (fun _ c => by omega) (fun c => absurd c nz) (fun _ _ => ⟨?_, rfl, rfl⟩) (fun _ c => by omega) (fun _ c => by omega)
    rw [z_b1 fun i a b => w i a (by omega)]
  | succ m ih =>
    intro j e j0 w
    have q := isM_gd (m2 z) j0 (show j < 72 by omega)
    rw [show 72 * (9 : Int) + j = 648 + j by omega] at q
    have q2 := k.2.2 z j j0 (by omega)
    refine b_X13_isState_59 t2 (fun _ => ⟨by omega, by omega⟩) (fun _ c => by omega) (fun _ c => by omega) (fun _ c => by omega) (fun _ c => by omega) (fun _ c => by rw [q2]; exact gd_in (oP.2 z) j0 (by omega)) (fun _ c => by rw [q]; exact gd_in (oS.2 z) j0 (by omega)) (fun c => absurd c nz) (fun _ c => by omega) (fun _ c y => ?_) (fun _ c y => ⟨?_, rfl, rfl⟩)
    · rw [q, q2] at y
      refine ih (j + 1) (by omega) (by omega) fun i a b => ?_
      by_cases u : i = j
      · rw [u]; exact y
      · exact w i a (by omega)
    · rw [q, q2] at y
      rw [z_b0 fun u => y (u j j0 (by omega))]
theorem l_isSt17 {s : Int} {P S : zSt} (s0 : 0 ≤ s) (s1 : s < 1500) (m : mPr two h S) (oS : okQ two S) (oP : okQ two P) (k : isQ two h s P) : ∀ (n : Nat) (j : Int), 72 = j + n → 0 ≤ j → (∀ i : Int, 0 ≤ i → i < j → gd P.1 i = gd S.1 i) → z_Y D M_X13_isState d 17 [(0, 2, 88), (1, 0, s), (2, 0, j)] [] G h (fun out G' h' => out = .inl (some (0, z_b ((∀ i : Int, 0 ≤ i → i < 72 → gd P.1 i = gd S.1 i) ∧ (two → ∀ i : Int, 0 ≤ i → i < 72 → gd P.2 i = gd S.2 i)))) ∧ G' = G ∧ h' = h) := by
  obtain ⟨m1, m2, m3⟩ := id m
  obtain ⟨t1, t2⟩ := tw_z m3
  intro n
  induction n with
  | zero =>
    intro j e j0 w
    have al : ∀ i : Int, 0 ≤ i → i < 72 → gd P.1 i = gd S.1 i := fun i a b => w i a (by omega)
    refine b_X13_isState_17 ⟨by omega, by omega⟩ (fun c => by omega) (fun c => by omega) (fun c => by omega) (fun c => by omega) (fun c => by omega) (fun c => by omega) (fun _ => ?_) (fun c => by omega) (fun c => by omega)
    by_cases z : two
    · have e : ((∀ i : Int, 0 ≤ i → i < 72 → gd P.1 i = gd S.1 i) ∧ (two → ∀ i : Int, 0 ≤ i → i < 72 → gd P.2 i = gd S.2 i)) = ∀ i : Int, 0 ≤ i → i < 72 → gd P.2 i = gd S.2 i := propext ⟨fun q => q.2 z, fun q => ⟨al, fun _ => q⟩⟩
      rw [e]
      exact l_isSt59 s0 s1 m oS oP k z 72 0 (by omega) (by omega) fun i a b => by omega
    · refine b_X13_isState_59 t2 (fun c => absurd (t1.2 z) c) (fun c => absurd (t1.2 z) c) (fun c => absurd (t1.2 z) c) (fun c => absurd (t1.2 z) c) (fun c => absurd (t1.2 z) c) (fun c => absurd (t1.2 z) c) (fun c => absurd (t1.2 z) c) (fun _ => ⟨?_, rfl, rfl⟩) (fun c => absurd (t1.2 z) c) (fun c => absurd (t1.2 z) c) (fun c => absurd (t1.2 z) c)
      rw [z_b1 ⟨al, fun y => absurd y z⟩]
  | succ n ih =>
    intro j e j0 w
    have q := isM_gd m1 j0 (show j < 72 by omega)
    rw [show 72 * (8 : Int) + j = 576 + j by omega] at q
    have q2 := k.2.1 j j0 (by omega)
    refine b_X13_isState_17 ⟨by omega, by omega⟩ (fun c => by omega) (fun c => by omega) (fun c => by omega) (fun c => by omega) (fun _ => by rw [q2]; exact gd_in oP.1 j0 (by omega)) (fun _ => by rw [q]; exact gd_in oS.1 j0 (by omega)) (fun c => by omega) (fun _ y => ?_) (fun _ y => ⟨?_, rfl, rfl⟩)
    · rw [q, q2] at y
      refine ih (j + 1) (by omega) (by omega) fun i a b => ?_
      by_cases u : i = j
      · rw [u]; exact y
      · exact w i a (by omega)
    · rw [q, q2] at y
      rw [z_b0 fun u => y (u.1 j j0 (by omega))]
theorem a_isState (hd : 1 ≤ d) {s : Int} {P S : zSt} (s0 : 0 ≤ s) (s1 : s < 1500) (m : mPr two h S) (oS : okQ two S) (oP : okQ two P) (k : isQ two h s P) : z_Ei D M_X13_isState d [(2, 88), (0, s)] G h (z_b (sq two P S)) h := by
  have r1 := shp_rg oP
  have r2 := shp_rg oS
  refine z_begin mo_X13_isState rfl (nle rfl) (b_X13_isState_0 s0 s1 (z_Ki.of (d2 := d - 1) (by omega) (a_shapeNow m) ?_))
  rintro out G' h' hl' ⟨q1, rfl, rfl⟩
  rw [k.1]
  refine ⟨_, q1, b_X13_isState_10 ⟨by omega, by omega⟩ ⟨by omega, by omega⟩ (fun c => ?_) (fun c => ⟨?_, rfl, rfl⟩)⟩
  · obtain ⟨i1, i2, i3⟩ := shp_inj oP oS c
    have e : sq two P S = ((∀ i : Int, 0 ≤ i → i < 72 → gd P.1 i = gd S.1 i) ∧ (two → ∀ i : Int, 0 ≤ i → i < 72 → gd P.2 i = gd S.2 i)) := by
      refine propext ⟨fun q => ⟨((teq_gd oP.1 oS.1).1 q.1).2.2, fun z => ((teq_gd (oP.2 z) (oS.2 z)).1 (q.2 z)).2.2⟩, fun q => ⟨(teq_gd oP.1 oS.1).2 ⟨i1, i2, q.1⟩, fun z => (teq_gd (oP.2 z) (oS.2 z)).2 ⟨(i3 z).1, (i3 z).2, q.2 z⟩⟩⟩
    rw [e]
    exact l_isSt17 s0 s1 m oS oP k 72 0 (by omega) (by omega) fun i a b => by omega
  · rw [z_b0]
    intro q
    refine c ?_
    have y := (teq_gd oP.1 oS.1).1 q.1
    unfold shp
    by_cases z : two
    · have y2 := (teq_gd (oP.2 z) (oS.2 z)).1 (q.2 z)
      rw [zif1 z, zif1 z, y.1, y.2.1, y2.1, y2.2.1]
    · rw [zif0 z, zif0 z, y.1, y.2.1]
end Ms
