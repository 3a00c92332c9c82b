/-! the levels, one after another -/
theorem pth_c {Ed Ed' : Nat → Int → List (Int × Int)} {E : Int → Bool} : ∀ (m : Nat) (t : Int), (∀ r : Nat, r < m → ∀ t, Ed r t = Ed' r t) → pth Ed E m t = pth Ed' E m t := by
  intro m
  induction m with
  | zero => intro t _; rfl
  | succ m ih =>
    intro t k
    show ((Ed m t).flatMap fun ct => (pth Ed E m ct.2).map fun p => ct.1 :: p) = ((Ed' m t).flatMap fun ct => (pth Ed' E m ct.2).map fun p => ct.1 :: p)
    rw [k m (by omega)]
    congr 1
    funext ct
    rw [ih ct.2 fun r a b => k r (by omega) b]
/-- what the search leaves in the class's heap -/
def PI (G : zG) (h : zH) : Prop := (∃ n : Int, pool G h n) ∧ rmS G h ∧ edg G h ∧ tdI h
def fnQ (h : zH) (r : Int × Int × Int × Int × List (List Int)) : Prop := h 33 14 = r.2.1 ∧ h 33 15 = r.2.2.1 ∧ h 33 16 = r.2.2.2.1 ∧ h 51 0 = (r.2.2.2.2.length : Int) ∧ (0 ≤ r.1 → h 51 1 = r.1) ∧ ∀ (k : Nat) (p : List Int), r.2.2.2.2[k]? = some p → h (h 51 2) k = enc 0 p
def frK (G : zG) (h : zH) (G' : zG) (h' : zH) : Prop := ext G G' ∧ ∀ b j : Int, b < 114 → ¬ (33 ≤ b ∧ b ≤ 45) → ¬ (48 ≤ b ∧ b ≤ 55) → ¬ (13 ≤ b ∧ b ≤ 18) → h' b j = h b j
theorem frK.tr {G G1 G2 : zG} {h h1 h2 : zH} (a : frK G h G1 h1) (b : frK G1 h1 G2 h2) : frK G h G2 h2 := ⟨a.1.tr b.1, fun x j p q r t => (b.2 x j p q r t).trans (a.2 x j p q r t)⟩
theorem frZ.K {G G' : zG} {h h' : zH} (a : frZ G h G' h') : frK G h G' h' := ⟨a.1, fun b j p q r t => a.2 b j p (by omega) (by omega) (by omega) t⟩
/-- what came of it, from the levels' result -/
noncomputable def fRR (two : Prop) (E : zSt → Prop) (R : Int × bS × (Int → Int)) : Int × Int × Int × Int × List (List Int) :=
  (R.1, R.2.1.1, zct (fun i => E (R.2.1.2 i)) R.2.1.1.toNat,
   if 0 ≤ R.1 then cap (pth (eD two R.2.1 R.2.2 R.1) (eE E R.2.1) R.1.toNat 0).length else 0,
   if 0 ≤ R.1 then (pth (eD two R.2.1 R.2.2 R.1) (eE E R.2.1) R.1.toNat 0).take 60 else [])
theorem fRR_eq {two : Prop} {E : zSt → Prop} {most : Nat} {P : zSt} : fR two E most P = fRR two E (bF two E most 0 0 (1, fun _ => P)) := rfl
section Seek
variable {D : zD} {d : Nat} {G G0 : zG} {h h1 h2 h0 g : zH} {two : Prop} {W V B : zTb}
def seQ (two : Prop) (W V : zTb) (R : Int × bS × (Int → Int)) (G0 : zG) (h0 : zH) : zO → zG → zH → Prop := fun out G' h' => out = .inl (some (0, R.1)) ∧ frK G0 h0 G' h' ∧ PI G' h' ∧ fnQ h' (fRR two (eW W V) R)
/-- how the levels so far and the rest make the whole -/
def bqI (two : Prop) (E : zSt → Prop) (R : Int × bS × (Int → Int)) (m : Nat) (lvl : Int → Int) (l : Int) (s : bS) : Prop := R.1 = (bF two E m l (lvl l) s).1 ∧ R.2.1 = (bF two E m l (lvl l) s).2.1 ∧ (∀ k : Int, 0 ≤ k → k < l → R.2.2 k = lvl k) ∧ ∀ k : Int, l ≤ k → R.2.2 k = (bF two E m l (lvl l) s).2.2 k
theorem SI_PI {s : bS} {w : Int → Nat} (si : SI two W V B G h s w) (td : tdI h) : PI G h := by
  obtain ⟨⟨n, ss⟩, rm, eg, -⟩ := si
  exact ⟨⟨n, ss.1⟩, rm, eg, td⟩
/-- found -/
theorem l_found (hd : 4 ≤ d) {lvl : Int → Int} {l : Int} {s : bS} {w : Int → Nat} {R : Int × bS × (Int → Int)} {m : Nat} (sk : skI two W V B lvl l s w G h) (l3 : l ≤ 3) (L1 : 0 < lvl 1) (E0 : l = 0 → eW W V (s.2 0)) (td : tdI h) (h16 : h 33 16 = 0) (fz : frK G0 h0 G h) (ex : ∃ i : Int, 0 ≤ i ∧ i < s.1 ∧ eW W V (s.2 i)) (bq : bqI two (eW W V) R m lvl l s) {K : zG → zH → Prop} (hK : ∀ G' h', R.1 = l → seQ two W V R G0 h0 (.inl (some (0, l))) G' h' → K G' h') : z_Kv D M_X1_tellWays d [(2, 33), (0, l), (0, lvl l)] G h K := by
  obtain ⟨si, ⟨o, lN⟩, -⟩ := id sk
  have e15 : h 33 15 = zct (fun i => eW W V (s.2 i)) s.1.toNat := si.2.2.2.2.2.1
  obtain ⟨⟨n, ss⟩, rm, eg, -⟩ := id si
  have e14 := ss.2.2.1
  have o1 := o.1
  have hb : bF two (eW W V) m l (lvl l) s = (l, s, fun k => if k = l then lvl l else s.1) := by
    cases m with
    | zero => rw [bF, zif1 ex]
    | succ m => rw [bF, zif1 ex]
  obtain ⟨b1, b2, b3, b4⟩ := bq
  rw [hb] at b1 b2 b4
  have R1 : R.1 = l := b1
  have R2 : R.2.1 = s := b2
  have R3 : ∀ k : Int, 0 ≤ k → k ≤ l → R.2.2 k = lvl k := fun k k0 k1 => by
    by_cases z : k < l
    · exact b3 k k0 z
    · rw [b4 k (by omega)]
      show (if k = l then lvl l else s.1) = _
      rw [if_pos (by omega), show k = l by omega]
  have pe : pth (eD two R.2.1 R.2.2 R.1) (eE (eW W V) R.2.1) R.1.toNat 0 = pth (eD two s lvl l) (eE (eW W V) s) l.toNat 0 := by
    rw [R1, R2]
    refine pth_c l.toNat 0 fun r hr t => ?_
    unfold eD
    rw [R3 (l - r) (by omega) (by omega)]
  refine z_Kv.of (d2 := d - 1) (by omega) (c_tell (by omega) sk l3 L1 E0 td h16) ?_
  rintro out G' h' hl' ⟨q1, rfl, q2, q2', q3, q4, q5, q6, q7⟩
  refine ⟨q1, hK _ _ R1 ⟨by rw [R1], fz.tr ⟨ext.rf, fun b j p q r t => q2 b j p (by omega) (by omega)⟩, ?_, ?_⟩⟩
  · have e48 : ∀ j : Int, h' 48 j = h 48 j := fun j => q2 48 j (by omega) (by omega) (by omega)
    have po := ss.1
    have z0 : ∀ i : Int, 0 ≤ i → i < n → h' (h 48 i) 0 = h (h 48 i) 0 := fun i i0 i1 => q2' _ 0 (po.2.1 i i0 i1).2.1 (by omega)
    have e11 : h' 33 11 = h 33 11 := q2 33 11 (by omega) (by omega) (by omega)
    refine ⟨⟨n, po.1, fun i i0 i1 => ?_, fun i j i0 ij j1 => ?_, fun i i0 i1 => by rw [e48]; exact po.2.2.2 i i0 i1⟩, rm_k rm po e48 z0 e11, by unfold edg; rw [e11]; exact eg, q3⟩
    · unfold stS; rw [e48, z0 i i0 i1]; exact po.2.1 i i0 i1
    · rw [e48, e48, z0 i i0 (by omega), z0 j (by omega) j1]; exact po.2.2.1 i j i0 ij j1
  · unfold fnQ fRR
    dsimp only
    rw [pe, R1, R2, if_pos o1, if_pos o1, q2 33 14 (by omega) (by omega) (by omega), q2 33 15 (by omega) (by omega) (by omega)]
    exact ⟨e14, e15, q4, q6, fun _ => q5, q7⟩
theorem l_seek47 (hd : 7 ≤ d) {lvl : Int → Int} {l most : Int} {s0 : bS} {w0 : Int → Nat} {RL : Int × bS} {Q : zO → zG → zH → Prop} (o : lvO lvl l) (e0 : lvl (l + 1) = s0.1) (oW : okT W) (oV : okT V) (nB : ¬ two → noA B)
    (KF : ∀ (w : Int → Nat) (G : zG) (h : zH), RL.1 = 0 → SI two W V B G h RL.2 w → frK G0 h0 G h → (∀ j : Int, h 51 j = h0 51 j) → h 33 16 = h0 33 16 → Q (.inl (some (0, -3))) G h)
    (K : ∀ (s : bS) (w : Int → Nat) (G : zG) (h : zH), inI two W V B lvl l s0 w0 RL (lvl (l + 1)) s w G h → frK G0 h0 G h → (∀ j : Int, h 51 j = h0 51 j) → h 33 16 = h0 33 16 → z_Y D M_X1_seek d 47 [(0, 2, 33), (5, 0, most), (7, 0, l + 1), (8, 0, lvl (l + 1)), (9, 0, lvl (l + 1))] [] G h Q) :
    ∀ (m : Nat) (i : Int) (s : bS) (w : Int → Nat) (G : zG) (h : zH), lvl (l + 1) = i + m → lvl l ≤ i → inI two W V B lvl l s0 w0 RL i s w G h → frK G0 h0 G h → (∀ j : Int, h 51 j = h0 51 j) → h 33 16 = h0 33 16 → z_Y D M_X1_seek d 47 [(0, 2, 33), (5, 0, most), (7, 0, l + 1), (8, 0, lvl (l + 1)), (9, 0, i)] [] G h Q := by
  intro m
  induction m with
  | zero =>
    intro i s w G h e i0 x fz f51 f16
    have ei : i = lvl (l + 1) := by omega
    subst ei
    exact K s w G h x fz f51 f16
  | succ m ih =>
    intro i s w G h e i0 x fz f51 f16
    obtain ⟨si, x2, -, -, -, -, x7⟩ := id x
    obtain ⟨⟨n, ss⟩, -⟩ := id si
    have p1 := ss.1.1
    have sr := ss.2.1
    have m0 := o.mo (Int.le_refl 0) o.1 (by omega)
    rw [o.2.1] at m0
    have x21 := x2.1
    refine b_X1_seek_47 ⟨by omega, by omega⟩ ⟨by omega, by omega⟩ (fun c => by omega) (fun _ => by omega) (fun _ => by omega) (fun c => by omega) (fun c => by omega) (fun _ => ?_)
    refine z_Ki.of (d2 := d - 1) (by omega) (c_expand (by omega) si oW oV nB (by omega) (by omega) x7 ⟨by omega, by omega⟩) ?_
    intro out G' h' hl' q
    have fr := q.1.Z
    have fz' := fz.tr fr.K
    have f51' : ∀ j : Int, h' 51 j = h0 51 j := fun j => (fr.2 51 j (by omega) (by omega) (by omega) (by omega) (by omega)).trans (f51 j)
    have f16' : h' 33 16 = h0 33 16 := (fr.2 33 16 (by omega) (by omega) (by omega) (by omega) (by omega)).trans f16
    rcases inI_s o e0 x i0 (by omega) q with ⟨y1, y2, w', y3⟩ | ⟨y1, y2⟩
    · exact ⟨_, y2, b_X1_seek_67 ⟨by omega, by omega⟩ (fun c => absurd rfl c) (fun _ => KF w' G' h' y1 y3 fz' f51' f16')⟩
    · exact ⟨_, y1, b_X1_seek_67 ⟨by omega, by omega⟩ (fun _ => ih (i + 1) _ _ G' h' (by omega) (by omega) y2 fz' f51' f16') (fun c => absurd (by decide) c)⟩
theorem td_51 (e : ∀ j : Int, h 51 j = h0 51 j) (td : tdI h0) : tdI h := by unfold tdI at td ⊢; rw [e, e, e, e]; exact td
theorem no_E {s : bS} {w : Int → Nat} (si : SI two W V B G h s w) : h 33 15 ≤ 0 ↔ ¬ ∃ i : Int, 0 ≤ i ∧ i < s.1 ∧ eW W V (s.2 i) := by
  have e15 : h 33 15 = zct (fun i => eW W V (s.2 i)) s.1.toNat := si.2.2.2.2.2.1
  have rg := zct_rg (fun i => eW W V (s.2 i)) s.1.toNat
  have z := zct_0 (fun i => eW W V (s.2 i)) s.1.toNat
  rw [e15]
  constructor
  · rintro q ⟨i, i0, i1, i2⟩
    exact z.1 (by omega) i i0 (by omega) i2
  · intro q
    have := z.2 fun i i0 i1 i2 => q ⟨i, i0, by omega, i2⟩
    omega
theorem l_seek30 (hd : 7 ≤ d) {R : Int × bS × (Int → Int)} (oW : okT W) (oV : okT V) (nB : ¬ two → noA B) (td0 : tdI h0) (h16 : h0 33 16 = 0) (h510 : h0 51 0 = 0) {most : Int} (m3 : most ≤ 3) :
    ∀ (m : Nat) (l : Int) (lvl : Int → Int) (s : bS) (w : Int → Nat) (G : zG) (h : zH), most = l + m → 0 < lvl 1 → skI two W V B lvl l s w G h → (¬ ∃ i : Int, 0 ≤ i ∧ i < s.1 ∧ eW W V (s.2 i)) → bqI two (eW W V) R m lvl l s → frK G0 h0 G h → (∀ j : Int, h 51 j = h0 51 j) → h 33 16 = h0 33 16 →
    z_Y D M_X1_seek d 30 [(0, 2, 33), (5, 0, most), (6, 0, lvl l), (7, 0, l + 1)] [] G h (seQ two W V R G0 h0) := by
  -- when nothing is told
  have none' : ∀ {s : bS} {w : Int → Nat} {G : zG} {h : zH}, R.1 < 0 → R.2.1 = s → SI two W V B G h s w → frK G0 h0 G h → (∀ j : Int, h 51 j = h0 51 j) → h 33 16 = h0 33 16 → seQ two W V R G0 h0 (.inl (some (0, R.1))) G h := by
    intro s w G h r1 r2 si fz f51 f16
    have e15 : h 33 15 = zct (fun i => eW W V (s.2 i)) s.1.toNat := si.2.2.2.2.2.1
    obtain ⟨⟨n, ss⟩, -⟩ := id si
    refine ⟨rfl, fz, SI_PI si (td_51 f51 td0), ?_⟩
    unfold fnQ fRR
    dsimp only
    rw [if_neg (by omega), if_neg (by omega), r2]
    exact ⟨ss.2.2.1, e15, by rw [f16, h16], by rw [f51, h510]; rfl, fun q => by omega, fun k p hk => by cases hk⟩
  intro m
  induction m with
  | zero =>
    intro l lvl s w G h e L1 sk nE bq fz f51 f16
    have o1 := sk.2.1.1.1
    obtain ⟨b1, b2, -, -⟩ := bq
    rw [bF, zif0 nE] at b1
    have b2 : R.2.1 = s := b2
    have b1 : R.1 = -1 := b1
    refine b_X1_seek_30 ⟨by omega, by omega⟩ ⟨by omega, by omega⟩ (fun _ => ?_) (fun c => by omega)
    have q := none' (by omega) b2 sk.1 fz f51 f16
    rw [b1] at q
    exact q
  | succ m ih =>
    intro l lvl s w G h e L1 sk nE bq fz f51 f16
    obtain ⟨si, ⟨o, lN⟩, lI, eb, tg, c6⟩ := id sk
    have o1 := o.1
    obtain ⟨⟨n, ss⟩, -⟩ := id si
    have p1 := ss.1.1
    have sr := ss.2.1
    have m0 := o.mo (Int.le_refl 0) o.1 (by omega)
    rw [o.2.1] at m0
    have lm := o.2.2 l o.1 (Int.le_refl _)
    obtain ⟨b1, b2, b3, b4⟩ := bq
    rw [bF, zif0 nE] at b1 b2 b4
    refine b_X1_seek_30 ⟨by omega, by omega⟩ ⟨by omega, by omega⟩ (fun c => by omega) (fun _ => ?_)
    rw [ss.2.2.1, ← lN]
    refine l_seek47 (RL := bL two (s.1 - lvl l).toNat (lvl l) s) (w0 := w) hd o lN oW oV nB (fun w' G' h' r0 si' fz' f51' f16' => ?_) (fun s' w' G' h' x fz' f51' f16' => ?_) (lvl (l + 1) - lvl l).toNat (lvl l) s w G h (by omega) (Int.le_refl _) ?_ fz f51 f16
    · rw [if_pos r0] at b1 b2
      have b1 : R.1 = -3 := b1
      have q := none' (by omega) b2 si' fz' f51' f16'
      rw [b1] at q
      exact q
    · obtain ⟨eR, sk'⟩ := skI_next sk x
      rw [eR] at b1 b2 b4
      have n10 : ¬ ((1, s') : Int × bS).1 = 0 := fun q => by cases q
      rw [if_neg n10] at b1 b2 b4
      have lo : ∀ k : Int, k ≤ l + 1 → lvN lvl l s'.1 k = lvl k := fun k hk => lvN_o (by omega)
      have bq' : bqI two (eW W V) R m (lvN lvl l s'.1) (l + 1) s' := by
        unfold bqI
        rw [lo (l + 1) (Int.le_refl _), lN]
        refine ⟨b1, b2, fun k k0 hk => ?_, fun k hk => ?_⟩
        · rw [lo k (by omega)]
          by_cases z : k < l
          · exact b3 k k0 z
          · rw [b4 k (by omega)]
            show (if k = l then lvl l else _) = _
            rw [if_pos (by omega), show k = l by omega]
        · rw [b4 k (by omega)]
          show (if k = l then _ else _) = _
          rw [if_neg (by omega)]
      obtain ⟨⟨n', ss'⟩, -⟩ := id x.1
      have e15 : h' 33 15 = zct (fun i => eW W V (s'.2 i)) s'.1.toNat := x.1.2.2.2.2.2.1
      have rg := zct_rg (fun i => eW W V (s'.2 i)) s'.1.toNat
      have sr' := ss'.2.1
      have p1' := ss'.1.1
      refine b_X1_seek_47 ⟨by omega, by omega⟩ ⟨by omega, by omega⟩ (fun _ => by rw [e15]; exact ⟨by omega, by omega⟩) (fun c => absurd (Int.le_refl _) c) (fun c => absurd (Int.le_refl _) c) (fun _ c => ?_) (fun _ c => ?_) (fun c => absurd (Int.le_refl _) c)
      · rw [← lo (l + 1) (Int.le_refl _)]
        exact ih (l + 1) (lvN lvl l s'.1) s' w' G' h' (by omega) (by rw [lo 1 (by omega)]; exact L1) sk' ((no_E x.1).1 c) bq' fz' f51' f16'
      · rw [← lo (l + 1) (Int.le_refl _)]
        refine l_found (by omega) sk' (by omega) (by rw [lo 1 (by omega)]; exact L1) (fun z => by omega) (td_51 f51' td0) (by rw [f16', h16]) fz' (Classical.byContradiction fun z => c ((no_E x.1).2 z)) bq' fun G2 h2 r1 q => ?_
        exact b_X1_seek_94 q
    · refine ⟨si, exS.rf, by rw [lN], fun _ _ => rfl, fun g => ?_, eb, c6⟩
      rw [lN, Int.sub_self, Int.sub_self, show (0 : Int).toNat = 0 from rfl, sm, sm]
end Seek
