section Wm5
variable {D : zD} {d : Nat} {G : zG} {h h0 h1 h2 : zH} {Q : zO → zG → zH → Prop}
def rwE (g : Int → Int) (N f f' : Int) : Prop := f ≤ f' ∧ (f' = N ∨ (f' < N ∧ bB g f' = 125))
def RWok (D : zD) (G : zG) (g : Int → Int) (N : Int) (d : Nat) (dep : Int) : Prop := ∀ (f : Int) (s : wS) (h : zH), wInv s → s.1.1 = 0 → s.2.2.1 = dep → mV s h → mH g N f h → (∀ j, w8 (h 100 j) = g j) → z_CY D M_X13_readWay d [(2, 88)] G h (wyQ g N f s (rwE g N f) G h)
def RRok (D : zD) (G : zG) (g : Int → Int) (N : Int) (d : Nat) (dep : Int) : Prop := ∀ (f : Int) (s : wS) (h : zH), wInv s → s.1.1 = 0 → s.2.2.1 = dep → mV s h → mH g N f h → (∀ j, w8 (h 100 j) = g j) → f < N → (97 ≤ bB g f ∧ bB g f ≤ 122) → wNo g f (tEnd g N f) 15 1 = 15 → z_CY D M_X13_readRepeat d [(2, 88)] G h (wyQ g N f s (fun f' => f < f') G h)
theorem mH_fr {g : Int → Int} {N f : Int} (m : mH g N f h) (fr : frB (fun a j => (a = 88 ∧ ¬ (15 ≤ j ∧ j ≤ 18)) ∨ ¬ a = 88) h h1) : mH g N f h1 := by
  obtain ⟨⟨a, b, c⟩, e⟩ := m
  refine ⟨⟨by rw [fr 88 15 (by omega)]; exact a, by rw [fr 88 16 (by omega)]; exact b, c⟩, ?_⟩
  rw [fr 88 17 (by omega), fr 88 18 (by omega)]
  exact e
/-- the copies that a repeat makes -/
theorem l_rr127 (hd : 3 ≤ d) {g : Int → Int} (gk : gOk g) {N f f4 first n t : Int} {s s4 : wS} (N1 : N ≤ 1000) (i4 : wInv s4) (d0 : 0 < s4.2.2.1) (ef : first = s4.2.2.2.1 (s4.2.2.1 - 1)) (en : n = s4.2.1.1 - first) (et : t = s4.2.2.2.2 (s4.2.2.1 - 1)) (le : first + t * n ≤ 12) (e15 : h0 88 15 = N) (e17 : h0 88 17 = f4 + 1) (eg : ∀ j, w8 (h0 100 j) = g j) (f40 : 0 ≤ f4) (f41 : f4 < N) (e19 : h0 88 19 = s4.2.2.1) (e20 : fz h0) (er : wR g N f s = wR g N (f4 + 1) (s4.1, rpW s4 (first + t * n), (s4.2.2.1 - 1, s4.2.2.2))) (ff : f < f4) (st : wSt s (s4.1, rpW s4 (first + t * n), (s4.2.2.1 - 1, s4.2.2.2))) : ∀ (m : Nat) (x : Int) (h : zH), t * n = x + m → n ≤ x → frB (fun a j => (96 ≤ a ∧ a ≤ 98) ∧ 96 ≤ j) h0 h → (∀ i : Int, 0 ≤ i → i < first + x → h 96 (96 + i) = (rpW s4 (first + x)).2 i / 64 ∧ h 97 (96 + i) = (rpW s4 (first + x)).2 i / 8 % 8 ∧ h 98 (96 + i) = (rpW s4 (first + x)).2 i % 8) →
    z_Y D M_X13_readRepeat d 127 [(0, 2, 88), (1, 0, t), (2, 0, first), (3, 0, n), (4, 0, x)] [] G h (wyQ g N f s (fun f' => f < f') G h0) := by
  obtain ⟨i1, i2, i3, i4', i5⟩ := id i4
  have z := i5 (s4.2.2.1 - 1) (by omega) (by omega)
  rw [← ef, ← et] at z
  have mb := mul_b z.1.1 z.1.2 i2.2.1 z.2.1 z.2.2
  rw [← en] at mb
  have cm : n * t = t * n := Int.mul_comm n t
  rw [cm] at mb
  intro m
  induction m with
  | zero =>
    intro x h ex x0 fr hc
    have ext : t * n = x := by omega
    have h88 : ∀ j, h 88 j = h0 88 j := fun j => fr 88 j (by omega)
    refine b_X13_readRepeat_127 ⟨by omega, by omega⟩ ⟨by omega, by omega⟩ (fun c => by omega) (fun c => by omega) (fun c => by omega) (fun c => by omega) (fun _ => ?_) (fun c => by omega)
    obtain ⟨H, eH⟩ : ∃ H, H = z_wr (z_wr h 95 8 (first + t * n)) 88 19 (h 88 19 - 1) := ⟨_, rfl⟩
    rw [← eH]
    have k15 : H 88 15 = N := by rw [eH, w_nj (by omega), w_na (by omega), h88]; exact e15
    have k17 : H 88 17 = f4 + 1 := by rw [eH, w_nj (by omega), w_na (by omega), h88]; exact e17
    have kg : ∀ j, w8 (H 100 j) = g j := fun j => by rw [eH, w_na (by omega), w_na (by omega), fr 100 j (by omega)]; exact eg j
    refine z_Kv.of (d2 := d - 1) (by omega) (m_scan (by omega) gk N1 (p := f4 + 1) (by omega) (by omega) k15 k17 kg) ?_
    rintro out G' h1 _ ⟨r1, rfl, fs, f5, ff5, m5, es5⟩
    have frH : frB mwP h0 H := by
      rw [eH]
      exact ((fr.imp fun a j w => Or.inr (Or.inr w)).w (Or.inr (Or.inl ⟨rfl, rfl⟩))).w (Or.inl ⟨rfl, by omega, by omega⟩)
    refine ⟨r1, b_X13_readRepeat_245 ⟨rfl, frH.tr (fs.imp fun a j w => scP_w w), Or.inl ⟨rfl, f5, _, by omega, st, ?_, m5, er.trans (es5 _)⟩⟩⟩
    refine mV_fr (h := H) ⟨⟨by rw [eH, w_na (by omega), w_s]; rfl, fun i i0 i1 => ?_⟩, by rw [eH, w_s, h88, e19], by unfold fz; rw [eH, w_nj (by omega), w_na (by omega), h88, w_nj (by omega), w_na (by omega), h88]; exact e20⟩ (fs.imp fun a j w => scP_19 w)
    have i1 : i < first + t * n := i1
    have q := hc i i0 (by omega)
    rw [show (12 : Int) * 8 + i = 96 + i by omega, eH, w_na (by omega), w_na (by omega), w_na (by omega), w_na (by omega), w_na (by omega), w_na (by omega)]
    exact q
  | succ m ih =>
    intro x h ex x0 fr hc
    have n0 : 0 < n := by
      refine Classical.byContradiction fun w => ?_
      have : n = 0 := by omega
      rw [this, Int.mul_zero] at ex; omega
    refine b_X13_readRepeat_127 ⟨by omega, by omega⟩ ⟨by omega, by omega⟩ (fun _ => by omega) (fun _ => by omega) (fun _ => by omega) (fun _ => by omega) (fun c => by omega) (fun _ => ?_)
    have q := hc (first + x - n) (by omega) (by omega)
    have e1 : 96 + first + x - n = 96 + (first + x - n) := by omega
    have e2 : 96 + first + x = 96 + (first + x) := by omega
    rw [e1, e2, q.1, q.2.1, q.2.2]
    refine ih (x + 1) _ (by omega) (by omega) (((fr.w ⟨⟨by omega, by omega⟩, by omega⟩).w ⟨⟨by omega, by omega⟩, by omega⟩).w ⟨⟨by omega, by omega⟩, by omega⟩) fun i i0 i1 => ?_
    show _ = (if i < s4.2.1.1 then s4.2.1.2 i else s4.2.1.2 (s4.2.2.2.1 (s4.2.2.1 - 1) + (i - s4.2.2.2.1 (s4.2.2.1 - 1)) % (s4.2.1.1 - s4.2.2.2.1 (s4.2.2.1 - 1)))) / 64 ∧ _ = (if i < s4.2.1.1 then s4.2.1.2 i else s4.2.1.2 (s4.2.2.2.1 (s4.2.2.1 - 1) + (i - s4.2.2.2.1 (s4.2.2.1 - 1)) % (s4.2.1.1 - s4.2.2.2.1 (s4.2.2.1 - 1)))) / 8 % 8 ∧ _ = (if i < s4.2.1.1 then s4.2.1.2 i else s4.2.1.2 (s4.2.2.2.1 (s4.2.2.1 - 1) + (i - s4.2.2.2.1 (s4.2.2.1 - 1)) % (s4.2.1.1 - s4.2.2.2.1 (s4.2.2.1 - 1)))) % 8
    by_cases ei : i = first + x
    · have rc := rep_code (c := s4.2.1.2) (f := first) (L := s4.2.1.1) (b := n) (j := i) en n0 (by omega)
      have lhs : (rpW s4 (first + x)).2 (first + x - n) = (if i - n < s4.2.1.1 then s4.2.1.2 (i - n) else s4.2.1.2 (first + (i - n - first) % n)) := by
        show (if first + x - n < s4.2.1.1 then s4.2.1.2 (first + x - n) else s4.2.1.2 (s4.2.2.2.1 (s4.2.2.1 - 1) + (first + x - n - s4.2.2.2.1 (s4.2.2.1 - 1)) % (s4.2.1.1 - s4.2.2.2.1 (s4.2.2.1 - 1)))) = _
        rw [← ef, ← en, ei]
      rw [← ef, ← en, if_neg (show ¬ i < s4.2.1.1 by omega), ← rc, ← lhs, ei]
      exact ⟨by rw [w_na (by omega), w_na (by omega), w_s], by rw [w_na (by omega), w_s], by rw [w_s]⟩
    · rw [w_nj (by omega), w_nj (by omega), w_nj (by omega), w_nj (by omega), w_nj (by omega), w_nj (by omega), w_nj (by omega), w_nj (by omega), w_nj (by omega)]
      exact hc i i0 (by omega)
theorem rr_of (hd : 7 ≤ d) {g : Int → Int} (gk : gOk g) {N dep : Int} (N1 : N ≤ 1000) (rw' : dep < 3 → RWok D G g N (d - 1) (dep + 1)) : RRok D G g N d dep := by
  intro f s h i du ed mv m eg fl lt wn
  obtain ⟨⟨e15, e16, f0, f1⟩, mm⟩ := id m
  obtain ⟨i1, i2, i3, i4, i5⟩ := id i
  have te := tEnd_rg (g := g) fl
  have ek : wTok g N f s = (0, ((5, s.1.2), s.2)) := by
    unfold wTok wWord
    rw [if_pos lt, wn, if_neg (by omega), if_pos rfl]
  have e17 : h 88 17 = tEnd g N f := by
    rcases mm with w | w
    · omega
    · exact w.2.2.1
  have er0 : wR g N f s = wR g N (tEnd g N f) ((5, s.1.2), s.2) := by rw [wR_tok fl (m.nb fl) (by rw [ek]), ek]
  have iv1 : wInv ((5, s.1.2), s.2) := by
    have := wTok_inv (g := g) (N := N) (p := f) i (by rw [ek])
    rw [ek] at this; exact this
  refine z_begin mo_X13_readRepeat rfl (nle rfl) (b_X13_readRepeat_0 ?_)
  refine z_Kv.of (d2 := d - 1) (by omega) (m_scan (by omega) gk N1 (p := tEnd g N f) (by omega) (by omega) e15 e17 eg) ?_
  rintro out G' h1 _ ⟨r1, rfl, fs1, f1', ff1, m1, es1⟩
  have fr1 : frB mwP h h1 := fs1.imp fun a j w => scP_w w
  have er1 := er0.trans (es1 _)
  have eg1 : ∀ j, w8 (h1 100 j) = g j := fun j => by rw [fr1 100 j mwP_100]; exact eg j
  have mv1 := mV_fr mv (fs1.imp fun a j w => scP_19 w)
  have sg1 : ∀ x : Int, wSign x ((5, s.1.2), s.2) = (if 48 ≤ x ∧ x ≤ 57 then (if x - 48 < 1 ∨ 6 < x - 48 then (2, ((5, s.1.2), s.2)) else (0, ((6, s.1.2.1, s.1.2.2.1, s.1.2.2.2.1, x - 48), s.2))) else (1, ((5, s.1.2), s.2))) := fun x => rfl
  refine ⟨r1, b_X13_readRepeat_4 (z_KT.of (d2 := d - 1) (by omega) (m_digit (s := ((5, s.1.2), s.2)) (by omega) gk N1 m1 eg1 (by omega) (by omega) (by omega) (by omega) (by show ¬ (5 : Int) = 0; omega) (fun x a b => by rw [sg1, if_pos a, if_neg (by omega)]) (fun x a b => by rw [sg1, if_pos a, if_pos (by omega)]) (fun x a => by rw [sg1, if_neg a])) ?_)⟩
  rintro out2 G2 h2 _ ⟨rfl, q2⟩
  rcases q2.symm with t | ⟨r2, vb, fs2, ⟨fl1, nl1, k1⟩, f2, ff2, m2, es2⟩
  · right
    exact ⟨99, t.1, z_Y.out rfl ⟨rfl, fr1.tr (t.2.1.imp fun a j w => wgP_w w), Or.inr ⟨rfl, wyT_s er1 t⟩⟩⟩
  left
  obtain ⟨v, ev⟩ : ∃ v, v = bB g f1' - 48 := ⟨_, rfl⟩
  rw [← ev] at r2 vb
  have e2 : (wSign (bB g f1') ((5, s.1.2), s.2)).2 = ((6, s.1.2.1, s.1.2.2.1, s.1.2.2.2.1, v), s.2) := by rw [sg1, if_pos (by omega), if_neg (by omega), ev]
  have iv2 := wSign_inv iv1 k1
  rw [e2] at iv2 es2
  have er2 := er1.trans es2
  have fr2 := fr1.tr (fs2.imp fun a j w => scP_w w)
  have eg2 : ∀ j, w8 (h2 100 j) = g j := fun j => by rw [fr2 100 j mwP_100]; exact eg j
  have mv2 := mV_fr mv1 (fs2.imp fun a j w => scP_19 w)
  obtain ⟨⟨x15, x16, x0, x1⟩, -⟩ := id m2
  have ig := isg gk (c := 123) m2 eg2 (by omega)
  have e19 : h2 88 19 = s.2.2.1 := mv2.2.1
  have sg2 : ∀ x : Int, wSign x ((6, s.1.2.1, s.1.2.2.1, s.1.2.2.2.1, v), s.2) = (if x = 123 then (if s.2.2.1 = 3 then (3, ((6, s.1.2.1, s.1.2.2.1, s.1.2.2.2.1, v), s.2)) else (0, ((0, s.1.2.1, s.1.2.2.1, s.1.2.2.2.1, v), s.2.1, (s.2.2.1 + 1, (fun i => if i = s.2.2.1 then s.2.1.1 else s.2.2.2.1 i), (fun i => if i = s.2.2.1 then v else s.2.2.2.2 i))))) else (1, ((6, s.1.2.1, s.1.2.2.1, s.1.2.2.2.1, v), s.2))) := fun x => rfl
  refine ⟨_, r2, b_X13_readRepeat_11 (by omega) m2.h18 (fun w => by have := m2.lt (by omega : ¬ h2 88 18 = 0); omega) (fun _ => by rw [e19]; exact ⟨by omega, by omega⟩) (fun c c2 => ?_) (fun c c2 => ?_) (fun c => ?_)⟩
  · obtain ⟨fl2, b123⟩ := ig.1 c
    have nl2 : ¬ (97 ≤ bB g f2 ∧ bB g f2 ≤ 122) := by omega
    obtain ⟨s3, es3⟩ : ∃ s3 : wS, s3 = ((0, s.1.2.1, s.1.2.2.1, s.1.2.2.2.1, v), s.2.1, (s.2.2.1 + 1, (fun i => if i = s.2.2.1 then s.2.1.1 else s.2.2.2.1 i), (fun i => if i = s.2.2.1 then v else s.2.2.2.2 i))) := ⟨_, rfl⟩
    have e3 : wSign (bB g f2) ((6, s.1.2.1, s.1.2.2.1, s.1.2.2.2.1, v), s.2) = (0, s3) := by rw [sg2, if_pos b123, if_neg (by omega), es3]
    obtain ⟨k17, er3⟩ := ok_sign m2 fl2 nl2 (s := ((6, s.1.2.1, s.1.2.2.1, s.1.2.2.2.1, v), s.2)) (by rw [e3])
    rw [e3] at er3
    have iv3 : wInv s3 := by
      have := wSign_inv (x := bB g f2) iv2 (by rw [e3])
      rw [e3] at this; exact this
    rw [e19]
    obtain ⟨H, eH⟩ : ∃ H, H = z_wr h2 88 19 (s.2.2.1 + 1) := ⟨_, rfl⟩
    rw [← eH]
    have frH : frB mwP h H := by rw [eH]; exact fr2.w (Or.inl ⟨rfl, by omega, by omega⟩)
    refine z_Kv.of (d2 := d - 1) (by omega) (m_scan (by omega) gk N1 (p := f2 + 1) (by omega) (by omega) (by rw [eH, w_nj (by omega)]; exact x15) (by rw [eH, w_nj (by omega)]; exact k17) (fun j => by rw [frH 100 j mwP_100]; exact eg j)) ?_
    rintro out3 G3 h3 _ ⟨r3, rfl, fs3, f3, ff3, m3, es3'⟩
    have fr3 := frH.tr (fs3.imp fun a j w => scP_w w)
    have er3' : wR g N f s = wR g N f3 s3 := (er2.trans er3).trans (es3' _)
    have mvH : mV s3 H := by
      rw [es3]
      refine ⟨?_, by rw [eH, w_s], by unfold fz; rw [eH, w_nj (by omega), w_nj (by omega)]; exact mv2.2.2⟩
      exact isV_B mv2.1 (h1 := H) (P := fun a _ => a = 88) (by rw [eH]; exact frB.rf.w rfl) (fun a j a1 a2 q => by omega)
    have mv3 := mV_fr mvH (fs3.imp fun a j w => scP_19 w)
    have e95 : h3 95 8 = s.2.1.1 := by have := mv3.1.1; rw [es3] at this; exact this
    have dp3 : s3.2.2.1 = dep + 1 := by rw [es3]; show s.2.2.1 + 1 = _; omega
    refine ⟨r3, b_X13_readRepeat_63 (z_KT.of (d2 := d - 1) (by omega) (rw' (by omega) f3 s3 h3 iv3 (by rw [es3]) dp3 mv3 m3 (fun j => by rw [fr3 100 j mwP_100]; exact eg j)) ?_)⟩
    rintro out4 G4 h4 _ ⟨rfl, fr4', q4⟩
    have fr4 := fr3.tr fr4'
    rcases q4.symm with ⟨r4, t4⟩ | ⟨r4, f4, s4, ⟨ff4, fe4⟩, st4, mv4, m4, er4⟩
    · right
      refine ⟨99, r4, z_Y.out rfl ⟨rfl, fr4, Or.inr ⟨rfl, ?_⟩⟩⟩
      unfold wyT at t4 ⊢
      rw [er3']; exact t4
    left
    refine ⟨none, r4, ?_⟩
    rw [e95]
    have eg4 : ∀ j, w8 (h4 100 j) = g j := fun j => by rw [fr4 100 j mwP_100]; exact eg j
    obtain ⟨⟨y15, y16, y0, y1⟩, ym⟩ := id m4
    have ig4 := isg gk (c := 125) m4 eg4 (by omega)
    have er4' := er3'.trans er4
    have d4 : s4.2.2.1 = s.2.2.1 + 1 := by rw [st4.1.2.2, es3]
    have b4 := st4.2 s.2.2.1 (by omega) (by rw [es3]; show s.2.2.1 < s.2.2.1 + 1; omega)
    rw [es3] at b4
    have b41 : s4.2.2.2.1 (s4.2.2.1 - 1) = s.2.1.1 := by
      rw [d4, show s.2.2.1 + 1 - 1 = s.2.2.1 by omega, b4.1]
      show (if s.2.2.1 = s.2.2.1 then _ else _) = _
      rw [if_pos rfl]
    have b42 : s4.2.2.2.2 (s4.2.2.1 - 1) = v := by
      rw [d4, show s.2.2.1 + 1 - 1 = s.2.2.1 by omega, b4.2]
      show (if s.2.2.1 = s.2.2.1 then _ else _) = _
      rw [if_pos rfl]
    have z4 := st4.1.1.2.2.2.2 (s4.2.2.1 - 1) (by omega) (by omega)
    have mb := mul_b z4.1.1 z4.1.2 st4.1.1.2.1.2.1 z4.2.1 z4.2.2
    have k95 : h4 95 8 = s4.2.1.1 := mv4.1.1
    have l12 := st4.1.1.2.1.2.1
    rw [b41, b42] at mb z4
    have cm : v * (s4.2.1.1 - s.2.1.1) = (s4.2.1.1 - s.2.1.1) * v := Int.mul_comm _ _
    have ec : wClose s4 = (if s.2.1.1 + (s4.2.1.1 - s.2.1.1) * v ≤ 12 then (0, (s4.1, rpW s4 (s.2.1.1 + (s4.2.1.1 - s.2.1.1) * v), (s4.2.2.1 - 1, s4.2.2.2))) else (3, s4)) := by
      unfold wClose rpW
      rw [b41, b42]
    have bad1 : ¬ (f4 < N ∧ bB g f4 = 125) → wBad g N f4 s4 1 := fun w => bad_end (by rcases fe4 with z | z; exact z; exact absurd z w) (Or.inr (by omega))
    refine b_X13_readRepeat_75 (by omega) m4.h18 (fun w => by have := m4.lt (by omega : ¬ h4 88 18 = 0); omega) (fun _ => by rw [k95, cm]; exact ⟨by omega, by omega⟩) (fun c c2 => ?_) (fun c c2 => ?_) (fun c => ?_)
    · obtain ⟨fl4, b125⟩ := ig4.1 c
      rw [k95] at c2 ⊢
      have nl4 : ¬ (97 ≤ bB g f4 ∧ bB g f4 ≤ 122) := by omega
      rw [if_pos (by rw [← cm]; exact c2)] at ec
      have e5 : wSign (bB g f4) s4 = (0, (s4.1, rpW s4 (s.2.1.1 + (s4.2.1.1 - s.2.1.1) * v), (s4.2.2.1 - 1, s4.2.2.2))) := by
        rw [← ec]
        unfold wSign
        rw [if_pos st4.1.2.1, if_pos ⟨b125, by omega⟩]
      obtain ⟨k17', er5⟩ := ok_sign m4 fl4 nl4 (s := s4) (by rw [e5])
      rw [e5, ← cm] at er5
      have iv5 := wSign_inv (x := bB g f4) st4.1.1 (by rw [e5])
      rw [e5, ← cm] at iv5
      have st5 : wSt s (s4.1, rpW s4 (s.2.1.1 + v * (s4.2.1.1 - s.2.1.1)), (s4.2.2.1 - 1, s4.2.2.2)) := by
        refine ⟨⟨iv5, st4.1.2.1, by show s4.2.2.1 - 1 = _; omega⟩, fun j j0 j1 => ?_⟩
        have q := st4.2 j j0 (by rw [es3]; show j < s.2.2.1 + 1; omega)
        rw [es3] at q
        refine ⟨q.1.trans ?_, q.2.trans ?_⟩
        · show (if j = s.2.2.1 then _ else _) = _
          rw [if_neg (by omega)]
        · show (if j = s.2.2.1 then _ else _) = _
          rw [if_neg (by omega)]
      have qq := l_rr127 (D := D) (d := d) (G := G4) (h0 := h4) (by omega) gk N1 (f := f) (s := s) st4.1.1 (by omega) b41.symm rfl b42.symm c2 y15 k17' eg4 y0 fl4 (by rw [mv4.2.1]) mv4.2.2 (er4'.trans er5) (by omega) st5 (v * (s4.2.1.1 - s.2.1.1) - (s4.2.1.1 - s.2.1.1)).toNat (s4.2.1.1 - s.2.1.1) h4 (by omega) (Int.le_refl _) frB.rf (fun j j0 j1 => by
        have w := mv4.1.2 j j0 (by omega)
        rw [show (12 : Int) * 8 + j = 96 + j by omega] at w
        show _ = (if j < s4.2.1.1 then s4.2.1.2 j else _) / 64 ∧ _ = (if j < s4.2.1.1 then s4.2.1.2 j else _) / 8 % 8 ∧ _ = (if j < s4.2.1.1 then s4.2.1.2 j else _) % 8
        rw [if_pos (by omega)]
        exact w)
      exact qq.mono fun o G' h' _ w => ⟨w.1, fr4.tr w.2.1, w.2.2⟩
    · obtain ⟨fl4, b125⟩ := ig4.1 c
      rw [k95] at c2
      rw [if_neg (by rw [← cm]; exact c2)] at ec
      rw [y16]
      have b := bad_tok (g := g) (kd := 3) (s := s4) fl4 (m4.nb fl4) (by
        unfold wTok wSign
        rw [if_neg (by omega), if_pos st4.1.2.1, if_pos ⟨b125, by omega⟩, ec]) (by decide)
      have t := sgT_w (h := h4) b (by decide)
      exact k_wrong (by omega) (b_X13_readRepeat_123 (by decide) ⟨rfl, fr4.tr (t.2.1.imp fun a j w => wgP_w w), Or.inr ⟨rfl, wyT_s er4' t⟩⟩)
    · rw [y16]
      have t := sgT_w (h := h4) (bad1 fun w => c (ig4.2 w)) (by decide)
      exact k_wrong (by omega) (b_X13_readRepeat_93 (by decide) ⟨rfl, fr4.tr (t.2.1.imp fun a j w => wgP_w w), Or.inr ⟨rfl, wyT_s er4' t⟩⟩)
  · obtain ⟨fl2, b123⟩ := ig.1 c
    rw [x16]
    have b := bad_tok (g := g) (kd := 3) (s := ((6, s.1.2.1, s.1.2.2.1, s.1.2.2.2.1, v), s.2)) fl2 (m2.nb fl2) (by
      unfold wTok
      rw [if_neg (by omega), sg2, if_pos b123, if_pos (by omega)]) (by decide)
    have t := sgT_w (h := h2) b (by decide)
    exact k_wrong (by omega) (b_X13_readRepeat_48 (by decide) ⟨rfl, fr2.tr (t.2.1.imp fun a j w => wgP_w w), Or.inr ⟨rfl, wyT_s er2 t⟩⟩)
  · rw [x16]
    have b := bad_one (g := g) (s := ((6, s.1.2.1, s.1.2.2.1, s.1.2.2.2.1, v), s.2)) x1 m2.nb (by show ¬ (6 : Int) = 0; omega) (fun fl2 nl2 => by
      rw [sg2, if_neg (fun q => c (ig.2 ⟨fl2, q⟩))])
    have t := sgT_w (h := h2) b (by decide)
    exact k_wrong (by omega) (b_X13_readRepeat_30 (by decide) ⟨rfl, fr2.tr (t.2.1.imp fun a j w => wgP_w w), Or.inr ⟨rfl, wyT_s er2 t⟩⟩)
theorem l_rw0 (hd : 8 ≤ d) {g : Int → Int} (gk : gOk g) {N dep f : Int} {s : wS} (N1 : N ≤ 1000) (rr : RRok D G g N (d - 1) dep) (es0 : s.2.2.1 = dep) (eg0 : ∀ j, w8 (h0 100 j) = g j) : ∀ (m : Nat) (f1 : Int) (s1 : wS) (h : zH), N - f1 ≤ m → f ≤ f1 → wSt s s1 → mV s1 h → mH g N f1 h → wR g N f s = wR g N f1 s1 → frB mwP h0 h →
    z_Y D M_X13_readWay d 0 [(0, 2, 88)] [] G h (wyQ g N f s (rwE g N f) G h0) := by
  intro m
  induction m with
  | zero =>
    intro f1 s1 h e ff st mv mh er fr
    obtain ⟨⟨e15, e16, f0, f1n⟩, mm⟩ := id mh
    have k18 : h 88 18 = 0 := by
      rcases mm with w | w
      · exact w.2.1
      · omega
    exact b_X13_readWay_0 (by omega) mh.h18 (fun c => absurd k18 c) (fun _ => ⟨rfl, fr, Or.inl ⟨rfl, f1, s1, ⟨ff, Or.inl (by omega)⟩, st, mv, mh, er⟩⟩) (fun c => absurd k18 c) (fun c => absurd k18 c)
  | succ m ih =>
    intro f1 s1 h e ff st mv mh er fr
    obtain ⟨⟨e15, e16, f0, f1n⟩, mm⟩ := id mh
    have eg : ∀ j, w8 (h 100 j) = g j := fun j => by rw [fr 100 j mwP_100]; exact eg0 j
    have ig := isg gk (c := 125) mh eg (by omega)
    refine b_X13_readWay_0 (by omega) mh.h18 (fun c w => by have := mh.lt c; omega) (fun c => ⟨rfl, fr, Or.inl ⟨rfl, f1, s1, ⟨ff, Or.inl ?_⟩, st, mv, mh, er⟩⟩) (fun _ c => ⟨rfl, fr, Or.inl ⟨rfl, f1, s1, ⟨ff, Or.inr (ig.1 c)⟩, st, mv, mh, er⟩⟩) (fun c c2 => ?_)
    · rcases mm with w | w
      · exact w.1
      · rw [w.2.2.2] at c; exact absurd c (hkd_0 _)
    obtain ⟨fl, -⟩ := mh.lt c
    refine z_Ki.of (d2 := d - 1) (by omega) (m_sah (by omega) gk N1 mh eg) ?_
    rintro out G' h' _ ⟨r1, rfl, rfl⟩
    refine ⟨_, r1, ?_⟩
    have nx : ∀ (G1 : zG) (h2 : zH), G1 = G' → frB mwP h' h2 → wyO g N f1 s1 (fun f' => f1 < f') h2 → z_Y D M_X13_readWay d 0 [(0, 2, 88)] [] G1 h2 (wyQ g N f s (rwE g N f) G' h0) := by
      rintro G1 h2 rfl fr2 ⟨f2, s2, ff2, st2, mv2, mh2, er2⟩
      have ff2 : f1 < f2 := ff2
      exact ih f2 s2 h2 (by omega) (by omega) (st.tr st2) mv2 mh2 (er.trans er2) (fr.tr fr2)
    have rgw := wNo_rg (g := g) (p := f1) (e := tEnd g N f1) 15 1 (by omega) (by omega)
    by_cases lt : 97 ≤ bB g f1 ∧ bB g f1 ≤ 122
    · have es : sah g N f1 = (if wNo g f1 (tEnd g N f1) 15 1 = -1 then 0 else wNo g f1 (tEnd g N f1) 15 1) := by unfold sah; rw [if_pos ⟨fl, lt⟩]
      by_cases w0 : wNo g f1 (tEnd g N f1) 15 1 = -1
      · rw [if_pos w0] at es
        rw [es]
        refine b_X13_readWay_20 ⟨by omega, by omega⟩ (fun c => absurd rfl c) (fun c => absurd rfl c) (fun _ => ?_)
        rw [e16]
        have b := bad_tok (g := g) (kd := 1) (s := s1) fl (mh.nb fl) (by
          unfold wTok wWord
          rw [if_pos lt, if_pos (Or.inr w0)]) (by decide)
        have t := sgT_w (h := h') b (by decide)
        exact k_wrong (by omega) (b_X13_readWay_34 (by decide) ⟨rfl, fr.tr (t.2.1.imp fun a j w => wgP_w w), Or.inr ⟨rfl, wyT_s er t⟩⟩)
      · rw [if_neg w0] at es
        rw [es]
        refine b_X13_readWay_20 ⟨by omega, by omega⟩ (fun c1 c3 => ?_) (fun c1 c3 => ?_) (fun c1 => absurd (Classical.not_not.mp c1) (by omega))
        · refine z_KT.of (d2 := d - 1) (by omega) (m_readStep (by omega) gk N1 st.1.1 st.1.2.1 mv mh eg fl lt rfl (by omega) (by omega)) ?_
          rintro out2 G2 h2 _ ⟨e2, fr2, q⟩
          rcases q with ⟨r2, q⟩ | ⟨r2, q⟩
          · exact Or.inl ⟨none, r2, b_X13_readWay_53 (nx G2 h2 e2 fr2 q)⟩
          · refine Or.inr ⟨99, r2, z_Y.out rfl ⟨e2, fr.tr fr2, Or.inr ⟨rfl, ?_⟩⟩⟩
            unfold wyT at q ⊢
            rw [er]; exact q
        · refine z_KT.of (d2 := d - 1) (by omega) (rr f1 s1 h' st.1.1 st.1.2.1 (st.1.2.2.trans es0) mv mh eg fl lt (Classical.not_not.mp c3)) ?_
          rintro out2 G2 h2 _ ⟨e2, fr2, q⟩
          rcases q with ⟨r2, q⟩ | ⟨r2, q⟩
          · exact Or.inl ⟨none, r2, b_X13_readWay_45 (nx G2 h2 e2 fr2 q)⟩
          · refine Or.inr ⟨99, r2, z_Y.out rfl ⟨e2, fr.tr fr2, Or.inr ⟨rfl, ?_⟩⟩⟩
            unfold wyT at q ⊢
            rw [er]; exact q
    · have es : sah g N f1 = 0 := by unfold sah; rw [if_neg (fun w => lt w.2)]
      rw [es]
      refine b_X13_readWay_20 ⟨by omega, by omega⟩ (fun c => absurd rfl c) (fun c => absurd rfl c) (fun _ => ?_)
      rw [e16]
      have n125 : ¬ bB g f1 = 125 := fun w => c2 (ig.2 ⟨fl, w⟩)
      have b := bad_tok (g := g) (kd := 1) (s := s1) fl (mh.nb fl) (by
        unfold wTok wSign
        rw [if_neg lt, if_pos st.1.2.1, if_neg (fun w => n125 w.1)]) (by decide)
      have t := sgT_w (h := h') b (by decide)
      exact k_wrong (by omega) (b_X13_readWay_34 (by decide) ⟨rfl, fr.tr (t.2.1.imp fun a j w => wgP_w w), Or.inr ⟨rfl, wyT_s er t⟩⟩)
theorem rw_of (hd : 8 ≤ d) {g : Int → Int} (gk : gOk g) {N dep : Int} (N1 : N ≤ 1000) (rr : RRok D G g N (d - 1) dep) : RWok D G g N d dep := by
  intro f s h i du ed mv m eg
  have sr : wSt s s := ⟨⟨i, du, rfl⟩, fun _ _ _ => ⟨rfl, rfl⟩⟩
  exact z_begin mo_X13_readWay rfl (nle rfl) (l_rw0 hd gk N1 rr ed eg (N - f).toNat f s h (by omega) (Int.le_refl _) sr mv m rfl frB.rf)
theorem m_readWay (hd : 14 ≤ d) {g : Int → Int} (gk : gOk g) {N : Int} (N1 : N ≤ 1000) : RWok D G g N d 0 := by
  have a3 : RWok D G g N (d - 6) 3 := rw_of (by omega) gk N1 (rr_of (by omega) gk N1 (fun w => by omega))
  have a2 : RWok D G g N (d - 4) 2 := rw_of (by omega) gk N1 (rr_of (by omega) gk N1 (fun _ => by have := a3; rw [show d - 6 = d - 4 - 1 - 1 by omega] at this; exact this))
  have a1 : RWok D G g N (d - 2) 1 := rw_of (by omega) gk N1 (rr_of (by omega) gk N1 (fun _ => by have := a2; rw [show d - 4 = d - 2 - 1 - 1 by omega] at this; exact this))
  exact rw_of (by omega) gk N1 (rr_of (by omega) gk N1 (fun _ => by have := a1; rw [show d - 2 = d - 1 - 1 by omega] at this; exact this))
end Wm5
