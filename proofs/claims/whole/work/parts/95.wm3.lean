section Wm4
variable {D : zD} {d : Nat} {G : zG} {h h0 h1 h2 : zH} {Q : zO → zG → zH → Prop}
/-! steps, repeats, ways -/
def fz (h : zH) : Prop := h 88 20 = 0 ∧ h 88 21 = -1
def mV (s : wS) (h : zH) : Prop := isV h 8 s.2.1 ∧ h 88 19 = s.2.2.1 ∧ fz h
def mD (s : wS) (h : zH) : Prop := h 95 8 = s.2.1.1 + 1 ∧ (∀ i : Int, 0 ≤ i → i < s.2.1.1 → h 96 (96 + i) = s.2.1.2 i / 64 ∧ h 97 (96 + i) = s.2.1.2 i / 8 % 8 ∧ h 98 (96 + i) = s.2.1.2 i % 8) ∧ (h 96 (96 + s.2.1.1) = s.1.2.1 ∧ h 97 (96 + s.2.1.1) = s.1.2.2.1 ∧ h 98 (96 + s.2.1.1) = s.1.2.2.2.1) ∧ h 88 19 = s.2.2.1 ∧ fz h
def mwP (a j : Int) : Prop := (a = 88 ∧ 16 ≤ j ∧ j ≤ 21) ∨ (a = 95 ∧ j = 8) ∨ ((96 ≤ a ∧ a ≤ 98) ∧ 96 ≤ j)
theorem scP_w {a j : Int} (q : scP a j) : mwP a j := by unfold scP at q; unfold mwP; omega
theorem wgP_w {a j : Int} (q : wgP a j) : mwP a j := by unfold wgP at q; unfold mwP; omega
def wSt (s s' : wS) : Prop := (wInv s' ∧ s'.1.1 = 0 ∧ s'.2.2.1 = s.2.2.1) ∧ ∀ i : Int, 0 ≤ i → i < s.2.2.1 → s'.2.2.2.1 i = s.2.2.2.1 i ∧ s'.2.2.2.2 i = s.2.2.2.2 i
theorem wSt.tr {s s1 s2 : wS} (a : wSt s s1) (b : wSt s1 s2) : wSt s s2 := ⟨⟨b.1.1, b.1.2.1, b.1.2.2.trans a.1.2.2⟩, fun i i0 i1 => ⟨(b.2 i i0 (by rw [a.1.2.2]; exact i1)).1.trans (a.2 i i0 i1).1, (b.2 i i0 (by rw [a.1.2.2]; exact i1)).2.trans (a.2 i i0 i1).2⟩⟩
def wyO (g : Int → Int) (N f : Int) (s : wS) (P : Int → Prop) (h' : zH) : Prop := ∃ f' s', P f' ∧ wSt s s' ∧ mV s' h' ∧ mH g N f' h' ∧ wR g N f s = wR g N f' s'
def wyT (g : Int → Int) (N f : Int) (s : wS) (h' : zH) : Prop := ¬ (wR g N f s).1 = 0 ∧ h' 88 20 = (wR g N f s).1 ∧ h' 88 21 = (wR g N f s).2.1
def wyQ (g : Int → Int) (N f : Int) (s : wS) (P : Int → Prop) (G : zG) (h : zH) : zO → zG → zH → Prop := fun out G' h' => G' = G ∧ frB mwP h h' ∧ ((out = .inl none ∧ wyO g N f s P h') ∨ (out = .inr 99 ∧ wyT g N f s h'))
theorem wyT_s {g : Int → Int} {N f f1 : Int} {s s1 : wS} {out : zO} (e : wR g N f s = wR g N f1 s1) (t : sgT g N f1 s1 out h h1) : wyT g N f s h1 := by
  unfold wyT
  rw [e]
  exact t.2.2
theorem mwP_100 {j : Int} : ¬ mwP 100 j := by unfold mwP; omega
theorem mD_fr {s : wS} (k : mD s h) (f : frB (fun a j => a = 88 ∧ ¬ (19 ≤ j ∧ j ≤ 21)) h h1) : mD s h1 := by
  obtain ⟨a, b, c, e⟩ := k
  refine ⟨by rw [f 95 8 (by omega)]; exact a, fun i i0 i1 => by rw [f 96 _ (by omega), f 97 _ (by omega), f 98 _ (by omega)]; exact b i i0 i1, by rw [f 96 _ (by omega), f 97 _ (by omega), f 98 _ (by omega)]; exact c, by rw [f 88 19 (by omega)]; exact e.1, by unfold fz; rw [f 88 20 (by omega), f 88 21 (by omega)]; exact e.2⟩
theorem scP_19 {a j : Int} (q : scP a j) : a = 88 ∧ ¬ (19 ≤ j ∧ j ≤ 21) := by unfold scP at q; omega
theorem mV_fr {s : wS} (k : mV s h) (f : frB (fun a j => a = 88 ∧ ¬ (19 ≤ j ∧ j ≤ 21)) h h1) : mV s h1 := ⟨isV_B k.1 f (fun a j a1 a2 q => by omega), by rw [f 88 19 (by omega)]; exact k.2.1, by unfold fz; rw [f 88 20 (by omega), f 88 21 (by omega)]; exact k.2.2⟩
theorem zfm_t {n : Int} (n1 : 1 ≤ n) (n2 : n ≤ 14) : (zfm n = 0 ↔ (n = 1 ∨ n = 7 ∨ n = 9 ∨ n = 13)) ∧ (zfm n = 2 ↔ (n = 3 ∨ n = 5)) ∧ (zfm n = 3 ↔ n = 11) := by
  have : n = 1 ∨ n = 2 ∨ n = 3 ∨ n = 4 ∨ n = 5 ∨ n = 6 ∨ n = 7 ∨ n = 8 ∨ n = 9 ∨ n = 10 ∨ n = 11 ∨ n = 12 ∨ n = 13 ∨ n = 14 := by omega
  rcases this with rfl | rfl | rfl | rfl | rfl | rfl | rfl | rfl | rfl | rfl | rfl | rfl | rfl | rfl <;> decide
/-- the end of a step: its semicolon -/
theorem l_rs142 (hd : 6 ≤ d) {g : Int → Int} (gk : gOk g) {N f f4 : Int} {s s4 : wS} (N1 : N ≤ 1000) (i4 : wInv s4) (du : s4.1.1 = 4) (md : mD s4 h) (m : mH g N f4 h) (eg : ∀ j, w8 (h 100 j) = g j) (er : wR g N f s = wR g N f4 s4) (ff : f < f4) (e22 : s4.2.2 = s.2.2) (fr : frB mwP h0 h) :
    z_Y D M_X13_readStep d 142 [(0, 2, 88)] [] G h (wyQ g N f s (fun f' => f < f') G h0) := by
  refine b_X13_readStep_142 (z_KT.of (d2 := d - 1) (by omega) (m_need (by omega) gk N1 m eg du) ?_)
  rintro out G' h' _ ⟨rfl, q⟩
  have e59 : wSign 59 s4 = (0, ((0, s4.1.2), (s4.2.1.1 + 1, fun i => if i = s4.2.1.1 then zco s4.1.2.1 s4.1.2.2.1 s4.1.2.2.2.1 else s4.2.1.2 i), s4.2.2)) := by
    unfold wSign
    rw [if_neg (by omega), if_neg (by omega), if_neg (by omega), if_neg (by omega), if_pos du, if_pos rfl]
  rcases q with ⟨r1, b59, fs, -, f', ff', m', es⟩ | t
  · left
    refine ⟨none, r1, b_X13_readStep_148 ⟨rfl, fr.tr (fs.imp fun a j w => scP_w w), Or.inl ⟨rfl, f', (wSign 59 s4).2, by omega, ?_, ?_, m', by rw [← b59]; exact er.trans es⟩⟩⟩
    · have iv := wSign_inv (x := 59) i4 (by rw [e59])
      refine ⟨⟨iv, by rw [e59], by rw [e59]; show s4.2.2.1 = _; rw [e22]⟩, fun i i0 i1 => ?_⟩
      rw [e59]
      show s4.2.2.2.1 i = _ ∧ s4.2.2.2.2 i = _
      rw [e22]; exact ⟨rfl, rfl⟩
    · have md' := mD_fr md (fs.imp fun a j w => scP_19 w)
      obtain ⟨a, b, c, e⟩ := md'
      obtain ⟨j1, j2, j3, j4, j5⟩ := id i4
      have z := j3 (by omega)
      have zb := zco_b (n := s4.1.2.1) (a := s4.1.2.2.1) (b := s4.1.2.2.2.1) (by omega) (by omega)
      rw [e59]
      refine ⟨⟨a, fun i i0 i1 => ?_⟩, e⟩
      have i1 : i < s4.2.1.1 + 1 := i1
      show h' 96 (12 * 8 + i) = (if i = s4.2.1.1 then _ else _) / 64 ∧ h' 97 (12 * 8 + i) = (if i = s4.2.1.1 then _ else _) / 8 % 8 ∧ h' 98 (12 * 8 + i) = (if i = s4.2.1.1 then _ else _) % 8
      rw [show (12 : Int) * 8 + i = 96 + i by omega]
      by_cases ei : i = s4.2.1.1
      · rw [if_pos ei, ei, zb.1, zb.2.1, zb.2.2]; exact c
      · rw [if_neg ei]; exact b i i0 (by omega)
  · right
    exact ⟨99, t.1, z_Y.out rfl ⟨rfl, fr.tr (t.2.1.imp fun a j w => wgP_w w), Or.inr ⟨rfl, wyT_s er t⟩⟩⟩
theorem m_readStep (hd : 7 ≤ d) {g : Int → Int} (gk : gOk g) {N f n : Int} {s : wS} (N1 : N ≤ 1000) (i : wInv s) (du : s.1.1 = 0) (mv : mV s h) (m : mH g N f h) (eg : ∀ j, w8 (h 100 j) = g j) (fl : f < N) (lt : 97 ≤ bB g f ∧ bB g f ≤ 122) (wn : wNo g f (tEnd g N f) 15 1 = n) (n1 : 1 ≤ n) (n2 : n ≤ 14) :
    z_CY D M_X13_readStep d [(2, 88), (0, n)] G h (wyQ g N f s (fun f' => f < f') G h) := by
  obtain ⟨⟨e15, e16, f0, f1⟩, mm⟩ := id m
  obtain ⟨i1, i2, i3, i4, i5⟩ := id i
  have l0 := i2.1
  have l1 := i2.2.1
  have e95 : h 95 8 = s.2.1.1 := mv.1.1
  have te := tEnd_rg (g := g) fl
  have zt := zfm_t n1 n2
  have ek : wTok g N f s = wWord n s := by unfold wTok; rw [if_pos lt, wn]
  have e17 : h 88 17 = tEnd g N f := by
    rcases mm with w | w
    · omega
    · exact w.2.2.1
  have ew : wWord n s = (if s.2.1.1 = 12 then (3, s) else (0, ((if zfm n = 0 then 4 else 1, n, 0, 0, s.1.2.2.2.2), s.2))) := by
    unfold wWord
    rw [if_neg (by omega), if_neg (by omega)]
  refine z_begin mo_X13_readStep rfl (nle rfl) (b_X13_readStep_0 (by rw [e95]; exact ⟨by omega, by omega⟩) (fun _ => by omega) (fun _ => by omega) (fun c => ?_) (fun c => ?_))
  · rw [e95] at c ⊢
    rw [if_neg c] at ew
    obtain ⟨s1, es1⟩ : ∃ s1 : wS, s1 = ((if zfm n = 0 then 4 else 1, n, 0, 0, s.1.2.2.2.2), s.2) := ⟨_, rfl⟩
    rw [← es1] at ew
    have iv1 : wInv s1 := by
      have := wWord_inv (w := n) i (Or.inr (by omega)) (by rw [ew])
      rw [ew] at this; exact this
    have er1 : wR g N f s = wR g N (tEnd g N f) s1 := by
      rw [wR_tok fl (m.nb fl) (by rw [ek, ew]), ek, ew]
    obtain ⟨H, eH⟩ : ∃ H, H = z_wr (z_wr (z_wr (z_wr h 95 8 (s.2.1.1 + 1)) 96 (96 + s.2.1.1) n) 97 (96 + s.2.1.1) 0) 98 (96 + s.2.1.1) 0 := ⟨_, rfl⟩
    rw [← eH]
    have fH : frB mwP h H := by
      rw [eH]
      exact (((frB.rf.w (Or.inr (Or.inl ⟨rfl, rfl⟩))).w (Or.inr (Or.inr ⟨⟨by omega, by omega⟩, by omega⟩))).w (Or.inr (Or.inr ⟨⟨by omega, by omega⟩, by omega⟩))).w (Or.inr (Or.inr ⟨⟨by omega, by omega⟩, by omega⟩))
    have h88 : ∀ j, H 88 j = h 88 j := fun j => by rw [eH, w_na (by omega), w_na (by omega), w_na (by omega), w_na (by omega)]
    have egH : ∀ j, w8 (H 100 j) = g j := fun j => by rw [fH 100 j mwP_100]; exact eg j
    have mdH : mD s1 H := by
      rw [es1]
      refine ⟨by rw [eH, w_na (by omega), w_na (by omega), w_na (by omega), w_s], fun j j0 j1 => ?_, ⟨by rw [eH, w_na (by omega), w_na (by omega), w_s], by rw [eH, w_na (by omega), w_s], by rw [eH, w_s]⟩, by rw [h88]; exact mv.2.1, by unfold fz; rw [h88, h88]; exact mv.2.2⟩
      have j1 : j < s.2.1.1 := j1
      have q := mv.1.2 j j0 j1
      rw [show (12 : Int) * 8 + j = 96 + j by omega] at q
      rw [eH]
      exact ⟨by rw [w_na (by omega), w_na (by omega), w_nj (by omega), w_na (by omega)]; exact q.1, by rw [w_na (by omega), w_nj (by omega), w_na (by omega), w_na (by omega)]; exact q.2.1, by rw [w_nj (by omega), w_na (by omega), w_na (by omega), w_na (by omega)]; exact q.2.2⟩
    refine z_Kv.of (d2 := d - 1) (by omega) (m_scan (by omega) gk N1 (p := tEnd g N f) (by omega) (by omega) (by rw [h88]; exact e15) (by rw [h88]; exact e17) egH) ?_
    rintro out G' h1 _ ⟨r1, rfl, fs, f1', ff1, m1, es'⟩
    have fr1 : frB mwP h h1 := fH.tr (fs.imp fun a j w => scP_w w)
    have er1' : wR g N f s = wR g N f1' s1 := er1.trans (es' _)
    have md1 := mD_fr mdH (fs.imp fun a j w => scP_19 w)
    have eg1 : ∀ j, w8 (h1 100 j) = g j := fun j => by rw [fr1 100 j mwP_100]; exact eg j
    refine ⟨r1, ?_⟩
    -- behind the numbers
    have g124 : ∀ (s3 : wS) (h3 : zH) (f3 : Int), wInv s3 → s3.1.1 = (if n = 11 then 2 else 4) → s3.1.2.1 = n → s3.2 = s.2 → mD s3 h3 → mH g N f3 h3 → wR g N f s = wR g N f3 s3 → f < f3 → frB mwP h h3 → z_Y D M_X13_readStep d 124 [(0, 2, 88), (1, 0, n), (2, 0, 96 + s.2.1.1)] [] G' h3 (wyQ g N f s (fun f' => f < f') G' h) := by
      intro s3 h3 f3 iv3 d3 n3 e3 md3 m3 er3 ff3 fr3
      have eg3 : ∀ j, w8 (h3 100 j) = g j := fun j => by rw [fr3 100 j mwP_100]; exact eg j
      refine b_X13_readStep_124 ⟨by omega, by omega⟩ (fun c => l_rs142 (by omega) gk N1 iv3 (by rw [d3, if_neg c]) md3 m3 eg3 er3 ff3 (by rw [e3]) fr3) (fun c => ?_)
      have c := Classical.not_not.mp c
      have d3 : s3.1.1 = 2 := by rw [d3, if_pos c]
      have sg : ∀ x : Int, wSign x s3 = (if 48 ≤ x ∧ x ≤ 57 then (if x - 48 ≤ 5 then (0, ((4, s3.1.2.1, s3.1.2.2.1, x - 48, s3.1.2.2.2.2), s3.2)) else (2, s3)) else (1, s3)) := fun x => by
        unfold wSign
        rw [if_neg (by omega), if_neg (by omega), if_pos d3]
      refine z_KT.of (d2 := d - 1) (by omega) (m_digit (s := s3) (by omega) gk N1 m3 eg3 (by omega) (by omega) (by omega) (by omega) (by omega) (fun x a b => by rw [sg, if_pos a, if_pos b.2]) (fun x a b => by rw [sg, if_pos a, if_neg (by omega)]) (fun x a => by rw [sg, if_neg a])) ?_
      rintro out2 G2 h4 _ ⟨rfl, q⟩
      rcases q with ⟨r4, vb, fs4, ⟨fl4, nl4, k4⟩, f4, ff4, m4, es4⟩ | t
      · left
        have dg : 48 ≤ bB g f3 ∧ bB g f3 ≤ 57 := by omega
        have e4 : (wSign (bB g f3) s3).2 = ((4, s3.1.2.1, s3.1.2.2.1, bB g f3 - 48, s3.1.2.2.2.2), s3.2) := by rw [sg, if_pos dg, if_pos (by omega)]
        have iv4 := wSign_inv iv3 k4
        have md4 := mD_fr md3 (fs4.imp fun a j w => scP_19 w)
        rw [e4] at es4 iv4
        refine ⟨_, r4, b_X13_readStep_141 (by omega) (by omega) ?_⟩
        have fr4 := fr3.tr (fs4.imp fun a j w => scP_w w)
        have m4' : mH g N f4 (z_wr h4 98 (96 + s.2.1.1) (bB g f3 - 48)) := by
          obtain ⟨⟨x1, x2, x3⟩, x4⟩ := m4
          refine ⟨⟨by rw [w_na (by omega)]; exact x1, by rw [w_na (by omega)]; exact x2, x3⟩, ?_⟩
          rw [w_na (by omega), w_na (by omega)]; exact x4
        refine l_rs142 (by omega) gk N1 iv4 rfl ?_ m4' (fun j => by rw [w_na (by omega), fr4 100 j mwP_100]; exact eg j) (er3.trans es4) (by omega) (by show s3.2.2 = _; rw [e3]) (fr4.w (Or.inr (Or.inr ⟨⟨by omega, by omega⟩, by omega⟩)))
        obtain ⟨x1, x2, x3, x4⟩ := md4
        have eL : s3.2.1.1 = s.2.1.1 := by rw [e3]
        refine ⟨by rw [w_na (by omega)]; exact x1, fun j j0 j1 => ?_, ⟨by rw [w_na (by omega)]; exact x3.1, by rw [w_na (by omega)]; exact x3.2.1, ?_⟩, by rw [w_na (by omega)]; exact x4.1, by unfold fz; rw [w_na (by omega), w_na (by omega)]; exact x4.2⟩
        · have j1 : j < s3.2.1.1 := j1
          rw [w_na (by omega), w_na (by omega), w_nj (by omega)]; exact x2 j j0 j1
        · show z_wr h4 98 (96 + s.2.1.1) (bB g f3 - 48) 98 (96 + s3.2.1.1) = bB g f3 - 48
          rw [eL, w_s]
      · right
        exact ⟨99, t.1, z_Y.out rfl ⟨rfl, fr3.tr (t.2.1.imp fun a j w => wgP_w w), Or.inr ⟨rfl, wyT_s er3 t⟩⟩⟩
    have g104 : ∀ (s2 : wS) (h2 : zH) (f2 : Int), wInv s2 → s2.1.1 = (if n = 3 ∨ n = 5 then 3 else if n = 11 then 2 else 4) → s2.1.2.1 = n → s2.2 = s.2 → mD s2 h2 → mH g N f2 h2 → wR g N f s = wR g N f2 s2 → f < f2 → frB mwP h h2 → z_Y D M_X13_readStep d 104 [(0, 2, 88), (1, 0, n), (2, 0, 96 + s.2.1.1)] [] G' h2 (wyQ g N f s (fun f' => f < f') G' h) := by
      intro s2 h2 f2 iv2 d2 n2' e2 md2 m2 er2 ff2 fr2
      have eg2 : ∀ j, w8 (h2 100 j) = g j := fun j => by rw [fr2 100 j mwP_100]; exact eg j
      have g114 : n = 3 ∨ n = 5 → z_Y D M_X13_readStep d 114 [(0, 2, 88), (1, 0, n), (2, 0, 96 + s.2.1.1)] [] G' h2 (wyQ g N f s (fun f' => f < f') G' h) := by
        intro n35
        have d2 : s2.1.1 = 3 := by rw [d2, if_pos n35]
        have sg : ∀ x : Int, wSign x s2 = (if zmk x = -1 then (1, s2) else (0, ((4, s2.1.2.1, s2.1.2.2.1, zmk x, s2.1.2.2.2.2), s2.2))) := fun x => by
          unfold wSign
          rw [if_neg (by omega), if_neg (by omega), if_neg (by omega), if_pos d2]
        refine b_X13_readStep_114 (z_KT.of (d2 := d - 1) (by omega) (m_mark (by omega) gk N1 m2 eg2 d2) ?_)
        rintro out2 G2 h4 _ ⟨rfl, q⟩
        rcases q with ⟨r4, fs4, ⟨fl4, nl4, k4⟩, f4, ff4, m4, es4⟩ | t
        · left
          have mk : ¬ zmk (bB g f2) = -1 := fun w => by rw [sg, if_pos w] at k4; cases k4
          have e4 : (wSign (bB g f2) s2).2 = ((4, s2.1.2.1, s2.1.2.2.1, zmk (bB g f2), s2.1.2.2.2.2), s2.2) := by rw [sg, if_neg mk]
          have iv4 := wSign_inv iv2 k4
          have md4 := mD_fr md2 (fs4.imp fun a j w => scP_19 w)
          rw [e4] at es4 iv4
          refine ⟨_, r4, b_X13_readStep_123 (by omega) (by omega) ?_⟩
          have fr4 := fr2.tr (fs4.imp fun a j w => scP_w w)
          have m4' : mH g N f4 (z_wr h4 98 (96 + s.2.1.1) (zmk (bB g f2))) := by
            obtain ⟨⟨x1, x2, x3⟩, x4⟩ := m4
            refine ⟨⟨by rw [w_na (by omega)]; exact x1, by rw [w_na (by omega)]; exact x2, x3⟩, ?_⟩
            rw [w_na (by omega), w_na (by omega)]; exact x4
          have eL : s2.2.1.1 = s.2.1.1 := by rw [e2]
          refine g124 _ _ f4 iv4 (by rw [if_neg (by omega)]) n2' e2 ?_ m4' (er2.trans es4) (by omega) (fr4.w (Or.inr (Or.inr ⟨⟨by omega, by omega⟩, by omega⟩)))
          obtain ⟨x1, x2, x3, x4⟩ := md4
          refine ⟨by rw [w_na (by omega)]; exact x1, fun j j0 j1 => ?_, ⟨by rw [w_na (by omega)]; exact x3.1, by rw [w_na (by omega)]; exact x3.2.1, ?_⟩, by rw [w_na (by omega)]; exact x4.1, by unfold fz; rw [w_na (by omega), w_na (by omega)]; exact x4.2⟩
          · have j1 : j < s2.2.1.1 := j1
            rw [w_na (by omega), w_na (by omega), w_nj (by omega)]; exact x2 j j0 j1
          · show z_wr h4 98 (96 + s.2.1.1) (zmk (bB g f2)) 98 (96 + s2.2.1.1) = zmk (bB g f2)
            rw [eL, w_s]
        · right
          exact ⟨99, t.1, z_Y.out rfl ⟨rfl, fr2.tr (t.2.1.imp fun a j w => wgP_w w), Or.inr ⟨rfl, wyT_s er2 t⟩⟩⟩
      refine b_X13_readStep_104 ⟨by omega, by omega⟩ (fun c => g114 (Or.inl c)) (fun c c2 => g124 s2 h2 f2 iv2 ?_ n2' e2 md2 m2 er2 ff2 fr2) (fun _ c => g114 (Or.inr (Classical.not_not.mp c)))
      rw [d2, if_neg (by omega)]
    have plain : (n = 1 ∨ n = 7 ∨ n = 9 ∨ n = 13) → z_Y D M_X13_readStep d 104 [(0, 2, 88), (1, 0, n), (2, 0, 96 + s.2.1.1)] [] G' h1 (wyQ g N f s (fun f' => f < f') G' h) := fun w => by
      refine g104 s1 h1 f1' iv1 ?_ (by rw [es1]) (by rw [es1]) md1 m1 er1' (by omega) fr1
      rw [es1]
      show (if zfm n = 0 then (4 : Int) else 1) = _
      rw [if_pos (zt.1.2 w), if_neg (by omega), if_neg (by omega)]
    refine b_X13_readStep_69 ⟨by omega, by omega⟩ (fun c => plain (by omega)) (fun _ c => plain (by omega)) (fun _ _ c => plain (by omega)) (fun _ _ _ c => plain (by omega)) (fun c1 c2 c3 c4 => ?_)
    have z0 : ¬ zfm n = 0 := fun w => by have := zt.1.1 w; omega
    have d1 : s1.1.1 = 1 := by rw [es1]; show (if zfm n = 0 then (4 : Int) else 1) = 1; rw [if_neg z0]
    have sg : ∀ x : Int, wSign x s1 = (if 48 ≤ x ∧ x ≤ 57 then (if x - 48 ≤ 5 then (0, ((if zfm s1.1.2.1 = 2 then 3 else if zfm s1.1.2.1 = 3 then 2 else 4, s1.1.2.1, x - 48, s1.1.2.2.2.1, s1.1.2.2.2.2), s1.2)) else (2, s1)) else (1, s1)) := fun x => by
      unfold wSign
      rw [if_neg (by omega), if_pos d1]
    refine z_KT.of (d2 := d - 1) (by omega) (m_digit (s := s1) (by omega) gk N1 m1 eg1 (by omega) (by omega) (by omega) (by omega) (by omega) (fun x a b => by rw [sg, if_pos a, if_pos b.2]) (fun x a b => by rw [sg, if_pos a, if_neg (by omega)]) (fun x a => by rw [sg, if_neg a])) ?_
    rintro out2 G2 h4 _ ⟨rfl, q⟩
    rcases q with ⟨r4, vb, fs4, ⟨fl4, nl4, k4⟩, f4, ff4, m4, es4⟩ | t
    · left
      have dg : 48 ≤ bB g f1' ∧ bB g f1' ≤ 57 := by omega
      have e4 : (wSign (bB g f1') s1).2 = ((if zfm s1.1.2.1 = 2 then 3 else if zfm s1.1.2.1 = 3 then 2 else 4, s1.1.2.1, bB g f1' - 48, s1.1.2.2.2.1, s1.1.2.2.2.2), s1.2) := by rw [sg, if_pos dg, if_pos (by omega)]
      have iv4 := wSign_inv iv1 k4
      have md4 := mD_fr md1 (fs4.imp fun a j w => scP_19 w)
      rw [e4] at es4 iv4
      refine ⟨_, r4, b_X13_readStep_103 (by omega) (by omega) ?_⟩
      have fr4 := fr1.tr (fs4.imp fun a j w => scP_w w)
      have m4' : mH g N f4 (z_wr h4 97 (96 + s.2.1.1) (bB g f1' - 48)) := by
        obtain ⟨⟨x1, x2, x3⟩, x4⟩ := m4
        refine ⟨⟨by rw [w_na (by omega)]; exact x1, by rw [w_na (by omega)]; exact x2, x3⟩, ?_⟩
        rw [w_na (by omega), w_na (by omega)]; exact x4
      have en : s1.1.2.1 = n := by rw [es1]
      have e2' : s1.2 = s.2 := by rw [es1]
      have eL : s1.2.1.1 = s.2.1.1 := by rw [e2']
      refine g104 _ _ f4 iv4 ?_ en e2' ?_ m4' (er1'.trans es4) (by omega) (fr4.w (Or.inr (Or.inr ⟨⟨by omega, by omega⟩, by omega⟩)))
      · show (if zfm s1.1.2.1 = 2 then (3 : Int) else if zfm s1.1.2.1 = 3 then 2 else 4) = _
        rw [en]
        by_cases q3 : n = 3 ∨ n = 5
        · rw [if_pos (zt.2.1.2 q3), if_pos q3]
        · rw [if_neg (fun w => q3 (zt.2.1.1 w)), if_neg q3]
          by_cases q4 : n = 11
          · rw [if_pos (zt.2.2.2 q4), if_pos q4]
          · rw [if_neg (fun w => q4 (zt.2.2.1 w)), if_neg q4]
      · obtain ⟨x1, x2, x3, x4⟩ := md4
        refine ⟨by rw [w_na (by omega)]; exact x1, fun j j0 j1 => ?_, ⟨by rw [w_na (by omega)]; exact x3.1, ?_, by rw [w_na (by omega)]; exact x3.2.2⟩, by rw [w_na (by omega)]; exact x4.1, by unfold fz; rw [w_na (by omega), w_na (by omega)]; exact x4.2⟩
        · have j1 : j < s1.2.1.1 := j1
          rw [w_na (by omega), w_nj (by omega), w_na (by omega)]; exact x2 j j0 j1
        · show z_wr h4 97 (96 + s.2.1.1) (bB g f1' - 48) 97 (96 + s1.2.1.1) = bB g f1' - 48
          rw [eL, w_s]
    · right
      exact ⟨99, t.1, z_Y.out rfl ⟨rfl, fr1.tr (t.2.1.imp fun a j w => wgP_w w), Or.inr ⟨rfl, wyT_s er1' t⟩⟩⟩
  · rw [e95] at c
    rw [if_pos (Classical.not_not.mp c)] at ew
    rw [e16]
    have b := bad_tok (kd := 3) fl (m.nb fl) (by rw [ek, ew]) (by decide)
    have t := sgT_w (h := h) b (by decide)
    exact k_wrong (by omega) (b_X13_readStep_21 (by decide) ⟨rfl, t.2.1.imp fun a j w => wgP_w w, Or.inr ⟨rfl, t.2.2⟩⟩)
end Wm4
