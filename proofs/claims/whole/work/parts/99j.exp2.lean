/-! expand -/
def edE (h : zH) (a : Int) (l : List (Int × Int)) : Prop := 0 ≤ h a 7 ∧ h a 8 = h a 7 + l.length ∧ h a 8 ≤ h 33 12 ∧ ∀ (j : Nat) (ct : Int × Int), l[j]? = some ct → h (h 33 11) (h a 7 + j) = ct.2 * 1024 + ct.1
def exQ (two : Prop) (W V B : zTb) (P : zSt) (q lv : Int) (w0 : Int → Nat) (s0 : bS) (G0 : zG) (h0 : zH) (R : Int × bS) : zO → zG → zH → Prop := fun out G' h' => frX s0 q G0 h0 G' h' ∧ ((R.1 = 0 ∧ out = .inl (some (0, 0)) ∧ ∃ w : Int → Nat, SI two W V B G' h' R.2 w) ∨ (R.1 = 1 ∧ out = .inl (some (0, 1)) ∧ SI two W V B G' h' R.2 (wA q (edP two P lv R.2 504) w0) ∧ edE h' (h0 48 q) (edP two P lv R.2 504) ∧ h' 33 12 ≤ h0 33 12 + 504))
section Exp2
variable {D : zD} {d : Nat} {G G1 G2 : zG} {h h1 h2 h4 : zH} {two : Prop} {W V B : zTb}
/-- a State's marks of its edges -/
theorem SI_mark {s : bS} {w : Int → Nat} {q i v : Int} (si : SI two W V B G h s w) (q0 : 0 ≤ q) (q1 : q < s.1) (i7 : i = 7 ∨ i = 8) : SI two W V B G (z_wr h (h 48 q) i v) s w := by
  obtain ⟨⟨n, ss⟩, rm, eg, ⟨kw, kv⟩, e8, e15, est, w0, nt, c12⟩ := si
  have po := ss.1
  have sr := ss.2.1
  obtain ⟨⟨ta, tc, -, -⟩, a1, a2⟩ := po.2.1 q q0 (by omega)
  have o : ∀ b j : Int, ¬ (b = h 48 q ∧ j = i) → z_wr h (h 48 q) i v b j = h b j := fun b j q => by unfold z_wr; rw [if_neg q]
  have kp : ∀ {t : Int} {T : zTb}, t = 40 ∨ t = 42 ∨ t = 44 → isC h t T → isC (z_wr h (h 48 q) i v) t T := fun ht k => isC_keep k (fun j => o _ j (by omega)) (fun j => o _ j (by omega))
  have e48 : ∀ j : Int, z_wr h (h 48 q) i v 48 j = h 48 j := fun j => o 48 j (by omega)
  have e11 := o 33 11 (by omega)
  have e12 := o 33 12 (by omega)
  refine ⟨⟨n, SS_k ss ext.rf e48 (fun j => o 49 j (by omega)) (o 33 14 (by omega)) fun i i0 i1 => ⟨fun j j6 => o _ j (by omega), fun j => o _ j (fun q => z_isne (po.2.1 i i0 i1).1.2.1 ta (by decide) q.1)⟩⟩, rm_k rm po e48 (fun i i0 i1 => o _ 0 (by omega)) e11, by unfold edg; rw [e11]; exact eg, ⟨kp (by omega) kw, kp (by omega) kv⟩, by rw [o 33 8 (by omega)]; exact e8, by rw [o 33 15 (by omega)]; exact e15, fun i i0 i1 => ?_, w0, fun n2 => ⟨kp (by omega) (nt n2).1, (nt n2).2⟩, by rw [e11, e12]; exact c12⟩
  rw [e48, o _ 6 (by omega), o _ 9 (by omega)]; exact est i i0 i1
variable {P : zSt} {q lv f0 : Int} {w0 : Int → Nat} {s0 : bS} {G0 : zG} {h0 : zH} {R : Int × bS}
/-- one step tried: behind it -/
theorem l_ex81 (hd : 6 ≤ d) (oW : okT W) (oV : okT V) (oP : okP P) (n1 : noA P.1) (n2 : noA P.2) (q0 : 0 ≤ q) (q1 : q < s0.1) (qq : q < 1500) (eP : s0.2 q = P) (a114 : 114 ≤ h0 48 q) (f00 : 0 ≤ f0) (f01 : f0 ≤ 504 * q) (l0 : z_in lv) {n a : Int} (hn1 : 1 ≤ n) (hn2 : n ≤ 14) (a0 : 0 ≤ a) (a1 : a ≤ zma n)
    (K : ∀ s G h, exI two W V B P q lv f0 w0 s0 G0 h0 R (ei n (a + 1) 0) s G h → z_Y D M_X1_expand d 71 [(0, 2, 33), (1, 2, h0 48 q), (2, 0, lv), (3, 0, n), (4, 0, zma n), (5, 0, zmB n), (6, 0, a + 1)] [] G h (exQ two W V B P q lv w0 s0 G0 h0 R)) :
    ∀ (m : Nat) (b : Int) (s : bS) (G : zG) (h : zH), zmB n + 1 = b + m → 0 ≤ b → exI two W V B P q lv f0 w0 s0 G0 h0 R (ei n a b) s G h → z_Y D M_X1_expand d 81 [(0, 2, 33), (1, 2, h0 48 q), (2, 0, lv), (3, 0, n), (4, 0, zma n), (5, 0, zmB n), (6, 0, a), (7, 0, b)] [] G h (exQ two W V B P q lv w0 s0 G0 h0 R) := by
  have zr := zm_rg n
  intro m
  induction m with
  | zero =>
    intro b s G h e b0 x
    refine b_X1_expand_81 ⟨by omega, by omega⟩ ⟨by omega, by omega⟩ (fun _ => K s G h ?_) (fun c => by omega)
    have y := exI_skip (5 - zmB n).toNat x (by unfold ei; omega) (by unfold ei; omega) fun j j0 j1 => by
      obtain ⟨b', eb⟩ : ∃ b', j = ei n a b' := ⟨j - ei n a 0, by unfold ei; omega⟩
      rw [eb]
      unfold ei at j0 j1 eb
      rw [nxe_ei a0 (by omega) (by omega) (by omega)]
      exact nx_out oP hn1 hn2 (Or.inr (by omega))
    rw [show ei n a b + ((5 - zmB n).toNat : Int) = ei n (a + 1) 0 by unfold ei; omega] at y
    exact y
  | succ m ih =>
    intro b s G h e b0 x hl
    have b5 : b ≤ 5 := by omega
    have ee : nxe two (ei n a b) P = nx two n a b P := nxe_ei a0 (by omega) b0 b5
    have e504 : 0 ≤ ei n a b ∧ ei n a b < 504 := by unfold ei; omega
    have en : ei n a b + 1 = ei n a (b + 1) := by unfold ei; omega
    have hl0 := hl
    obtain ⟨x1, x2, ⟨x3, x3'⟩, x4, x5, x6, x7, x8⟩ := id x
    obtain ⟨⟨nn, ss⟩, -, eg, -, e8, -, -, -, nt, -⟩ := id x1
    have sr := ss.2.1
    have p1 := ss.1.1
    have x61 := x6.1
    have e48 : h 48 q = h0 48 q := (x2.2.2.1 q q0 q1).1
    have eP' : s.2 q = P := by rw [x6.2 q q0 q1]; exact eP
    have len := edP_len two P lv s (ei n a b).toNat
    have c2 : h 33 12 < 756000 := by rw [x4.2]; omega
    have hc : 0 ≤ cod (ei n a b) ∧ cod (ei n a b) < 1024 := by
      obtain ⟨y1, y2, y3⟩ := ei_c (n := n) a0 (by omega) b0 b5
      unfold cod; rw [y1, y2, y3]; unfold zco; omega
    have ec : zco n a b = cod (ei n a b) := by
      obtain ⟨y1, y2, y3⟩ := ei_c (n := n) a0 (by omega) b0 b5
      unfold cod; rw [y1, y2, y3]
    -- not: the next
    have no : ∀ {G : zG} {h : zH}, nx two n a b P = none → exI two W V B P q lv f0 w0 s0 G0 h0 R (ei n a b) s G h → z_Y D M_X1_expand d 146 [(0, 2, 33), (1, 2, h0 48 q), (2, 0, lv), (3, 0, n), (4, 0, zma n), (5, 0, zmB n), (6, 0, a), (7, 0, b)] [(0, 0)] G h (exQ two W V B P q lv w0 s0 G0 h0 R) := by
      intro G h z x
      refine b_X1_expand_146 (by omega) ⟨by omega, by omega⟩ (fun c => absurd rfl c) (fun c => absurd rfl c) (fun c => absurd rfl c) (fun _ => ih (b + 1) s G h (by omega) (by omega) ?_) (fun c => absurd rfl c)
      have y := exI_skip 1 x e504.1 (by omega) fun j j0 j1 => by rw [show j = ei n a b by omega, ee]; exact z
      rw [show ei n a b + ((1 : Nat) : Int) = ei n a (b + 1) by unfold ei; omega] at y
      exact y
    -- it can be: there
    have yes : ∀ {G : zG} {h : zH} {S : zSt}, nx two n a b P = some S → okP S → (¬ two → S.2 = B) → isC h 38 S.1 → isC h 40 S.2 → h 33 12 < 756000 → exI two W V B P q lv f0 w0 s0 G0 h0 R (ei n a b) s G h → z_Y D M_X1_expand d 146 [(0, 2, 33), (1, 2, h0 48 q), (2, 0, lv), (3, 0, n), (4, 0, zma n), (5, 0, zmB n), (6, 0, a), (7, 0, b)] [(0, 1)] G h (exQ two W V B P q lv w0 s0 G0 h0 R) := by
      intro G h S z oS oB k1 k2 c2 x
      refine b_X1_expand_146 (by omega) ⟨by omega, by omega⟩ (fun _ => ⟨by omega, by omega⟩) (fun _ => ⟨by omega, by omega⟩) (fun _ => ⟨by omega, by omega⟩) (fun c => absurd c (by decide)) (fun _ => ?_)
      have e48 : h 48 q = h0 48 q := (x.2.1.2.2.1 q q0 q1).1
      rw [ec, ← e48]
      refine z_Ki.of (d2 := d - 1) (by omega) (c_arrive (by omega) x.1 oW oV k1 k2 oS oB q0 (by omega) hc l0 c2) ?_
      intro out G' h' hl' qa
      rcases exI_arr x e504.1 e504.2 (ee.trans z) (by omega) q0 q1 f00 qa with ⟨y1, y2, y3, y4⟩ | ⟨y1, y2⟩
      · refine ⟨_, y2, b_X1_expand_167 ⟨by omega, by omega⟩ (fun c => absurd rfl c) (fun _ => ?_)⟩
        rw [y3, y4]
        exact ⟨x.2.1, Or.inl ⟨by rw [y1], rfl, ⟨_, by rw [y1]; exact x.1⟩⟩⟩
      · refine ⟨_, y1, b_X1_expand_167 ⟨by omega, by omega⟩ (fun _ => ?_) (fun c => absurd (by decide) c)⟩
        rw [e48]
        rw [en] at y2
        exact ih (b + 1) _ G' h' (by omega) (by omega) y2
    have t34 : z_is G 34 3 := hl.i 34 (by decide) rfl
    have t38 : z_is G 38 3 := hl.i 38 (by decide) rfl
    refine b_X1_expand_81 ⟨by omega, by omega⟩ ⟨by omega, by omega⟩ (fun c => by omega) (fun _ => ?_) hl
    refine z_Ki.of (d2 := d - 1) (by omega) (c_change (by omega) (hl.ap t34 t38 (by omega)) x3 oP.1 n1 ⟨by omega, by omega⟩ ⟨by omega, by omega⟩ ⟨by omega, by omega⟩) ?_
    rintro out G' h1 hl1 ⟨rfl, fS, hr⟩
    have em : sMake n a b P.1 = sStep n a b P.1 := by unfold sMake; rw [zif1 n1]
    have em2 : sMake n a b P.2 = sStep n a b P.2 := by unfold sMake; rw [zif1 n2]
    have x1' : exI two W V B P q lv f0 w0 s0 G0 h0 R (ei n a b) s G' h1 := exI_chg x a114 (fun b j p r => fS b j (by omega) (by omega) r) (fun w => isC_keep (nt w).1 (fun j => fS 40 j (by omega) (by omega) (by omega)) (fun j => fS 41 j (by omega) (by omega) (by omega)))
    have c21 : h1 33 12 < 756000 := by rw [fS 33 12 (by omega) (by omega) (by omega)]; exact c2
    cases es : sStep n a b P.1 with
    | none =>
      rw [es] at hr em
      have z : nx two n a b P = none := by unfold nx; rw [em]
      exact ⟨0, hr, b_X1_expand_108 ⟨by omega, by omega⟩ (fun c => absurd rfl c) (fun _ => b_X1_expand_145 (no z x1')) (fun c => absurd rfl c) (fun c => absurd rfl c)⟩
    | some T =>
      rw [es] at hr em
      have oT := (sStep_ok oP.1 n1 es).1
      have e81 : h1 33 8 = z_b two := by rw [fS 33 8 (by omega) (by omega) (by omega)]; exact e8
      have zb := z_b01 two
      refine ⟨1, hr.1, b_X1_expand_108 ⟨by omega, by omega⟩ (fun _ => ⟨by omega, by omega⟩) (fun c => absurd c (by decide)) (fun _ w => ?_) (fun _ w => ?_)⟩
      · have nt2 : ¬ two := fun y => by rw [e81, z_b1 y] at w; cases w
        have eB : P.2 = B := by rw [← eP']; exact (nt nt2).2 q q0 (by omega)
        have z : nx two n a b P = some (T, P.2) := by unfold nx; rw [em]; exact zif0 nt2
        refine b_X1_expand_141 (yes z ⟨oT, oP.2⟩ (fun _ => eB) hr.2 ?_ c21 x1')
        show isC h1 40 P.2
        rw [eB]
        exact (x1'.1.2.2.2.2.2.2.2.2.1 nt2).1
      · have tw : two := Classical.byContradiction fun y => w (by rw [e81, z_b0 y]; rfl)
        have t36 : z_is G' 36 3 := hl1.i 36 (by decide) rfl
        have t40 : z_is G' 40 3 := hl1.i 40 (by decide) rfl
        refine z_Ki.of (d2 := d - 1) (by omega) (c_change (by omega) (hl1.ap t36 t40 (by omega)) x1'.2.2.1.2 oP.2 n2 ⟨by omega, by omega⟩ ⟨by omega, by omega⟩ ⟨by omega, by omega⟩) ?_
        rintro out G'' h2 hl2 ⟨rfl, fS2, hr2⟩
        have x2' : exI two W V B P q lv f0 w0 s0 G0 h0 R (ei n a b) s G'' h2 := exI_chg x1' a114 (fun b j p r => fS2 b j (by omega) (by omega) r) (fun w => absurd tw w)
        have c22 : h2 33 12 < 756000 := by rw [fS2 33 12 (by omega) (by omega) (by omega)]; exact c21
        cases es2 : sStep n a b P.2 with
        | none =>
          rw [es2] at hr2 em2
          have z : nx two n a b P = none := by unfold nx; rw [em]; show zif _ _ _ = _; rw [zif1 tw, em2]
          exact ⟨0, hr2, b_X1_expand_138 ⟨by omega, by omega⟩ (fun _ => b_X1_expand_145 (no z x2')) (fun c => absurd rfl c)⟩
        | some U =>
          rw [es2] at hr2 em2
          have z : nx two n a b P = some (T, U) := by unfold nx; rw [em]; show zif _ _ _ = _; rw [zif1 tw, em2]
          exact ⟨1, hr2.1, b_X1_expand_138 ⟨by omega, by omega⟩ (fun c => absurd c (by decide)) (fun _ => b_X1_expand_141 (yes z ⟨oT, (sStep_ok oP.2 n2 es2).1⟩ (fun y => absurd tw y) (isC_keep hr.2 (fun j => fS2 38 j (by omega) (by omega) (by omega)) (fun j => fS2 39 j (by omega) (by omega) (by omega))) hr2.2 c22 x2'))⟩
theorem l_ex71 (hd : 6 ≤ d) (oW : okT W) (oV : okT V) (oP : okP P) (n1 : noA P.1) (n2 : noA P.2) (q0 : 0 ≤ q) (q1 : q < s0.1) (qq : q < 1500) (eP : s0.2 q = P) (a114 : 114 ≤ h0 48 q) (f00 : 0 ≤ f0) (f01 : f0 ≤ 504 * q) (l0 : z_in lv) {n : Int} (hn1 : 1 ≤ n) (hn2 : n ≤ 14)
    (K : ∀ s G h, exI two W V B P q lv f0 w0 s0 G0 h0 R (ei (n + 1) 0 0) s G h → z_Y D M_X1_expand d 50 [(0, 2, 33), (1, 2, h0 48 q), (2, 0, lv), (3, 0, n + 1)] [] G h (exQ two W V B P q lv w0 s0 G0 h0 R)) :
    ∀ (m : Nat) (a : Int) (s : bS) (G : zG) (h : zH), zma n + 1 = a + m → 0 ≤ a → exI two W V B P q lv f0 w0 s0 G0 h0 R (ei n a 0) s G h → z_Y D M_X1_expand d 71 [(0, 2, 33), (1, 2, h0 48 q), (2, 0, lv), (3, 0, n), (4, 0, zma n), (5, 0, zmB n), (6, 0, a)] [] G h (exQ two W V B P q lv w0 s0 G0 h0 R) := by
  have zr := zm_rg n
  intro m
  induction m with
  | zero =>
    intro a s G h e a0 x
    refine b_X1_expand_71 ⟨by omega, by omega⟩ ⟨by omega, by omega⟩ (fun _ => K s G h ?_) (fun c => by omega)
    have y := exI_skip (6 * (5 - zma n)).toNat x (by unfold ei; omega) (by unfold ei; omega) fun j j0 j1 => by
      unfold ei at j0 j1
      have e1 : cN j = n := by unfold cN; omega
      have e2 : a ≤ cA j := by unfold cA; omega
      unfold nxe
      rw [e1]
      exact nx_out oP hn1 hn2 (Or.inl (by omega))
    rw [show ei n a 0 + ((6 * (5 - zma n)).toNat : Int) = ei (n + 1) 0 0 by unfold ei; omega] at y
    exact y
  | succ m ih =>
    intro a s G h e a0 x
    refine b_X1_expand_71 ⟨by omega, by omega⟩ ⟨by omega, by omega⟩ (fun c => by omega) (fun _ => ?_)
    exact l_ex81 hd oW oV oP n1 n2 q0 q1 qq eP a114 f00 f01 l0 hn1 hn2 a0 (by omega) (fun s G h x => ih (a + 1) s G h (by omega) (by omega) x) (zmB n + 1).toNat 0 s G h (by omega) (by omega) x
theorem l_ex50 (hd : 6 ≤ d) (oW : okT W) (oV : okT V) (oP : okP P) (n1 : noA P.1) (n2 : noA P.2) (q0 : 0 ≤ q) (q1 : q < s0.1) (qq : q < 1500) (eP : s0.2 q = P) (a114 : 114 ≤ h0 48 q) (ta : z_is G0 (h0 48 q) 1) (f00 : 0 ≤ f0) (f01 : f0 ≤ 504 * q) (e0 : h0 33 12 = f0) (l0 : z_in lv) :
    ∀ (m : Nat) (n : Int) (s : bS) (G : zG) (h : zH), 15 = n + m → 1 ≤ n → exI two W V B P q lv f0 w0 s0 G0 h0 R (ei n 0 0) s G h → z_Y D M_X1_expand d 50 [(0, 2, 33), (1, 2, h0 48 q), (2, 0, lv), (3, 0, n)] [] G h (exQ two W V B P q lv w0 s0 G0 h0 R) := by
  intro m
  induction m with
  | zero =>
    intro n s G h e n0 x
    have en : n = 15 := by omega
    subst en
    have ei : ei 15 0 0 = 504 := by decide
    rw [ei] at x
    obtain ⟨x1, x2, x3, x4, x5, x6, x7, x8⟩ := x
    have eR : R = (1, s) := x8.symm
    have e48 : h 48 q = h0 48 q := (x2.2.2.1 q q0 q1).1
    refine b_X1_expand_50 (by omega) ⟨by omega, by omega⟩ (fun _ => (x2.1 _ _ ta).1) (fun _ => ?_) (fun c => by omega)
    have x61 := x6.1
    have si := SI_mark (i := 8) (v := h 33 12) x1 q0 (by omega) (Or.inr rfl)
    rw [e48] at si
    have o : ∀ b j : Int, ¬ (b = h0 48 q ∧ j = 8) → z_wr h (h0 48 q) 8 (h 33 12) b j = h b j := fun b j q => by unfold z_wr; rw [if_neg q]
    have e11 := o 33 11 (by omega)
    have e12 := o 33 12 (by omega)
    have len := edP_len two P lv s 504
    have er : ∀ j : Int, z_wr h (h0 48 q) 8 (h 33 12) (h 33 11) j = h (h 33 11) j := fun j => o _ j (fun w => z_isne x1.2.2.1.1 (x2.1 _ _ ta).1 (by decide) w.1)
    refine ⟨⟨x2.1, fun b j p q r t u => (o b j (by omega)).trans (x2.2.1 b j p q r t u), fun i i0 i1 => ⟨(o 48 i (by omega)).trans (x2.2.2.1 i i0 i1).1, fun j nj nq => ?_⟩, fun j j0 j1 => by rw [e11, er]; exact x2.2.2.2.1 j j0 j1, by rw [e12]; exact x2.2.2.2.2⟩, Or.inr ⟨by rw [eR], rfl, ?_, ?_, ?_⟩⟩
    · obtain ⟨⟨n, ss⟩, -⟩ := x1
      have y := x2.2.2.1 i i0 i1
      by_cases z : i = q
      · subst z
        rw [o _ j (by omega)]; exact y.2 j nj nq
      · have ne := (ss.1.ne i0 (show i < n by have := ss.2.1; omega) q0 (by have := ss.2.1; omega) z).1
        rw [y.1, e48] at ne
        rw [o _ j (fun w => ne w.1)]; exact y.2 j nj nq
    · rw [eR]; exact si
    · rw [eR]
      unfold edE
      rw [e11, e12, w_s, o _ 7 (by omega), x4.1]
      refine ⟨f00, x4.2, Int.le_refl _, fun j ct hj => ?_⟩
      rw [er]; exact x5 j ct hj
    · rw [e12, x4.2, e0]
      have : (edP two P lv s (504 : Int).toNat).length ≤ 504 := len
      omega
  | succ m ih =>
    intro n s G h e n0 x
    refine b_X1_expand_50 (by omega) ⟨by omega, by omega⟩ (fun c => by omega) (fun c => by omega) (fun _ => ?_)
    have zr := zm_rg n
    exact l_ex71 hd oW oV oP n1 n2 q0 q1 qq eP a114 f00 f01 l0 (by omega) (by omega) (fun s G h x => ih (n + 1) s G h (by omega) (by omega) x) (zma n + 1).toNat 0 s G h (by omega) (by omega) x
theorem c_expand (hd : 6 ≤ d) {s0 : bS} (si : SI two W V B G h s0 w0) (oW : okT W) (oV : okT V) (nB : ¬ two → noA B) (q0 : 0 ≤ q) (q1 : q < s0.1) (c2 : h 33 12 ≤ 504 * q) (l0 : z_in lv) :
    z_CY D M_X1_expand d [(2, 33), (2, h 48 q), (0, lv)] G h (exQ two W V B (s0.2 q) q lv w0 s0 G h (bX two (s0.2 q) 504 0 s0)) := by
  intro hl
  obtain ⟨⟨n, ss⟩, rm, eg, -, e8, -, est, -, nt, c12⟩ := id si
  have po := ss.1
  have sr := ss.2.1
  have p1 := po.1
  obtain ⟨ks, oP, ln⟩ := ss.2.2.2.2.2 q q0 q1
  obtain ⟨st, a114, c114⟩ := po.2.1 q q0 (by omega)
  have t34 : z_is G 34 3 := hl.i 34 (by decide) rfl
  have t36 : z_is G 36 3 := hl.i 36 (by decide) rfl
  refine z_begin mo_X1_expand rfl (nle rfl) (b_X1_expand_0 st.1 (z_Kv.of (d2 := d - 1) (by omega) (c_lay (by omega) st ks oP ln t34 t36 (by omega) ⟨by omega, by omega⟩) ?_)) hl
  rintro out G' h1 hl1 ⟨r1, rfl, f1, k1, k2⟩
  have lo : ∀ b j : Int, ¬ (34 ≤ b ∧ b ≤ 37) → h1 b j = h b j := fun b j q => f1 b j (by omega)
  have si1 : SI two W V B G' h1 s0 w0 := SI_chg si (fun b j p r => lo b j (by omega)) (fun w => isC_keep (nt w).1 (fun j => lo 40 j (by omega)) (fun j => lo 41 j (by omega)))
  have e48 : ∀ j : Int, h1 48 j = h 48 j := fun j => lo 48 j (by omega)
  refine ⟨r1, b_X1_expand_12 st.1 ?_⟩
  have e12 : h1 33 12 = h 33 12 := lo 33 12 (by omega)
  rw [e12]
  have si2 := SI_mark (i := 8) (v := h 33 12) (SI_mark (i := 7) (v := h 33 12) si1 q0 q1 (Or.inl rfl)) q0 q1 (Or.inr rfl)
  rw [w_na (show ¬ (48 : Int) = h1 48 q by rw [e48]; omega), e48] at si2
  obtain ⟨H, eH⟩ : ∃ H, H = z_wr (z_wr h1 (h 48 q) 7 (h 33 12)) (h 48 q) 8 (h 33 12) := ⟨_, rfl⟩
  rw [← eH] at si2 ⊢
  have o : ∀ b j : Int, ¬ (b = h 48 q ∧ (j = 7 ∨ j = 8)) → H b j = h1 b j := fun b j q => by
    rw [eH]; unfold z_wr; rw [if_neg (by omega), if_neg (by omega)]
  have kH : ∀ {t : Int} {T : zTb}, t = 34 ∨ t = 36 → isC h1 t T → isC H t T := fun ht k => isC_keep k (fun j => o _ j (by omega)) (fun j => o _ j (by omega))
  have E12 : H 33 12 = h 33 12 := (o 33 12 (by omega)).trans e12
  have E11 : H 33 11 = h 33 11 := (o 33 11 (by omega)).trans (lo 33 11 (by omega))
  have E7 : H (h 48 q) 7 = h 33 12 := by rw [eH, w_nj (by omega), w_s]
  have E8 : H (h 48 q) 8 = h 33 12 := by rw [eH, w_s]
  have fX : frX s0 q G' h G' H := by
    refine ⟨ext.rf, fun b j p q r t u => (o b j (by omega)).trans (lo b j (by omega)), fun i i0 i1 => ⟨(o 48 i (by omega)).trans (e48 i), fun j nj nq => ?_⟩, fun j j0 j1 => ?_, by omega⟩
    · have z := (po.2.1 i i0 (by omega)).2.1
      by_cases w : i = q
      · subst w
        rw [o _ j (by omega)]; exact lo _ j (by omega)
      · have ne := (po.ne i0 (show i < n by omega) q0 (by omega) w).1
        rw [o _ j (fun w => ne w.1)]; exact lo _ j (by omega)
    · have z := eg.2.1
      rw [E11, o _ j (fun w => z_isne eg.1 st.1 (by decide) w.1)]; exact lo _ j (by omega)
  have rg1 := zct_rg (fun i => H (34 + 1) i = -1) (H 34 1 * H 34 2).toNat
  have rg2 := zct_rg (fun i => H (36 + 1) i = -1) (H 36 1 * H 36 2).toNat
  have kk1 := kH (Or.inl rfl) k1
  have kk2 := kH (Or.inr rfl) k2
  have z1 := sz_rg oP.1
  have z2 := sz_rg oP.2
  have d1 : H 34 1 * H 34 2 = sz (s0.2 q).1 := by rw [kk1.1, kk1.2.1]; rfl
  have d2' : H 36 1 * H 36 2 = sz (s0.2 q).2 := by rw [kk2.1, kk2.2.1]; rfl
  rw [d1] at rg1
  rw [d2'] at rg2
  have an1 := anys_0 kk1 oP.1
  have an2 := anys_0 kk2 oP.2
  rw [d1] at an1
  rw [d2'] at an2
  refine z_Ki.of (d2 := d - 1) (by omega) (a_X4_anys (by omega) 34 t34 (isC_okS kk1 oP.1) (isC_okC kk1 oP.1)) ?_
  rintro out G'' h'' hl2 ⟨r2, rfl, eh⟩
  rw [eh, d1] at *
  refine ⟨_, r2, b_X1_expand_35 (z_Ki.of (d2 := d - 1) (by omega) (a_X4_anys (by omega) 36 t36 (isC_okS kk2 oP.2) (isC_okC kk2 oP.2)) ?_)⟩
  rintro out G'' h'' hl3 ⟨r3, rfl, eh⟩
  rw [eh, d2'] at *
  refine ⟨_, r3, b_X1_expand_42 ⟨by omega, by omega⟩ (fun c => ?_) (fun c => ?_)⟩
  · have na1 : noA (s0.2 q).1 := an1.1 (by omega)
    have na2 : noA (s0.2 q).2 := an2.1 (by omega)
    refine l_ex50 hd oW oV oP na1 na2 q0 q1 (by omega) rfl a114 st.1 c12.1 c2 rfl l0 14 1 s0 _ H (by omega) (by omega) ?_
    have e0 : ei 1 0 0 = 0 := by decide
    rw [e0]
    have el : (edP two (s0.2 q) lv s0 (0 : Int).toNat) = [] := rfl
    unfold exI
    rw [el]
    refine ⟨si2, fX, ⟨kk1, kk2⟩, ⟨E7, ?_⟩, fun j ct hj => ?_, exS.rf, fun j j0 j1 => ?_, rfl⟩
    · rw [E12]; show _ = _ + ((0 : Nat) : Int); omega
    · cases hj
    · omega
  · have nn : ∀ j : Int, 0 ≤ j → j < 0 + (504 : Nat) → nxe two j (s0.2 q) = none := by
      intro j j0 j1
      unfold nxe nx
      by_cases w : noA (s0.2 q).1
      · by_cases tw : two
        · have w2 : ¬ noA (s0.2 q).2 := fun w2 => c (by rw [an1.2 w, an2.2 w2]; omega)
          cases sMake (cN j) (cA j) (cB j) (s0.2 q).1 with
          | none => rfl
          | some T =>
            show zif _ _ _ = _
            rw [zif1 tw, show sMake (cN j) (cA j) (cB j) (s0.2 q).2 = none by unfold sMake; rw [zif0 w2]]
        · exfalso
          have w2 := nB tw
          rw [← (nt tw).2 q q0 q1] at w2
          exact c (by rw [an1.2 w, an2.2 w2]; omega)
      · rw [show sMake (cN j) (cA j) (cB j) (s0.2 q).1 = none by unfold sMake; rw [zif0 w]]
    have eR : bX two (s0.2 q) 504 0 s0 = (1, s0) := bX_skip (m := 0) 504 0 nn
    have eE : edP two (s0.2 q) lv s0 504 = [] := edP_skip 504 0 (by omega) nn
    rw [eR]
    refine ⟨fX, Or.inr ⟨rfl, rfl, ?_, ?_, by omega⟩⟩
    · show SI two W V B _ _ s0 (wA q (edP two (s0.2 q) lv s0 504) w0)
      rw [eE]; exact si2
    · show edE H (h 48 q) (edP two (s0.2 q) lv s0 504)
      rw [eE]
      unfold edE
      rw [E7, E8, E12]
      exact ⟨c12.1, by show _ = _ + ((0 : Nat) : Int); omega, Int.le_refl _, fun j ct hj => by cases hj⟩
end Exp2
