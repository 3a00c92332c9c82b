section CalF
variable {D : zD} {d : Nat} {G : zG} {h h' h0 h1 : zH} {S : zA} {Q : zO → zG → zH → Prop}
theorem pin_f {W V : zWy} {n c x t : Int} {m : Nat} (e : t = 1000) : pin W V n c (m + 1) x t = (2, t, zBl) := by
  rw [pin, if_pos e]
theorem pin_y {W V : zWy} {n c x t : Int} {m : Nat} (e : ¬ t = 1000) (p : pts W V (liT n c x)) : pin W V n c (m + 1) x t = (1, t + 1, liT n c x) := by
  rw [pin, if_neg e]
  exact if_pos p
theorem pin_n {W V : zWy} {n c x t : Int} {m : Nat} (e : ¬ t = 1000) (p : ¬ pts W V (liT n c x)) : pin W V n c (m + 1) x t = pin W V n c m (x + 1) (t + 1) := by
  rw [pin, if_neg e]
  exact if_neg p
theorem l_p75 (hd : 8 ≤ d) {x1 x2 c r u n all : Int} {q : Int × zA} {k : Int → Int × zA} (o : aok S) (a1 : 0 ≤ x1 ∧ x1 ≤ 7) (a2 : 0 ≤ x2 ∧ x2 ≤ 7) (a5 : 0 ≤ u ∧ u ≤ 7) (n1 : 1 ≤ n) (n2 : n ≤ 2) (c1 : 1 ≤ c) (c3 : c ≤ 3) (all1 : all ≤ 46656)
    (K : ∀ (h' : zH) (t : Int), 0 ≤ t → t ≤ 1000 → q = k t → cAb G h' S → (∀ b j : Int, 88 ≤ b → b < 114 → h' b j = h0 b j) → z_Y D M_X11_part d 56 [(0, 2, 0), (1, 0, x1), (2, 0, x2), (3, 0, c), (4, 0, r), (5, 0, u), (6, 0, t), (7, 0, n + 1)] [] G h' (cCl (0, q.1) q.2 G h0)) :
    ∀ (m : Nat) (x t : Int) (h : zH), x + m = all → 0 ≤ x → 0 ≤ t → t ≤ 1000 → q = pfin S u (pin (S.2.1 x1) (S.2.1 x2) n c m x t) k → cAb G h S → (∀ b j : Int, 88 ≤ b → b < 114 → h b j = h0 b j) →
    z_Y D M_X11_part d 75 [(0, 2, 0), (1, 0, x1), (2, 0, x2), (3, 0, c), (4, 0, r), (5, 0, u), (6, 0, t), (7, 0, n), (8, 0, all), (9, 0, x)] [] G h (cCl (0, q.1) q.2 G h0) := by
  intro m
  induction m with
  | zero =>
    intro x t h e x0 t0 t1 eq ca f
    refine b_X11_part_75 ⟨by omega, by omega⟩ ⟨by omega, by omega⟩ (fun w => by omega) (fun _ => K h t t0 t1 ?_ ca f) (fun w => by omega) (fun w => by omega)
    rw [eq, pin]
    exact (if_neg (by decide : ¬ (0 : Int) = 1)).trans (if_neg (by decide : ¬ (0 : Int) = 2))
  | succ m ih =>
    intro x t h e x0 t0 t1 eq ca f
    refine b_X11_part_75 ⟨by omega, by omega⟩ ⟨by omega, by omega⟩ (fun _ => ⟨by omega, by omega⟩) (fun w => by omega) (fun _ w => ?_) (fun _ w => cCl.y (x := -3) (S' := S) (by
      rw [eq, pin_f (Classical.not_not.mp w)]
      exact (if_neg (by decide : ¬ (2 : Int) = 1)).trans (if_pos rfl)) rfl f ca)
    refine z_Kv.of (d2 := d - 1) (by omega) (c_writeListed (by omega) n1 n2 c1 c3 x0 (by omega)) ?_
    rintro out G1 h1 hl1 ⟨r1, rfl, f1, k1⟩
    have ca1 := cAb_0 ca (f1.imp fun a j w => by omega) (wkI_B ca.2.2.2.2.1.1 f1 fun j => by omega) (wkI_B ca.2.2.2.2.1.2 f1 fun j => by omega)
    have oL := liT_ok (x := x) n1 n2 c1 c3
    have ff1 : ∀ b j : Int, 88 ≤ b → b < 114 → h1 b j = h0 b j := fun b j b0 b1 => by rw [f1 b j (by omega)]; exact f b j b0 b1
    refine ⟨r1, b_X11_part_105 a1.1 (by omega) a2.1 (by omega) (z_Ki.of (d2 := d - 1) (by omega) (c_partOn (by omega) (hl1.wyi a1.1 (by omega)) (hl1.wyi a2.1 (by omega)) (by omega) (by omega) (ca1.1.2 x1 a1.1 (by omega)) (ca1.1.2 x2 a2.1 (by omega)) (o.1.2 x1 a1.1 (by omega)) (o.1.2 x2 a2.1 (by omega)) k1 oL ca1.2.2.2.2.1.1 ca1.2.2.2.2.1.2) ?_)⟩
    rintro out2 G2 h2 hl2 ⟨r2, rfl, f2, k9, k4⟩
    have ca2 := cAb_0 ca1 (f2.imp fun a j w => by omega) k9 k4
    have k2 : isC h2 29 (liT n c x) := isC_B k1 f2 (fun j => by omega) (fun j => by omega)
    have ff2 : ∀ b j : Int, 88 ≤ b → b < 114 → h2 b j = h0 b j := fun b j b0 b1 => by rw [f2 b j (by omega)]; exact ff1 b j b0 b1
    have rc := (isC_okS k2 oL).rc
    have b01 := z_b01 (pts (S.2.1 x1) (S.2.1 x2) (liT n c x))
    refine ⟨_, r2, b_X11_part_121 (by omega) ⟨by omega, by omega⟩ (fun _ => a5.1) (fun _ => by omega) (fun _ => by omega) (fun _ => by omega) (fun z => ?_) (fun z => ?_)⟩
    · have np : ¬ pts (S.2.1 x1) (S.2.1 x2) (liT n c x) := fun y => by rw [z_b1 y] at z; omega
      rw [pin_n w np] at eq
      exact ih (x + 1) (t + 1) h2 (by omega) (by omega) (by omega) (by omega) eq ca2 ff2
    · have p : pts (S.2.1 x1) (S.2.1 x2) (liT n c x) := Classical.byContradiction fun y => z (z_b0 y)
      rw [pin_y w p] at eq
      obtain ⟨f3, k3⟩ := bcC (t := 56 + 4 * u) k2 oL (by omega) k2.1 k2.2.1
      rw [show (29 : Int) + 1 = 30 from rfl] at f3 k3
      exact cCl.y (x := t + 1) (S' := puT S u (liT n c x)) (by rw [eq]; exact if_pos rfl) rfl (fun y j y0 y1 => by rw [f3 y j (by omega)]; exact ff2 y j y0 y1) (cAb_T ca2 a5 (f3.imp fun a j w => by omega) (wkI_B k9 f3 fun j => by omega) (wkI_B k4 f3 fun j => by omega) k3)
theorem cc_part (hd : 8 ≤ d) {x1 x2 x3 x4 x5 : Int} (i1 : z_in x1) (i2 : z_in x2) (i3 : z_in x3) (i4 : z_in x4) (i5 : z_in x5) (o : aok S) (c : cAb G h S) : z_CY D M_X11_part d [(2, 0), (0, x1), (0, x2), (0, x3), (0, x4), (0, x5)] G h (cCl (0, (q_part x1 x2 x3 x4 x5 S).1) (q_part x1 x2 x3 x4 x5 S).2 G h) := by
  refine z_begin mo_X11_part rfl (nle rfl) (b_X11_part_0 (by omega) i1 (fun _ => i2) (fun _ _ => i5) (fun _ _ _ => i3) (fun _ _ _ _ _ => i4) (fun _ _ _ w => cCl.n c (if_neg (by omega)) rfl) (fun _ _ _ _ w => cCl.n c (if_neg (by omega)) rfl) (fun _ _ _ _ _ w => cCl.n c (if_neg (by omega)) rfl) (fun a b e w w2 w3 w4 => ?_) (fun _ _ _ _ _ _ w => cCl.n c (if_neg (by omega)) rfl) (fun _ _ w => cCl.n c (if_neg (by omega)) rfl) (fun _ w => cCl.n c (if_neg (by omega)) rfl) (fun w => cCl.n c (if_neg (by omega)) rfl))
  have e0 : q_part x1 x2 x3 x4 x5 S = pfin S x5 (pin (S.2.1 x1) (S.2.1 x2) 1 x3 (s6 (1 * x3).toNat).toNat 0 0) (fun t => if x4 = 1 then (-1, S) else pfin S x5 (pin (S.2.1 x1) (S.2.1 x2) 2 x3 (s6 (2 * x3).toNat).toNat 0 t) (fun _ => (-1, S))) := if_pos ⟨a, b, e, by omega, by omega⟩
  -- one round of tables of n rows
  have rd : ∀ (n : Int) (k : Int → Int × zA) (t : Int) (h1 : zH), 1 ≤ n → n ≤ 2 → n ≤ x4 → 0 ≤ t → t ≤ 1000 → q_part x1 x2 x3 x4 x5 S = pfin S x5 (pin (S.2.1 x1) (S.2.1 x2) n x3 (s6 (n * x3).toNat).toNat 0 t) k → cAb G h1 S → (∀ b j : Int, 88 ≤ b → b < 114 → h1 b j = h b j) →
      (∀ (h' : zH) (t : Int), 0 ≤ t → t ≤ 1000 → q_part x1 x2 x3 x4 x5 S = k t → cAb G h' S → (∀ b j : Int, 88 ≤ b → b < 114 → h' b j = h b j) → z_Y D M_X11_part d 56 [(0, 2, 0), (1, 0, x1), (2, 0, x2), (3, 0, x3), (4, 0, x4), (5, 0, x5), (6, 0, t), (7, 0, n + 1)] [] G h' (cCl (0, (q_part x1 x2 x3 x4 x5 S).1) (q_part x1 x2 x3 x4 x5 S).2 G h)) →
      z_Y D M_X11_part d 56 [(0, 2, 0), (1, 0, x1), (2, 0, x2), (3, 0, x3), (4, 0, x4), (5, 0, x5), (6, 0, t), (7, 0, n)] [] G h1 (cCl (0, (q_part x1 x2 x3 x4 x5 S).1) (q_part x1 x2 x3 x4 x5 S).2 G h) := by
    intro n k t h1 n1 n2 n4 t0 t1 eq ca f K
    have nb : 0 ≤ n * x3 ∧ n * x3 ≤ 6 := by
      have : n = 1 ∨ n = 2 := by omega
      rcases this with q | q <;> rw [q] <;> omega
    have sr := s6_rg (n * x3).toNat (by omega)
    refine b_X11_part_56 ⟨by omega, by omega⟩ i4 (fun w => by omega) (fun _ => z_Ki.of (d2 := d - 1) (by omega) (c_listedTables nb.1 nb.2) ?_)
    rintro out G2 h2 hl2 ⟨r2, rfl, rfl⟩
    refine ⟨_, r2, b_X11_part_70 (l_p75 hd o a b e n1 n2 (by omega) (by omega) sr.2 K (s6 (n * x3).toNat).toNat 0 t h2 (by omega) (Int.le_refl 0) t0 t1 eq ca f)⟩
  refine rd 1 _ 0 h (by decide) (by decide) (by omega) (by decide) (by decide) e0 c (fun _ _ _ _ => rfl) fun h' t t0 t1 eq ca f => ?_
  by_cases z : x4 = 1
  · have eq : q_part x1 x2 x3 x4 x5 S = (-1, S) := eq.trans (if_pos z)
    exact b_X11_part_56 ⟨by decide, by decide⟩ i4 (fun _ => cCl.y eq rfl f ca) (fun w => absurd (by omega) w)
  · have eq := eq.trans (if_neg z)
    refine rd 2 _ t h' (by decide) (by decide) (by omega) t0 t1 eq ca f fun h2 t2 t20 t21 eq2 ca2 f2 => ?_
    exact b_X11_part_56 ⟨by decide, by decide⟩ i4 (fun _ => cCl.y eq2 rfl f2 ca2) (fun w => absurd (by omega) w)
/-! the model: the list of tables -/
def mliI (h : zH) (n c x p : Int) : Prop := h 89 11 = n ∧ h 90 11 = c ∧ ∀ r k : Int, 0 ≤ r → r < 12 → 0 ≤ k → k < 6 → h 91 (792 + 6 * r + k) = if r < n ∧ k < c ∧ p < r * c + k then lv x (n * c - 1 - (r * c + k)) else 0
def mlF (a j : Int) : Prop := ((a = 89 ∨ a = 90) ∧ j = 11) ∨ (a = 91 ∧ 792 ≤ j ∧ j < 864)
theorem l_ml26 (hd : 2 ≤ d) {n c x r : Int} (n1 : 1 ≤ n) (n2 : n ≤ 2) (c1 : 1 ≤ c) (c3 : c ≤ 3) (x0 : 0 ≤ x) (x1 : x < 2147483648) (r0 : 0 ≤ r) (r1 : r < n)
    (K : ∀ h : zH, mliI h n c x (r * c - 1) → frB mlF h0 h → z_Y D M_X13_list d 16 [(0, 2, 88), (1, 0, 11), (3, 0, c), (5, 0, dv x (n * c - r * c).toNat), (6, 0, r + (-1))] [] G h Q) : ∀ (m : Nat) (k : Int) (h : zH), k + 1 = m → k < c → mliI h n c x (r * c + k) → frB mlF h0 h →
    z_Y D M_X13_list d 26 [(0, 2, 88), (1, 0, 11), (3, 0, c), (5, 0, dv x (n * c - 1 - (r * c + k)).toNat), (6, 0, r), (7, 0, k)] [] G h Q := by
  intro m
  induction m with
  | zero =>
    intro k h e k1 w f
    obtain rfl : k = -1 := by omega
    refine b_X13_list_26 hd ⟨by decide, by decide⟩ (fun q => absurd (by decide) q) (fun q => absurd (by decide) q) (fun q => absurd (by decide) q) (fun q => absurd (by decide) q) (fun _ => ?_) (fun q => absurd (by decide) q)
    rw [show n * c - 1 - (r * c + -1) = n * c - r * c by omega]
    exact K h (by rw [show r * c - 1 = r * c + -1 by omega]; exact w) f
  | succ m ih =>
    intro k h e k1 w f
    have dr := dv_rg x0 x1 (n * c - 1 - (r * c + k)).toNat
    have ix := ix_lt r0 r1 (by omega : 0 ≤ k) k1
    have em := z_irem_n (y := 6) dr.1 dr.2 (by decide) (by decide)
    have ed := z_idiv_n (y := 6) dr.1 dr.2 (by decide) (by decide)
    refine b_X13_list_26 hd ⟨by omega, by omega⟩ (fun _ => by rw [em]; omega) (fun _ => by rw [em]; omega) (fun _ => by omega) (fun _ => by omega) (fun q => by omega) (fun _ => ?_)
    rw [em, ed]
    have es : dv x (n * c - 1 - (r * c + k)).toNat / 6 = dv x (n * c - 1 - (r * c + (k + -1))).toNat := by
      rw [show (n * c - 1 - (r * c + (k + -1))).toNat = (n * c - 1 - (r * c + k)).toNat + 1 by omega]; rfl
    rw [es]
    refine ih (k + -1) _ (by omega) (by omega) ⟨by rw [w_na (by decide)]; exact w.1, by rw [w_na (by decide)]; exact w.2.1, fun r' k' a1 a2 a3 a4 => ?_⟩ (f.w (Or.inr ⟨rfl, by omega, by omega⟩))
    by_cases z : r' = r ∧ k' = k
    · rw [z.1, z.2, show 792 + 6 * r + k = 72 * 11 + 6 * r + k by omega, w_s, if_pos ⟨r1, k1, by omega⟩]; rfl
    · rw [w_nj (by omega), w.2.2 r' k' a1 a2 a3 a4]
      by_cases y : r' < n ∧ k' < c
      · have ne : ¬ r' * c + k' = r * c + k := fun q => z (ix_inj a3 y.2 (by omega) k1 q)
        by_cases y2 : r * c + k < r' * c + k'
        · rw [if_pos ⟨y.1, y.2, y2⟩, if_pos ⟨y.1, y.2, by omega⟩]
        · rw [if_neg (fun q => y2 q.2.2), if_neg (fun q => by have := q.2.2; omega)]
      · rw [if_neg (fun q => y ⟨q.1, q.2.1⟩), if_neg (fun q => y ⟨q.1, q.2.1⟩)]
theorem m_list (hd : 2 ≤ d) {n c x : Int} (n1 : 1 ≤ n) (n2 : n ≤ 2) (c1 : 1 ≤ c) (c3 : c ≤ 3) (x0 : 0 ≤ x) (x1 : x < 2147483648) : z_CY D M_X13_list d [(2, 88), (0, 11), (0, n), (0, c), (0, x)] G h (fun out G' h' => out = .inl none ∧ G' = G ∧ frB mlF h h' ∧ isM h' 11 (liT n c x)) := by
  have lp : ∀ (m : Nat) (r : Int) (h1 : zH), r + 1 = m → r < n → mliI h1 n c x ((r + 1) * c - 1) → frB mlF h h1 → z_Y D M_X13_list d 16 [(0, 2, 88), (1, 0, 11), (3, 0, c), (5, 0, dv x (n * c - (r + 1) * c).toNat), (6, 0, r)] [] G h1 (fun out G' h' => out = .inl none ∧ G' = G ∧ frB mlF h h' ∧ isM h' 11 (liT n c x)) := by
    intro m
    induction m with
    | zero =>
      intro r h1 e r1 w f
      obtain rfl : r = -1 := by omega
      refine b_X13_list_16 ⟨by decide, by decide⟩ (fun _ => ⟨rfl, rfl, f, w.1, w.2.1, fun r k a1 a2 a3 a4 => ?_⟩) (fun q => absurd (by decide) q)
      have e0 : (-1 + 1 : Int) * c - 1 = -1 := by rw [show (-1 + 1 : Int) = 0 from rfl, Int.zero_mul]; rfl
      have q := w.2.2 r k a1 a2 a3 a4
      rw [e0] at q
      rw [show 72 * 11 + 6 * r + k = 792 + 6 * r + k by omega, q]
      show _ = if r < n ∧ k < c then lv x (n * c - 1 - (r * c + k)) else 0
      by_cases y : r < n ∧ k < c
      · have ix := ix_lt a1 y.1 a3 y.2
        rw [if_pos ⟨y.1, y.2, by omega⟩, if_pos y]
      · rw [if_neg (fun q => y ⟨q.1, q.2.1⟩), if_neg y]
    | succ m ih =>
      intro r h1 e r1 w f
      refine b_X13_list_16 ⟨by omega, by omega⟩ (fun q => by omega) (fun _ => ?_)
      have em : (r + 1) * c = r * c + c := by rw [Int.add_mul, Int.one_mul]
      have q := l_ml26 (D := D) (G := G) (h0 := h) hd n1 n2 c1 c3 x0 x1 (by omega : 0 ≤ r) r1 (fun h2 w2 f2 => by
        have z := ih (r + -1) h2 (by omega) (by omega) (by rw [show r + -1 + 1 = r by omega]; exact w2) f2
        rw [show r + -1 + 1 = r by omega] at z
        exact z) c.toNat (c - 1) h1 (by omega) (by omega) (by rw [show r * c + (c - 1) = (r + 1) * c - 1 by omega]; exact w) f
      rw [show n * c - 1 - (r * c + (c - 1)) = n * c - (r + 1) * c by omega] at q
      exact q
  refine z_begin mo_X13_list rfl (nle rfl) (b_X13_list_0 (z_Kv.of (d2 := d - 1) (by omega) (a_X13_shape 11 n c (by decide) (by decide)) ?_))
  rintro out G1 h1 hl1 ⟨r1, rfl, rfl⟩
  refine ⟨r1, b_X13_list_7 ?_⟩
  have q := lp n.toNat (n - 1) (zfr (z_wr (z_wr h 89 11 n) 90 11 c) 91 (72 * 11) 72 0) (by omega) (by omega) ⟨by rw [zfr_na (by decide), w_na (by decide), w_s], by rw [zfr_na (by decide), w_s], fun r k a1 a2 a3 a4 => ?_⟩ (fun a j w => ?_)
  · rw [show n - 1 + 1 = n by omega, show n * c - n * c = 0 by omega] at q
    exact q
  · rw [show n - 1 + 1 = n by omega]
    unfold zfr
    rw [if_pos ⟨rfl, by omega, by omega⟩]
    by_cases y : r < n ∧ k < c
    · have ix := ix_lt a1 y.1 a3 y.2
      rw [if_neg (fun q => by have := q.2.2; omega)]
    · rw [if_neg (fun q => y ⟨q.1, q.2.1⟩)]
  · unfold mlF at w
    unfold zfr
    rw [if_neg (by omega)]
    unfold z_wr
    rw [if_neg (by omega), if_neg (by omega)]
def mXk (k a j : Int) : Prop := (a = 88 ∧ (j = 3 ∨ j = 4)) ∨ ((a = 89 ∨ a = 90) ∧ (j = 10 ∨ j = k)) ∨ (a = 91 ∧ ((720 ≤ j ∧ j < 792) ∨ (72 * k ≤ j ∧ j < 72 * k + 72))) ∨ (92 ≤ a ∧ a ≤ 94)
theorem frM.Xk {k : Int} (f : frM h h1) : frB (mXk k) h h1 := fun a j n => by unfold mXk at n; exact f a j (by omega) (by omega) (by omega) (by omega)
theorem mT_Xk {k a j : Int} (q : mT k a j) : mXk k a j := by unfold mT at q; unfold mXk; omega
theorem l_walksX (hd : 7 ≤ d) {k w : Int} {W : zWy} (k8 : 8 ≤ k) (k9 : k ≤ 9) (w0 : 0 ≤ w) (w8 : w ≤ 8) (oW : okW W) : ∀ (n : Nat) (i : Int) (T : zTb) (h : zH), W.1 = i + n → 0 ≤ i → isM h k T → okT T → isV h w W → frB (mXk k) h0 h →
    z_Y D M_X13_walks d 2 [(0, 2, 88), (1, 0, w), (2, 0, k), (3, 0, i)] [] G h (fun out G' h' => G' = G ∧ frB (mXk k) h0 h' ∧ out = .inl (some (0, (wkR W.2 n i T).1)) ∧ ((wkR W.2 n i T).1 = -1 → isM h' k (wkR W.2 n i T).2)) := by
  have w1 := oW.1
  have w2 := oW.2.1
  intro n
  induction n with
  | zero =>
    intro i T h e i0 kM oT kv f
    have e1 := kv.1
    exact b_X13_walks_2 w0 (by omega) ⟨by omega, by omega⟩ ⟨by omega, by omega⟩ (fun c => by omega) (fun c => by omega) (fun _ => ⟨rfl, f, rfl, fun _ => kM⟩) (fun c => by omega)
  | succ n ih =>
    intro i T h e i0 kM oT kv f
    have e1 := kv.1
    have i1 : i < W.1 := by omega
    have cr := oW.2.2 i i0 i1
    obtain ⟨v1, v2, v3⟩ := kv.2 i i0 i1
    refine b_X13_walks_2 w0 (by omega) ⟨by omega, by omega⟩ ⟨by omega, by omega⟩ (fun c => by omega) (fun c => by omega) (fun c => by omega) (fun _ => ?_)
    rw [v1, v2, v3]
    refine z_Ki.of (d2 := d - 1) (by omega) (m_makes (by omega) kM (by omega) (by omega) (by omega) oT ⟨by omega, by omega⟩ ⟨by omega, by omega⟩ ⟨by omega, by omega⟩) ?_
    rintro out G' h2 hl2 ⟨rfl, fm, hr⟩
    cases es : sMake (W.2 i / 64) (W.2 i / 8 % 8) (W.2 i % 8) T with
    | none =>
      rw [es] at hr
      rw [wkR_n es]
      refine ⟨0, hr, b_X13_walks_50 ⟨by omega, by omega⟩ (fun c => absurd rfl c) (fun _ => ⟨rfl, f.tr fm.Xk, rfl, fun q => ?_⟩)⟩
      have q : i = -1 := q
      omega
    | some U =>
      rw [es] at hr
      rw [wkR_s es]
      refine ⟨1, hr.1, b_X13_walks_50 ⟨by omega, by omega⟩ (fun _ => ?_) (fun c => absurd (by decide : ¬ (1 : Int) = 0) c)⟩
      refine z_Kv.of (d2 := d - 1) (by omega) (m_become (by omega) (by omega) (by omega) (by omega) hr.2) ?_
      rintro out2 G'' h3 hl3 ⟨r3, rfl, f3, m3⟩
      have fB := f.tr (fm.Xk.tr (f3.imp fun a j q => mT_Xk q))
      refine ⟨r3, b_X13_walks_62 (ih (i + 1) U h3 (by omega) (by omega) m3 (sMake_ok oT es).1 ?_ fB)⟩
      exact isV_B kv (fm.B.tr (f3.imp fun a j q => mT_W k8 q)) (fun a j a1 a2 q => by unfold mW at q; omega)
theorem m_walksX (hd : 7 ≤ d) {k w : Int} {W : zWy} {T : zTb} (k8 : 8 ≤ k) (k9 : k ≤ 9) (w0 : 0 ≤ w) (w8 : w ≤ 8) (oW : okW W) (kv : isV h w W) (m : isM h k T) (oT : okT T) : z_CY D M_X13_walks d [(2, 88), (0, w), (0, k)] G h (fun out G' h' => G' = G ∧ frB (mXk k) h h' ∧ out = .inl (some (0, (wkR W.2 W.1.toNat 0 T).1)) ∧ ((wkR W.2 W.1.toNat 0 T).1 = -1 → isM h' k (wkR W.2 W.1.toNat 0 T).2)) := by
  have w1 := oW.1
  exact z_begin mo_X13_walks rfl (nle rfl) (b_X13_walks_0 (l_walksX hd k8 k9 w0 w8 oW W.1.toNat 0 T h (by omega) (by omega) m oT kv frB.rf))
theorem l_m94 (hd : 8 ≤ d) {x1 x2 c r u n all : Int} {q : Int × zA} {k : Int → Int × zA} (o : aok S) (a1 : 0 ≤ x1 ∧ x1 ≤ 7) (a2 : 0 ≤ x2 ∧ x2 ≤ 7) (a5 : 0 ≤ u ∧ u ≤ 7) (n1 : 1 ≤ n) (n2 : n ≤ 2) (c1 : 1 ≤ c) (c3 : c ≤ 3) (all1 : all ≤ 46656)
    (K : ∀ (h' : zH) (t : Int), 0 ≤ t → t ≤ 1000 → q = k t → mAb h' S → (∀ b j : Int, ¬ (88 ≤ b ∧ b < 114) → h' b j = h0 b j) → z_Y D M_X13_part d 56 [(0, 2, 88), (1, 0, x1), (2, 0, x2), (3, 0, c), (4, 0, r), (5, 0, u), (6, 0, t), (7, 0, n + 1)] [] G h' (mCl (0, q.1) q.2 G h0)) :
    ∀ (m : Nat) (x t : Int) (h : zH), x + m = all → 0 ≤ x → 0 ≤ t → t ≤ 1000 → q = pfin S u (pin (S.2.1 x1) (S.2.1 x2) n c m x t) k → mAb h S → (∀ b j : Int, ¬ (88 ≤ b ∧ b < 114) → h b j = h0 b j) →
    z_Y D M_X13_part d 94 [(0, 2, 88), (1, 0, x1), (2, 0, x2), (3, 0, c), (4, 0, r), (5, 0, u), (6, 0, t), (7, 0, n), (8, 0, all), (9, 0, x)] [] G h (mCl (0, q.1) q.2 G h0) := by
  intro m
  induction m with
  | zero =>
    intro x t h e x0 t0 t1 eq ca f
    refine b_X13_part_94 ⟨by omega, by omega⟩ ⟨by omega, by omega⟩ (fun w => by omega) (fun _ => K h t t0 t1 ?_ ca f) (fun w => by omega) (fun w => by omega)
    rw [eq, pin]
    exact (if_neg (by decide : ¬ (0 : Int) = 1)).trans (if_neg (by decide : ¬ (0 : Int) = 2))
  | succ m ih =>
    intro x t h e x0 t0 t1 eq ca f
    refine b_X13_part_94 ⟨by omega, by omega⟩ ⟨by omega, by omega⟩ (fun _ => ⟨by omega, by omega⟩) (fun w => by omega) (fun _ w => ?_) (fun _ w => mCl.y (x := -3) (S' := S) (by
      rw [eq, pin_f (Classical.not_not.mp w)]
      exact (if_neg (by decide : ¬ (2 : Int) = 1)).trans (if_pos rfl)) rfl f ca)
    have oW := o.1.2 x1 a1.1 (by omega)
    have oV := o.1.2 x2 a2.1 (by omega)
    have oL := liT_ok (x := x) n1 n2 c1 c3
    refine z_Kv.of (d2 := d - 1) (by omega) (m_list (by omega) n1 n2 c1 c3 x0 (by omega)) ?_
    rintro out G1 h1 hl1 ⟨r1, rfl, f1, k1⟩
    refine ⟨r1, b_X13_part_126 (z_Kv.of (d2 := d - 1) (by omega) (m_become (k := 8) (u := 11) (by decide) (by decide) (by decide) (by decide) k1) ?_)⟩
    rintro out2 G2 h2 hl2 ⟨r2, rfl, f2, k2⟩
    have k2' : isM h2 11 (liT n c x) := isM_B k1 f2 (by unfold mT; omega) (by unfold mT; omega) (fun j _ _ => by unfold mT; omega)
    refine ⟨r2, b_X13_part_134 (z_Kv.of (d2 := d - 1) (by omega) (m_become (k := 9) (u := 11) (by decide) (by decide) (by decide) (by decide) k2') ?_)⟩
    rintro out3 G3 h3 hl3 ⟨r3, rfl, f3, k3⟩
    have k38 : isM h3 8 (liT n c x) := isM_B k2 f3 (by unfold mT; omega) (by unfold mT; omega) (fun j _ _ => by unfold mT; omega)
    have k311 : isM h3 11 (liT n c x) := isM_B k2' f3 (by unfold mT; omega) (by unfold mT; omega) (fun j _ _ => by unfold mT; omega)
    have F3 : frB mSc h h3 := ((f1.imp fun a j w => by unfold mlF at w; unfold mSc; omega).tr (f2.imp fun a j w => by unfold mT at w; unfold mSc; omega)).tr (f3.imp fun a j w => by unfold mT at w; unfold mSc; omega)
    have ca3 := mAb_0 o ca F3
    refine ⟨r3, b_X13_part_142 (z_Ki.of (d2 := d - 1) (by omega) (m_walksX (k := 8) (by omega) (by decide) (by decide) a1.1 (by omega) oW (ca3.1.2 x1 a1.1 (by omega)) k38 oL) ?_)⟩
    rintro out4 G4 h4 hl4 ⟨rfl, f4, r4, c4⟩
    have rg := wkR_rg (c := (S.2.1 x1).2) (S.2.1 x1).1.toNat 0 (liT n c x) (by omega)
    have rg' := wkR_rg (c := (S.2.1 x2).2) (S.2.1 x2).1.toNat 0 (liT n c x) (by omega)
    have oR := wkR_ok (c := (S.2.1 x1).2) (S.2.1 x1).1.toNat 0 (liT n c x) oL
    have oR' := wkR_ok (c := (S.2.1 x2).2) (S.2.1 x2).1.toNat 0 (liT n c x) oL
    have l12 := oW.2.1
    have l12' := oV.2.1
    have k49 : isM h4 9 (liT n c x) := isM_B k3 f4 (by unfold mXk; omega) (by unfold mXk; omega) (fun j _ _ => by unfold mXk; omega)
    have k411 : isM h4 11 (liT n c x) := isM_B k311 f4 (by unfold mXk; omega) (by unfold mXk; omega) (fun j _ _ => by unfold mXk; omega)
    have F4 : frB mSc h h4 := F3.tr (f4.imp fun a j w => by unfold mXk at w; unfold mSc; omega)
    have ca4 := mAb_0 o ca F4
    have eP : pts (S.2.1 x1) (S.2.1 x2) (liT n c x) = ¬ (((wkR (S.2.1 x1).2 (S.2.1 x1).1.toNat 0 (liT n c x)).1 = -1 ↔ (wkR (S.2.1 x2).2 (S.2.1 x2).1.toNat 0 (liT n c x)).1 = -1) ∧ ((wkR (S.2.1 x1).2 (S.2.1 x1).1.toNat 0 (liT n c x)).1 = -1 → teq (wkR (S.2.1 x1).2 (S.2.1 x1).1.toNat 0 (liT n c x)).2 (wkR (S.2.1 x2).2 (S.2.1 x2).1.toNat 0 (liT n c x)).2)) := rfl
    have yes : ∀ h5 : zH, pts (S.2.1 x1) (S.2.1 x2) (liT n c x) → frB mSc h h5 → isM h5 11 (liT n c x) → z_Y D M_X13_part d 205 [(0, 2, 88), (5, 0, u), (6, 0, t + 1)] [] G4 h5 (mCl (0, q.1) q.2 G4 h0) := by
      intro h5 p F5 k5
      rw [pin_y w p] at eq
      refine b_X13_part_205 (z_Kv.of (d2 := d - 1) (by omega) (m_become a5.1 (by omega) (by decide) (by decide) k5) ?_)
      rintro out6 G6 h6 hl6 ⟨r6, rfl, f6, k6⟩
      have F6 : frB (fun a j => mT u a j ∨ mSc a j) h h6 := (F5.imp fun _ _ w => Or.inr w).tr (f6.imp fun _ _ w => Or.inl w)
      exact ⟨r6, b_X13_part_213 (mCl.y (x := t + 1) (S' := puT S u (liT n c x)) (by rw [eq]; exact if_pos rfl) rfl (fun y j w => by rw [F6 y j (by unfold mT mSc; omega)]; exact f y j w) (mAb_T o ca a5 F6 k6))⟩
    have no : ∀ h5 : zH, ¬ pts (S.2.1 x1) (S.2.1 x2) (liT n c x) → frB mSc h h5 → z_Y D M_X13_part d 94 [(0, 2, 88), (1, 0, x1), (2, 0, x2), (3, 0, c), (4, 0, r), (5, 0, u), (6, 0, t + 1), (7, 0, n), (8, 0, all), (9, 0, x + 1)] [] G4 h5 (mCl (0, q.1) q.2 G4 h0) := by
      intro h5 p F5
      rw [pin_n w p] at eq
      exact ih (x + 1) (t + 1) h5 (by omega) (by omega) (by omega) (by omega) eq (mAb_0 o ca F5) (fun y j w => by rw [F5 y j (by unfold mSc; omega)]; exact f y j w)
    have go2 : ∀ s0 : Int, s0 = z_b ((wkR (S.2.1 x1).2 (S.2.1 x1).1.toNat 0 (liT n c x)).1 = -1) → z_Y D M_X13_part d 158 [(0, 2, 88), (1, 0, x1), (2, 0, x2), (3, 0, c), (4, 0, r), (5, 0, u), (6, 0, t + 1), (7, 0, n), (8, 0, all), (9, 0, x)] [(0, s0)] G4 h4 (mCl (0, q.1) q.2 G4 h0) := by
      intro s0 es0
      refine b_X13_part_158 (z_Ki.of (d2 := d - 1) (by omega) (m_walksX (k := 9) (by omega) (by decide) (by decide) a2.1 (by omega) oV (ca4.1.2 x2 a2.1 (by omega)) k49 oL) ?_)
      rintro out5 G5 h5 hl5 ⟨rfl, f5, r5, c5⟩
      have F5 : frB mSc h h5 := F4.tr (f5.imp fun a j w => by unfold mXk at w; unfold mSc; omega)
      have k511 : isM h5 11 (liT n c x) := isM_B k411 f5 (by unfold mXk; omega) (by unfold mXk; omega) (fun j _ _ => by unfold mXk; omega)
      have c4' : (wkR (S.2.1 x1).2 (S.2.1 x1).1.toNat 0 (liT n c x)).1 = -1 → isM h5 8 (wkR (S.2.1 x1).2 (S.2.1 x1).1.toNat 0 (liT n c x)).2 := fun z => isM_B (c4 z) f5 (by unfold mXk; omega) (by unfold mXk; omega) (fun j _ _ => by unfold mXk; omega)
      generalize wkR (S.2.1 x1).2 (S.2.1 x1).1.toNat 0 (liT n c x) = A at *
      generalize wkR (S.2.1 x2).2 (S.2.1 x2).1.toNat 0 (liT n c x) = B at *
      have b3 := z_b01 (A.1 = -1)
      have at176 : ∀ x11 : Int, x11 = z_b (B.1 = -1) → z_Y D M_X13_part d 176 [(0, 2, 88), (1, 0, x1), (2, 0, x2), (3, 0, c), (4, 0, r), (5, 0, u), (6, 0, t + 1), (7, 0, n), (8, 0, all), (9, 0, x), (10, 0, s0)] [(0, x11)] G5 h5 (mCl (0, q.1) q.2 G5 h0) := by
        intro x11 e11
        have b4 := z_b01 (B.1 = -1)
        refine b_X13_part_176 ⟨by omega, by omega⟩ ⟨by omega, by omega⟩ (fun z => yes h5 ?_ F5 k511) (fun z z2 => no h5 ?_ F5) (fun z z2 => ?_)
        · rw [eP]
          rintro ⟨y, -⟩
          by_cases a : A.1 = -1
          · rw [z_b1 a] at es0; rw [z_b1 (y.1 a)] at e11; omega
          · rw [z_b0 a] at es0; rw [z_b0 (fun b => a (y.2 b))] at e11; omega
        · rw [eP]
          have na : ¬ A.1 = -1 := fun a => by rw [z_b1 a] at es0; omega
          have nb : ¬ B.1 = -1 := fun a => by rw [z_b1 a] at e11; omega
          exact fun y => y ⟨⟨fun a => absurd a na, fun b => absurd b nb⟩, fun a => absurd a na⟩
        · have ya : A.1 = -1 := Classical.byContradiction fun a => by rw [z_b0 a] at es0; omega
          have yb : B.1 = -1 := Classical.byContradiction fun a => by rw [z_b0 a] at e11; omega
          refine z_Ki.of (d2 := d - 1) (by omega) (a_fit (by omega) (by decide) (by decide) (by decide) (by decide) (c4' ya) (c5 yb) oR oR' ⟨by decide, by decide⟩) ?_
          rintro out7 G7 h7 hl7 ⟨r7, rfl, rfl⟩
          rw [flk_0] at r7
          have b5 := z_b01 (teq A.2 B.2)
          refine ⟨_, r7, b_X13_part_199 ⟨by omega, by omega⟩ (fun y => yes h7 ?_ F5 k511) (fun y => no h7 ?_ F5)⟩
          · rw [eP]
            rintro ⟨-, p⟩
            rw [z_b1 (p ya)] at y
            exact absurd y (by decide)
          · rw [eP]
            exact fun p => p ⟨⟨fun _ => yb, fun _ => ya⟩, fun _ => Classical.byContradiction fun a => y (z_b0 a)⟩
      exact ⟨_, r5, b_X13_part_167 ⟨by omega, by omega⟩ (fun z => at176 0 (by rw [z_b0 z])) (fun z => at176 1 (by rw [z_b1 (Classical.not_not.mp z)]))⟩
    exact ⟨_, r4, b_X13_part_149 ⟨by omega, by omega⟩ (fun z => go2 0 (by rw [z_b0 z])) (fun z => go2 1 (by rw [z_b1 (Classical.not_not.mp z)]))⟩
theorem mm_part (hd : 8 ≤ d) {x1 x2 x3 x4 x5 : Int} (i1 : z_in x1) (i2 : z_in x2) (i3 : z_in x3) (i4 : z_in x4) (i5 : z_in x5) (o : aok S) (c : mAb h S) : z_CY D M_X13_part d [(2, 88), (0, x1), (0, x2), (0, x3), (0, x4), (0, x5)] G h (mCl (0, (q_part x1 x2 x3 x4 x5 S).1) (q_part x1 x2 x3 x4 x5 S).2 G h) := by
  have j3 := i3
  have j4 := i4
  unfold z_in at j3 j4
  refine z_begin mo_X13_part rfl (nle rfl) (b_X13_part_0 (by omega) i1 (fun _ => i2) (fun _ _ => i3) (fun _ _ => ⟨by omega, by omega⟩) (fun _ _ _ => i4) (fun _ _ _ => ⟨by omega, by omega⟩) (fun _ _ _ _ => i5) (fun a b w w3 e => ?_) (fun _ _ _ _ w => mCl.n c (if_neg (by omega)) rfl) (fun _ _ _ w => mCl.n c (if_neg (by omega)) rfl) (fun _ _ w => mCl.n c (if_neg (by omega)) rfl) (fun _ w => mCl.n c (if_neg (by omega)) rfl) (fun w => mCl.n c (if_neg (by omega)) rfl))
  have e0 : q_part x1 x2 x3 x4 x5 S = pfin S x5 (pin (S.2.1 x1) (S.2.1 x2) 1 x3 (s6 (1 * x3).toNat).toNat 0 0) (fun t => if x4 = 1 then (-1, S) else pfin S x5 (pin (S.2.1 x1) (S.2.1 x2) 2 x3 (s6 (2 * x3).toNat).toNat 0 t) (fun _ => (-1, S))) := if_pos ⟨a, b, e, by omega, by omega⟩
  have rd : ∀ (n : Int) (k : Int → Int × zA) (t : Int) (h1 : zH), 1 ≤ n → n ≤ 2 → n ≤ x4 → 0 ≤ t → t ≤ 1000 → q_part x1 x2 x3 x4 x5 S = pfin S x5 (pin (S.2.1 x1) (S.2.1 x2) n x3 (s6 (n * x3).toNat).toNat 0 t) k → mAb h1 S → (∀ b j : Int, ¬ (88 ≤ b ∧ b < 114) → h1 b j = h b j) →
      (∀ (h' : zH) (t : Int), 0 ≤ t → t ≤ 1000 → q_part x1 x2 x3 x4 x5 S = k t → mAb h' S → (∀ b j : Int, ¬ (88 ≤ b ∧ b < 114) → h' b j = h b j) → z_Y D M_X13_part d 56 [(0, 2, 88), (1, 0, x1), (2, 0, x2), (3, 0, x3), (4, 0, x4), (5, 0, x5), (6, 0, t), (7, 0, n + 1)] [] G h' (mCl (0, (q_part x1 x2 x3 x4 x5 S).1) (q_part x1 x2 x3 x4 x5 S).2 G h)) →
      z_Y D M_X13_part d 56 [(0, 2, 88), (1, 0, x1), (2, 0, x2), (3, 0, x3), (4, 0, x4), (5, 0, x5), (6, 0, t), (7, 0, n)] [] G h1 (mCl (0, (q_part x1 x2 x3 x4 x5 S).1) (q_part x1 x2 x3 x4 x5 S).2 G h) := by
    intro n k t h1 n1 n2 n4 t0 t1 eq ca f K
    have nb : 0 ≤ n * x3 ∧ n * x3 ≤ 6 := by
      have : n = 1 ∨ n = 2 := by omega
      rcases this with q | q <;> rw [q] <;> omega
    have sr := s6_rg (n * x3).toNat (by omega)
    have lp : ∀ (m k' : Nat), (k' : Int) + m = n * x3 → z_Y D M_X13_part d 69 [(0, 2, 88), (1, 0, x1), (2, 0, x2), (3, 0, x3), (4, 0, x4), (5, 0, x5), (6, 0, t), (7, 0, n), (8, 0, s6 k'), (9, 0, (k' : Int))] [] G h1 (mCl (0, (q_part x1 x2 x3 x4 x5 S).1) (q_part x1 x2 x3 x4 x5 S).2 G h) := by
      intro m
      induction m with
      | zero =>
        intro k' ek
        have e1 : k' = (n * x3).toNat := by omega
        rw [e1]
        exact b_X13_part_69 ⟨by omega, by omega⟩ ⟨by omega, by omega⟩ (fun _ => l_m94 hd o a b e n1 n2 w.1 w.2 sr.2 K (s6 (n * x3).toNat).toNat 0 t h1 (by omega) (Int.le_refl 0) t0 t1 eq ca f) (fun q => by omega)
      | succ m ih =>
        intro k' ek
        exact b_X13_part_69 ⟨by omega, by omega⟩ ⟨by omega, by omega⟩ (fun q => by omega) (fun _ => ih (k' + 1) (by omega))
    exact b_X13_part_56 ⟨by omega, by omega⟩ i4 (fun q => by omega) (fun _ => lp (n * x3).toNat 0 (by omega))
  refine rd 1 _ 0 h (by decide) (by decide) (by omega) (by decide) (by decide) e0 c (fun _ _ _ => rfl) fun h' t t0 t1 eq ca f => ?_
  by_cases z : x4 = 1
  · have eq : q_part x1 x2 x3 x4 x5 S = (-1, S) := eq.trans (if_pos z)
    exact b_X13_part_56 ⟨by decide, by decide⟩ i4 (fun _ => mCl.y eq rfl f ca) (fun w => absurd (by omega) w)
  · have eq := eq.trans (if_neg z)
    refine rd 2 _ t h' (by decide) (by decide) (by omega) t0 t1 eq ca f fun h2 t2 t20 t21 eq2 ca2 f2 => ?_
    exact b_X13_part_56 ⟨by decide, by decide⟩ i4 (fun _ => mCl.y eq2 rfl f2 ca2) (fun w => absurd (by omega) w)
end CalF
