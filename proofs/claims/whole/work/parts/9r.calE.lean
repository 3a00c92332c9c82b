/-! part -/
def dv (x : Int) : Nat → Int
  | 0 => x
  | n + 1 => dv x n / 6
def lv (x e : Int) : Int := z_list [0, 97, 98, 6368610, 49, 50] (dv x e.toNat % 6)
def liT (n c x : Int) : zTb := (n, c, fun r k => lv x (n * c - 1 - (r * c + k)))
def s6 : Nat → Int
  | 0 => 1
  | n + 1 => s6 n * 6
def pts (W V : zWy) (T : zTb) : Prop := ¬ (((wkR W.2 W.1.toNat 0 T).1 = -1 ↔ (wkR V.2 V.1.toNat 0 T).1 = -1) ∧ ((wkR W.2 W.1.toNat 0 T).1 = -1 → teq (wkR W.2 W.1.toNat 0 T).2 (wkR V.2 V.1.toNat 0 T).2))
noncomputable def pin (W V : zWy) (n c : Int) : Nat → Int → Int → Int × Int × zTb
  | 0, _, t => (0, t, zBl)
  | m + 1, x, t => if t = 1000 then (2, t, zBl) else zif (pts W V (liT n c x)) (1, t + 1, liT n c x) (pin W V n c m (x + 1) (t + 1))
def pfin (S : zA) (u : Int) (a : Int × Int × zTb) (k : Int → Int × zA) : Int × zA := if a.1 = 1 then (a.2.1, puT S u a.2.2) else if a.1 = 2 then (-3, S) else k a.2.1
noncomputable def q_part (w v c r u : Int) (S : zA) : Int × zA := if (0 ≤ w ∧ w ≤ 7) ∧ (0 ≤ v ∧ v ≤ 7) ∧ (0 ≤ u ∧ u ≤ 7) ∧ (1 ≤ c ∧ c ≤ 3) ∧ 1 ≤ r ∧ r ≤ 2 then pfin S u (pin (S.2.1 w) (S.2.1 v) 1 c (s6 (1 * c).toNat).toNat 0 0) (fun t => if r = 1 then (-1, S) else pfin S u (pin (S.2.1 w) (S.2.1 v) 2 c (s6 (2 * c).toNat).toNat 0 t) (fun _ => (-1, S))) else (-2, S)
section CalE
variable {D : zD} {d : Nat} {G : zG} {h h' h0 h1 : zH} {S : zA} {Q : zO → zG → zH → Prop}
theorem dv_rg {x : Int} (x0 : 0 ≤ x) (x1 : x < 2147483648) : ∀ n : Nat, 0 ≤ dv x n ∧ dv x n < 2147483648 := by
  intro n
  induction n with
  | zero => exact ⟨x0, x1⟩
  | succ n ih => show 0 ≤ dv x n / 6 ∧ dv x n / 6 < 2147483648; omega
theorem lv_rg (x e : Int) : 0 ≤ lv x e ∧ lv x e < 72057594037927936 := by
  unfold lv
  have : dv x e.toNat % 6 = 0 ∨ dv x e.toNat % 6 = 1 ∨ dv x e.toNat % 6 = 2 ∨ dv x e.toNat % 6 = 3 ∨ dv x e.toNat % 6 = 4 ∨ dv x e.toNat % 6 = 5 := by omega
  rcases this with q | q | q | q | q | q <;> rw [q] <;> decide
theorem liT_ok {n c x : Int} (n1 : 1 ≤ n) (n2 : n ≤ 2) (c1 : 1 ≤ c) (c3 : c ≤ 3) : okT (liT n c x) := ⟨⟨n1, by show n ≤ 12; omega, c1, by show c ≤ 6; omega⟩, fun r k _ _ _ _ => by
  have := lv_rg x (n * c - 1 - (r * c + k))
  exact ⟨by show -1 ≤ lv _ _; omega, this.2⟩⟩
theorem s6_rg : ∀ n : Nat, n ≤ 6 → 1 ≤ s6 n ∧ s6 n ≤ 46656 := by
  intro n hn
  have : n = 0 ∨ n = 1 ∨ n = 2 ∨ n = 3 ∨ n = 4 ∨ n = 5 ∨ n = 6 := by omega
  rcases this with q | q | q | q | q | q | q <;> rw [q] <;> decide
/-! the class: the list of tables -/
def wlI (h : zH) (n c x p : Int) : Prop := h 29 1 = n ∧ h 29 2 = c ∧ ∀ i : Int, p < i → i < n * c → h 30 i = lv x (n * c - 1 - i)
theorem l_wl28 (hd : 2 ≤ d) {n c x r : Int} (n1 : 1 ≤ n) (n2 : n ≤ 2) (c1 : 1 ≤ c) (c3 : c ≤ 3) (x0 : 0 ≤ x) (x1 : x < 2147483648) (r0 : 0 ≤ r) (r1 : r < n)
    (K : ∀ h : zH, wlI h n c x (r * c - 1) → frB (fun a _ => a = 29 ∨ a = 30) h0 h → z_Y D M_X11_writeListed d 18 [(0, 2, 0), (2, 0, c), (4, 0, dv x (n * c - r * c).toNat), (5, 0, r + (-1))] [] G h Q) : ∀ (m : Nat) (k : Int) (h : zH), k + 1 = m → k < c → wlI h n c x (r * c + k) → frB (fun a _ => a = 29 ∨ a = 30) h0 h →
    z_Y D M_X11_writeListed d 28 [(0, 2, 0), (2, 0, c), (4, 0, dv x (n * c - 1 - (r * c + k)).toNat), (5, 0, r), (6, 0, k)] [] G h Q := by
  intro m
  induction m with
  | zero =>
    intro k h e k1 w f
    obtain rfl : k = -1 := by omega
    refine b_X11_writeListed_28 hd ⟨by decide, by decide⟩ (fun q => absurd (by decide) q) (fun q => absurd (by decide) q) (fun q => absurd (by decide) q) (fun q => absurd (by decide) q) (fun _ => ?_) (fun q => absurd (by decide) q)
    rw [show n * c - 1 - (r * c + -1) = n * c - r * c by omega]
    exact K h (by rw [show r * c - 1 = r * c + -1 by omega]; exact w) f
  | succ m ih =>
    intro k h e k1 w f
    have dr := dv_rg x0 x1 (n * c - 1 - (r * c + k)).toNat
    have ix := ix_lt r0 r1 (by omega : 0 ≤ k) k1
    have rc : n * c ≤ 6 := by
      have : n = 1 ∨ n = 2 := by omega
      rcases this with q | q <;> rw [q] <;> omega
    have em := z_irem_n (y := 6) dr.1 dr.2 (by decide) (by decide)
    have ed := z_idiv_n (y := 6) dr.1 dr.2 (by decide) (by decide)
    refine b_X11_writeListed_28 hd ⟨by omega, by omega⟩ (fun _ => by rw [em]; omega) (fun _ => by rw [em]; omega) (fun _ => by rw [w.2.1]; exact ix.1) (fun _ => by rw [w.2.1]; omega) (fun q => by omega) (fun _ => ?_)
    rw [em, ed, w.2.1]
    have es : dv x (n * c - 1 - (r * c + k)).toNat / 6 = dv x (n * c - 1 - (r * c + (k + -1))).toNat := by
      rw [show (n * c - 1 - (r * c + (k + -1))).toNat = (n * c - 1 - (r * c + k)).toNat + 1 by omega]; rfl
    rw [es]
    refine ih (k + -1) _ (by omega) (by omega) ⟨by rw [w_na (by decide)]; exact w.1, by rw [w_na (by decide)]; exact w.2.1, fun i i0 i1 => ?_⟩ (f.w (Or.inr rfl))
    by_cases z : i = r * c + k
    · rw [z, w_s]; rfl
    · rw [w_nj (by omega)]; exact w.2.2 i (by omega) i1
theorem c_writeListed (hd : 2 ≤ d) {n c x : Int} (n1 : 1 ≤ n) (n2 : n ≤ 2) (c1 : 1 ≤ c) (c3 : c ≤ 3) (x0 : 0 ≤ x) (x1 : x < 2147483648) : z_CY D M_X11_writeListed d [(2, 0), (0, n), (0, c), (0, x)] G h (fun out G' h' => out = .inl none ∧ G' = G ∧ frB (fun a _ => a = 29 ∨ a = 30) h h' ∧ isC h' 29 (liT n c x)) := by
  have lp : ∀ (m : Nat) (r : Int) (h1 : zH), r + 1 = m → r < n → wlI h1 n c x ((r + 1) * c - 1) → frB (fun a _ => a = 29 ∨ a = 30) h h1 → z_Y D M_X11_writeListed d 18 [(0, 2, 0), (2, 0, c), (4, 0, dv x (n * c - (r + 1) * c).toNat), (5, 0, r)] [] G h1 (fun out G' h' => out = .inl none ∧ G' = G ∧ frB (fun a _ => a = 29 ∨ a = 30) h h' ∧ isC h' 29 (liT n c x)) := by
    intro m
    induction m with
    | zero =>
      intro r h1 e r1 w f
      obtain rfl : r = -1 := by omega
      refine b_X11_writeListed_18 ⟨by decide, by decide⟩ (fun _ => ⟨rfl, rfl, f, w.1, w.2.1, fun r k a1 a2 a3 a4 => ?_⟩) (fun q => absurd (by decide) q)
      have ix := ix_lt a1 a2 a3 a4
      have e0 : (-1 + 1 : Int) * c - 1 = -1 := by rw [show (-1 + 1 : Int) = 0 from rfl, Int.zero_mul]; rfl
      exact w.2.2 _ (by rw [e0]; have := ix.1; show -1 < r * c + k; have : 0 ≤ r * c + k := ix.1; omega) ix.2
    | succ m ih =>
      intro r h1 e r1 w f
      refine b_X11_writeListed_18 ⟨by omega, by omega⟩ (fun q => by omega) (fun _ => ?_)
      have em : (r + 1) * c = r * c + c := by rw [Int.add_mul, Int.one_mul]
      have q := l_wl28 (D := D) (G := G) (h0 := h) hd n1 n2 c1 c3 x0 x1 (by omega : 0 ≤ r) r1 (fun h2 w2 f2 => by
        have z := ih (r + -1) h2 (by omega) (by omega) (by rw [show r + -1 + 1 = r by omega]; exact w2) f2
        rw [show r + -1 + 1 = r by omega] at z
        exact z) c.toNat (c - 1) h1 (by omega) (by omega) (by rw [show r * c + (c - 1) = (r + 1) * c - 1 by omega]; exact w) f
      rw [show n * c - 1 - (r * c + (c - 1)) = n * c - (r + 1) * c by omega] at q
      exact q
  refine z_begin mo_X11_writeListed rfl (nle rfl) (b_X11_writeListed_0 hd ⟨by omega, by omega⟩ ⟨by omega, by omega⟩ (fun _ => ?_) (fun q => absurd ⟨⟨n1, by omega⟩, c1, by omega⟩ q))
  have q := lp n.toNat (n - 1) (z_wr (z_wr h 29 1 n) 29 2 c) (by omega) (by omega) ⟨by rw [w_nj (by decide), w_s], by rw [w_s], fun i i0 i1 => by rw [show n - 1 + 1 = n by omega] at i0; omega⟩ ((frB.rf.w (Or.inl rfl)).w (Or.inl rfl))
  rw [show n - 1 + 1 = n by omega, show n * c - n * c = 0 by omega] at q
  exact q
theorem c_listedTables {k : Int} (k0 : 0 ≤ k) (k6 : k ≤ 6) : z_Ei D M_X11_listedTables d [(0, k)] G h (s6 k.toNat) h := by
  have lp : ∀ (m n : Nat), (n : Int) + m = k → z_Y D M_X11_listedTables d 4 [(0, 0, k), (1, 0, s6 n), (2, 0, (n : Int))] [] G h (fun o G' h' => o = .inl (some (0, s6 k.toNat)) ∧ G' = G ∧ h' = h) := by
    intro m
    induction m with
    | zero =>
      intro n e
      have : k.toNat = n := by omega
      rw [this]
      exact b_X11_listedTables_4 ⟨by omega, by omega⟩ ⟨by omega, by omega⟩ (fun _ => ⟨rfl, rfl, rfl⟩) (fun q => by omega)
    | succ m ih =>
      intro n e
      exact b_X11_listedTables_4 ⟨by omega, by omega⟩ ⟨by omega, by omega⟩ (fun q => by omega) (fun _ => ih (n + 1) (by omega))
  exact z_begin mo_X11_listedTables rfl (nle rfl) (b_X11_listedTables_0 (lp k.toNat 0 (by omega)))
theorem c_partOn (hd : 7 ≤ d) {w v : Int} {W V : zWy} {T : zTb} (tw : z_is G w 7) (tv : z_is G v 7) (w56 : 56 ≤ w) (v56 : 56 ≤ v) (kw : isW h w W) (kv : isW h v V) (oW : okW W) (oV : okW V) (k : isC h 29 T) (oT : okT T) (k9 : wkI h 19) (k4 : wkI h 24) : z_CY D M_X11_partOnSpare d [(2, 0), (2, w), (2, v)] G h (fun out G' h' => out = .inl (some (0, z_b (pts W V T))) ∧ G' = G ∧ frB (fun a _ => 13 ≤ a ∧ a ≤ 28) h h' ∧ wkI h' 19 ∧ wkI h' 24) := by
  intro hl
  have t29 : z_is G 29 3 := hl.i 29 (by decide) rfl
  refine z_begin mo_X11_partOnSpare rfl (nle rfl) (b_X11_partOnSpare_0 (z_Ki.of (d2 := d - 1) (by omega) (c_go (k := 19) (by omega) (Or.inl rfl) tw (by omega) t29 (by decide) oW kw k oT k9) ?_)) hl
  intro out G1 h1 hl1 q
  unfold wkQ at q
  have rg := wkR_rg (c := W.2) W.1.toNat 0 T (by omega)
  have rg' := wkR_rg (c := V.2) V.1.toNat 0 T (by omega)
  have oR := wkR_ok (c := W.2) W.1.toNat 0 T oT
  have oR' := wkR_ok (c := V.2) V.1.toNat 0 T oT
  have l12 := oW.2.1
  have l12' := oV.2.1
  obtain ⟨P, eP⟩ : ∃ P, P = pts W V T := ⟨_, rfl⟩
  rw [← eP]
  unfold pts at eP
  obtain ⟨rfl, f1, k9', r1, c1⟩ := q
  have f1 : frB (fun a _ => 13 ≤ a ∧ a ≤ 23) h h1 := f1.imp fun a j w => by unfold wkP at w; omega
  have go2 : ∀ s0 : Int, s0 = z_b (¬ (wkR W.2 W.1.toNat 0 T).1 = -1) → z_Y D M_X11_partOnSpare d 21 [(0, 2, 0), (2, 2, v)] [(0, s0)] G1 h1 (fun out G' h' => out = .inl (some (0, z_b P)) ∧ G' = G1 ∧ frB (fun a _ => 13 ≤ a ∧ a ≤ 28) h h' ∧ wkI h' 19 ∧ wkI h' 24) := by
    intro s0 es0
    refine b_X11_partOnSpare_21 (z_Ki.of (d2 := d - 1) (by omega) (c_go (k := 24) (by omega) (Or.inr rfl) tv (by omega) t29 (by decide) oV (isW_B kv f1 (fun j => by omega) (fun j => by omega)) (isC_B k f1 (fun j => by omega) (fun j => by omega)) oT (wkI_B k4 f1 fun j => by omega)) ?_)
    intro out2 G2 h2 hl2 q2
    unfold wkQ at q2
    obtain ⟨rfl, f2, k4', r2, c2⟩ := q2
    have f2 : frB (fun a _ => (24 ≤ a ∧ a ≤ 28) ∨ (13 ≤ a ∧ a ≤ 18)) h1 h2 := f2.imp fun a j w => by unfold wkP at w; omega
    have F : frB (fun a _ => 13 ≤ a ∧ a ≤ 28) h h2 := (f1.imp fun a j w => by omega).tr (f2.imp fun a j w => by omega)
    have k9'' : wkI h2 19 := wkI_B k9' f2 fun j => by omega
    have e19 : h2 19 2 = h1 19 2 := f2 19 2 (by omega)
    have a9 : h2 19 2 = 20 ∨ h2 19 2 = 22 := by unfold wkI at k9''; omega
    have a4 : h2 24 2 = 25 ∨ h2 24 2 = 27 := by unfold wkI at k4'; omega
    have i9 : z_is G2 (h2 19 2) 3 := by rcases a9 with q | q <;> rw [q] <;> exact hl2.i _ (by decide) rfl
    have i4 : z_is G2 (h2 24 2) 3 := by rcases a4 with q | q <;> rw [q] <;> exact hl2.i _ (by decide) rfl
    have c1' : (wkR W.2 W.1.toNat 0 T).1 = -1 → isC h2 (h2 19 2) (wkR W.2 W.1.toNat 0 T).2 := fun q => by
      have := c1 q
      rw [e19]
      exact isC_B this f2 (fun j => by omega) (fun j => by omega)
    generalize wkR W.2 W.1.toNat 0 T = A at *
    generalize wkR V.2 V.1.toNat 0 T = B at *
    have end54 : ∀ x3 x4 : Int, x3 = z_b (¬ A.1 = -1) → x4 = z_b (¬ B.1 = -1) → ¬ (A.1 = -1 ∧ B.1 = -1) → z_Y D M_X11_partOnSpare d 54 [(3, 0, x3), (4, 0, x4)] [] G2 h2 (fun out G' h' => out = .inl (some (0, z_b P)) ∧ G' = G2 ∧ frB (fun a _ => 13 ≤ a ∧ a ≤ 28) h h' ∧ wkI h' 19 ∧ wkI h' 24) := by
      intro x3 x4 e3 e4 nn
      have b3 := z_b01 (¬ A.1 = -1)
      have b4 := z_b01 (¬ B.1 = -1)
      refine b_X11_partOnSpare_54 ⟨by omega, by omega⟩ ⟨by omega, by omega⟩ (fun q => ⟨?_, rfl, F, k9'', k4'⟩) (fun q => ⟨?_, rfl, F, k9'', k4'⟩)
      · rw [z_b0]
        rw [eP]
        refine fun z => z ⟨?_, fun a => ?_⟩
        · by_cases a : A.1 = -1
          · rw [z_b0 (fun z => z a)] at e3
            have : B.1 = -1 := Classical.byContradiction fun z => by rw [z_b1 z] at e4; omega
            exact ⟨fun _ => this, fun _ => a⟩
          · rw [z_b1 a] at e3
            have : ¬ B.1 = -1 := fun z => by rw [z_b0 (fun y => y z)] at e4; omega
            exact ⟨fun z => absurd z a, fun z => absurd z this⟩
        · rw [z_b0 (fun z => z a)] at e3
          have : B.1 = -1 := Classical.byContradiction fun z => by rw [z_b1 z] at e4; omega
          exact absurd ⟨a, this⟩ nn
      · rw [z_b1]
        rw [eP]
        rintro ⟨z, -⟩
        by_cases a : A.1 = -1
        · exact nn ⟨a, z.1 a⟩
        · have nb : ¬ B.1 = -1 := fun y => a (z.2 y)
          rw [z_b1 a] at e3
          rw [z_b1 nb] at e4
          omega
    have at43 : ∀ x4 : Int, x4 = z_b (¬ B.1 = -1) → z_Y D M_X11_partOnSpare d 43 [(0, 2, 0), (3, 0, s0)] [(0, x4)] G2 h2 (fun out G' h' => out = .inl (some (0, z_b P)) ∧ G' = G2 ∧ frB (fun a _ => 13 ≤ a ∧ a ≤ 28) h h' ∧ wkI h' 19 ∧ wkI h' 24) := by
      intro x4 e4
      have b3 := z_b01 (¬ A.1 = -1)
      have b4 := z_b01 (¬ B.1 = -1)
      have gA : ¬ (¬ s0 = 0) → A.1 = -1 := fun q => Classical.byContradiction fun z => by rw [z_b1 z] at es0; omega
      have gB : x4 = 0 → B.1 = -1 := fun q => Classical.byContradiction fun z => by rw [z_b1 z] at e4; omega
      refine b_X11_partOnSpare_43 (by omega) ⟨by omega, by omega⟩ (fun _ => ⟨by omega, by omega⟩) (fun _ _ => i9) (fun _ _ => i4) (fun q _ => isC_okS (c1' (gA q)) oR) (fun _ q => isC_okS (c2 (gB q)) oR') (fun q _ => isC_okC (c1' (gA q)) oR) (fun _ q => isC_okC (c2 (gB q)) oR') (fun q => end54 s0 x4 es0 e4 ?_) (fun q q2 z => ⟨?_, rfl, F, k9'', k4'⟩) (fun q q2 z => ⟨?_, rfl, F, k9'', k4'⟩) (fun q q2 => end54 s0 x4 es0 e4 ?_)
      · rintro ⟨a, b⟩
        rw [z_b0 (fun z => z a)] at es0; exact q es0
      · rw [z_b0]
        rw [eP]
        exact fun y => y ⟨⟨fun _ => gB q2, fun _ => gA q⟩, fun _ => (eqC (c1' (gA q)) (c2 (gB q2)) oR).1 z⟩
      · rw [z_b1]
        rw [eP]
        exact fun y => z ((eqC (c1' (gA q)) (c2 (gB q2)) oR).2 (y.2 (gA q)))
      · rintro ⟨a, b⟩
        rw [z_b0 (fun z => z b)] at e4; exact q2 e4
    refine ⟨_, r2, b_X11_partOnSpare_34 ⟨by omega, by omega⟩ (fun q => at43 0 (by rw [z_b0 (fun z => z q)])) (fun q => at43 1 (by rw [z_b1 q]))⟩
  exact ⟨_, r1, b_X11_partOnSpare_12 ⟨by omega, by omega⟩ (fun q => go2 0 (by rw [z_b0 (fun z => z q)])) (fun q => go2 1 (by rw [z_b1 q]))⟩
end CalE
