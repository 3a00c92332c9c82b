section CalB
variable {D : zD} {d : Nat} {G : zG} {h h' h0 h1 : zH} {S : zA} {Q : zO → zG → zH → Prop}
theorem mm_found {x1 : Int} (i1 : z_in x1) (c : mAb h S) : z_CY D M_X13_found d [(2, 88), (0, x1)] G h (mCl (0, (q_found x1 S).1) (q_found x1 S).2 G h) :=
  z_begin mo_X13_found rfl (nle rfl) (b_X13_found_0 i1 (fun a b e => mCl.n c rfl (by rw [if_neg a, if_neg b, if_neg e])) (fun a b e => mCl.n c rfl (by rw [if_neg a, if_neg b, if_pos (Classical.not_not.mp e)]; exact c.2.2.2.2.1)) (fun a b => mCl.n c rfl (by rw [if_neg a, if_pos (Classical.not_not.mp b)]; exact c.2.2.2.1)) (fun a => mCl.n c rfl (by rw [if_pos (Classical.not_not.mp a)]; exact c.2.2.2.2.2.1)))
/-! size -/
def pk (k v : Int) : Prop := (k = 2 ∧ v = 0) ∨ (k = 3 ∧ znum v) ∨ (k = 4 ∧ v = -1)
noncomputable def q_size (t k : Int) (S : zA) : Int × zA := (if 0 ≤ t ∧ t ≤ 7 then (if k = 0 then (S.1 t).1 else if k = 1 then (S.1 t).2.1 else if 2 ≤ k ∧ k ≤ 4 then zct (fun i => pk k (fl (S.1 t) i)) ((S.1 t).1 * (S.1 t).2.1).toNat else -1) else -1, S)
theorem cc_size (hd : 4 ≤ d) {x1 x2 : Int} (i1 : z_in x1) (i2 : z_in x2) (o : aok S) (c : cAb G h S) : z_CY D M_X11_size d [(2, 0), (0, x1), (0, x2)] G h (cCl (0, (q_size x1 x2 S).1) (q_size x1 x2 S).2 G h) := by
  have oT : 0 ≤ x1 ∧ x1 ≤ 7 → okT (S.1 x1) := fun a => o.1.1 x1 a.1 (by omega)
  have kT : 0 ≤ x1 ∧ x1 ≤ 7 → isC h (56 + 4 * x1) (S.1 x1) := fun a => c.1.1 x1 a.1 (by omega)
  have gS := fun a => isC_okS (kT a) (oT a)
  have gC := fun a => isC_okC (kT a) (oT a)
  have cg : ∀ (a : 0 ≤ x1 ∧ x1 ≤ 7) (p : Int → Prop), (∀ v, p v ↔ pk x2 v) → zct (fun i => p (h (56 + 4 * x1 + 1) i)) (h (56 + 4 * x1) 1 * h (56 + 4 * x1) 2).toNat = zct (fun i => pk x2 (fl (S.1 x1) i)) ((S.1 x1).1 * (S.1 x1).2.1).toNat := by
    intro a p e
    rw [(kT a).1, (kT a).2.1]
    refine zct_congr _ fun i i0 i1 => ?_
    rw [isC_fl (kT a) (oT a) i0 (by omega)]
    exact e _
  refine z_begin mo_X11_size rfl (nle rfl) (b_X11_size_0 hd i1 (fun a _ => a.1) (fun a _ => by omega) (fun a _ _ => a.1) (fun a _ _ => by omega) (fun a _ _ _ => a.1) (fun a _ _ _ => by omega) (fun a _ _ _ => gS a) (fun a _ _ _ => gC a) (fun a _ _ _ _ => a.1) (fun a _ _ _ _ => by omega) (fun a _ _ _ _ => gS a) (fun a _ _ _ _ => gC a) (fun a _ _ _ _ _ => a.1) (fun a _ _ _ _ _ => by omega) (fun a _ _ _ _ _ => gS a) (fun a _ _ _ _ _ => gC a) (fun _ _ _ _ _ _ => i2)
    (fun a w => cCl.n c rfl ?_) (fun a w w1 => cCl.n c rfl ?_) (fun a w w1 w2 => cCl.n c rfl ?_) (fun a w w1 w2 w3 => cCl.n c rfl ?_) (fun a w w1 w2 w3 w4 => cCl.n c rfl ?_) (fun a w w1 w2 w3 w4 => cCl.n c rfl ?_) (fun a => cCl.n c rfl ?_))
  · rw [if_pos a, if_pos w]; exact (kT a).1
  · rw [if_pos a, if_neg w, if_pos w1]; exact (kT a).2.1
  · rw [if_pos a, if_neg w, if_neg w1, if_pos (by omega)]
    exact cg a (fun v => v = 0) fun v => ⟨fun q => Or.inl ⟨w2, q⟩, fun q => by unfold pk at q; omega⟩
  · rw [if_pos a, if_neg w, if_neg w1, if_pos (by omega)]
    exact cg a znum fun v => ⟨fun q => Or.inr (Or.inl ⟨w3, q⟩), fun q => by
      rcases q with q | q | q
      · omega
      · exact q.2
      · omega⟩
  · rw [if_pos a, if_neg w, if_neg w1, if_pos (by omega)]
    exact cg a (fun v => v = -1) fun v => ⟨fun q => Or.inr (Or.inr ⟨w4, q⟩), fun q => by unfold pk at q; omega⟩
  · rw [if_pos a, if_neg w, if_neg w1, if_neg (by omega)]
  · rw [if_neg a]
theorem l_msz67 (hd : 3 ≤ d) {x1 x2 r : Int} {T : zTb} (i2 : z_in x2) (a : 0 ≤ x1 ∧ x1 ≤ 7) (k24 : 2 ≤ x2 ∧ x2 ≤ 4) (k : isM h x1 T) (oT : okT T) (r0 : 0 ≤ r) (r1 : r < T.1)
    (K : z_Y D M_X13_size d 53 [(0, 2, 88), (1, 0, x1), (2, 0, x2), (3, 0, zct (fun i => pk x2 (fl T i)) ((r + 1) * T.2.1).toNat), (4, 0, r + 1)] [] G h Q) : ∀ (m : Nat) (c : Int), c + m = T.2.1 → 0 ≤ c → z_Y D M_X13_size d 67 [(0, 2, 88), (1, 0, x1), (2, 0, x2), (3, 0, zct (fun i => pk x2 (fl T i)) (r * T.2.1 + c).toNat), (4, 0, r), (5, 0, c)] [] G h Q := by
  obtain ⟨a1, a2, a3, a4⟩ := oT.1
  have e90 := k.2.1
  intro m
  induction m with
  | zero =>
    intro c e c0
    refine b_X13_size_67 (by omega) a.1 (by omega) ⟨by omega, by omega⟩ (by rw [e90]; exact ⟨by omega, by omega⟩) (fun w => by omega) (fun w => by omega) (fun w => by omega) (fun w => by omega) (fun _ => ?_) (fun w => by omega) (fun w => by omega) (fun w => by omega)
    rw [show r * T.2.1 + c = (r + 1) * T.2.1 by rw [Int.add_mul]; omega]
    exact K
  | succ m ih =>
    intro c e c0
    have ev : h 91 (72 * x1 + 6 * r + c) = fl T (r * T.2.1 + c) := by
      rw [k.2.2 r c r0 (by omega) c0 (by omega), nrm, if_pos ⟨r1, by omega⟩, fl_rc c0 (by omega)]
    have ok := oT.2 r c r0 r1 c0 (by omega)
    rw [← fl_rc c0 (by omega)] at ok
    have ix := ix_lt r0 r1 c0 (by omega : c < T.2.1)
    have st := zct_s (p := fun i => pk x2 (fl T i)) ix.1
    have nx := ih (c + 1) (by omega) (by omega)
    rw [show r * T.2.1 + (c + 1) = r * T.2.1 + c + 1 by omega, st] at nx
    have yes : pk x2 (fl T (r * T.2.1 + c)) → z_Y D M_X13_size d 133 [(0, 2, 88), (1, 0, x1), (2, 0, x2), (4, 0, r), (5, 0, c)] [(0, zct (fun i => pk x2 (fl T i)) (r * T.2.1 + c).toNat)] G h Q := fun p => by
      rw [z_b1 p] at nx
      exact b_X13_size_133 (b_X13_size_138 nx)
    have no : ¬ pk x2 (fl T (r * T.2.1 + c)) → z_Y D M_X13_size d 137 [(0, 2, 88), (1, 0, x1), (2, 0, x2), (4, 0, r), (5, 0, c)] [(0, zct (fun i => pk x2 (fl T i)) (r * T.2.1 + c).toNat)] G h Q := fun p => by
      rw [z_b0 p] at nx
      exact b_X13_size_137 (b_X13_size_138 nx)
    have at119 : ¬ (x2 = 2 ∧ fl T (r * T.2.1 + c) = 0) → ¬ (x2 = 3 ∧ znum (fl T (r * T.2.1 + c))) → z_Y D M_X13_size d 119 [(0, 2, 88), (1, 0, x1), (2, 0, x2), (4, 0, r), (5, 0, c), (6, 1, fl T (r * T.2.1 + c))] [(0, zct (fun i => pk x2 (fl T i)) (r * T.2.1 + c).toNat)] G h Q := fun n2 n3 => by
      refine b_X13_size_119 i2 (fun _ => ⟨by omega, by omega⟩) (fun w => no ?_) (fun w w2 => no ?_) (fun w w2 => yes (Or.inr (Or.inr ⟨Classical.not_not.mp w, Classical.not_not.mp w2⟩)))
      · rintro (q | q | q)
        · exact n2 q
        · exact n3 q
        · exact w q.1
      · rintro (q | q | q)
        · exact n2 q
        · exact n3 q
        · exact w2 q.2
    have at106 : ¬ (x2 = 2 ∧ fl T (r * T.2.1 + c) = 0) → z_Y D M_X13_size d 106 [(0, 2, 88), (1, 0, x1), (2, 0, x2), (4, 0, r), (5, 0, c), (6, 1, fl T (r * T.2.1 + c))] [(0, zct (fun i => pk x2 (fl T i)) (r * T.2.1 + c).toNat)] G h Q := fun n2 =>
      b_X13_size_106 hd i2 (fun _ => ok.1) (fun _ => ok.2) (fun w => at119 n2 fun q => w q.1) (fun w p => yes (Or.inr (Or.inl ⟨Classical.not_not.mp w, p⟩))) (fun w p => at119 n2 fun q => p q.2)
    refine b_X13_size_67 (by omega) a.1 (by omega) ⟨by omega, by omega⟩ (by rw [e90]; exact ⟨by omega, by omega⟩) (fun w => by omega) (fun w => by omega) (fun _ => i2) (fun _ _ => by rw [ev]; exact ⟨by omega, by omega⟩) (fun w => by omega) (fun _ w => ?_) (fun _ w w2 => ?_) (fun _ w w2 => ?_)
    · rw [ev]; exact at106 fun q => w q.1
    · rw [ev] at w2; exact yes (Or.inl ⟨Classical.not_not.mp w, w2⟩)
    · rw [ev] at w2 ⊢; exact at106 fun q => w2 q.2
theorem mm_size (hd : 3 ≤ d) {x1 x2 : Int} (i1 : z_in x1) (i2 : z_in x2) (o : aok S) (c : mAb h S) : z_CY D M_X13_size d [(2, 88), (0, x1), (0, x2)] G h (mCl (0, (q_size x1 x2 S).1) (q_size x1 x2 S).2 G h) := by
  have kT : 0 ≤ x1 ∧ x1 ≤ 7 → isM h x1 (S.1 x1) := fun a => c.1.1 x1 a.1 (by omega)
  have j2 := i2
  unfold z_in at j2
  refine z_begin mo_X13_size rfl (nle rfl) (b_X13_size_0 hd i1 (fun _ => i2) (fun _ _ _ => ⟨by omega, by omega⟩) (fun a _ _ => a.1) (fun a _ _ => by omega) (fun a _ => a.1) (fun a _ => by omega) (fun a w w1 w2 => ?_) (fun a w w1 w2 => mCl.n c rfl ?_) (fun a w w1 => mCl.n c rfl ?_) (fun a w => mCl.n c rfl ?_) (fun a => mCl.n c rfl ?_))
  · have oT := o.1.1 x1 a.1 (by omega)
    obtain ⟨a1, a2, a3, a4⟩ := oT.1
    have e89 := (kT a).1
    have lp : ∀ (m : Nat) (r : Int), r + m = (S.1 x1).1 → 0 ≤ r → z_Y D M_X13_size d 53 [(0, 2, 88), (1, 0, x1), (2, 0, x2), (3, 0, zct (fun i => pk x2 (fl (S.1 x1) i)) (r * (S.1 x1).2.1).toNat), (4, 0, r)] [] G h (mCl (0, (q_size x1 x2 S).1) (q_size x1 x2 S).2 G h) := by
      intro m
      induction m with
      | zero =>
        intro r e r0
        refine b_X13_size_53 a.1 (by omega) ⟨by omega, by omega⟩ (by rw [e89]; exact ⟨by omega, by omega⟩) (fun _ => mCl.n c rfl ?_) (fun w => by omega)
        rw [if_pos a, if_neg w, if_neg w1, if_pos w2, show r = (S.1 x1).1 by omega]
      | succ m ih =>
        intro r e r0
        refine b_X13_size_53 a.1 (by omega) ⟨by omega, by omega⟩ (by rw [e89]; exact ⟨by omega, by omega⟩) (fun w => by omega) (fun _ => ?_)
        have q := l_msz67 (D := D) (G := G) (r := r) hd i2 a w2 (kT a) oT r0 (by omega) (ih (r + 1) (by omega) (by omega)) (S.1 x1).2.1.toNat 0 (by omega) (by omega)
        rw [show r * (S.1 x1).2.1 + 0 = r * (S.1 x1).2.1 by omega] at q
        exact q
    have q := lp (S.1 x1).1.toNat 0 (by omega) (by omega)
    rw [show (0 : Int) * (S.1 x1).2.1 = 0 from Int.zero_mul _] at q
    exact q
  · rw [if_pos a, if_neg w, if_neg w1, if_neg w2]
  · rw [if_pos a, if_neg w, if_pos (Classical.not_not.mp w1)]; exact (kT a).2.1
  · rw [if_pos a, if_pos (Classical.not_not.mp w)]; exact (kT a).1
  · rw [if_neg a]
/-! step -/
noncomputable def q_step (t n a b : Int) (S : zA) : Int × zA := if (0 ≤ t ∧ t ≤ 7) ∧ 1 ≤ n ∧ n ≤ 14 then (match sMake n a b (S.1 t) with
  | some U => (U.1, puT S t U)
  | none => (-1, S)) else (-2, S)
theorem cc_step (hd : 8 ≤ d) {x1 x2 x3 x4 : Int} (i1 : z_in x1) (i2 : z_in x2) (i3 : z_in x3) (i4 : z_in x4) (o : aok S) (c : cAb G h S) : z_CY D M_X11_step d [(2, 0), (0, x1), (0, x2), (0, x3), (0, x4)] G h (cCl (0, (q_step x1 x2 x3 x4 S).1) (q_step x1 x2 x3 x4 S).2 G h) := by
  intro hl
  have oT : 0 ≤ x1 ∧ x1 ≤ 7 → okT (S.1 x1) := fun a => o.1.1 x1 a.1 (by omega)
  have kT : 0 ≤ x1 ∧ x1 ≤ 7 → isC h (56 + 4 * x1) (S.1 x1) := fun a => c.1.1 x1 a.1 (by omega)
  refine z_begin mo_X11_step rfl (nle rfl) (b_X11_step_0 (by omega) i1 (fun _ => i2) (fun a _ _ => a.1) (fun a _ _ => by omega) (fun a w => cCl.n c (if_neg (by omega)) rfl) (fun a w w2 => ?_) (fun a w w2 => cCl.n c (if_neg (by omega)) rfl) (fun a => cCl.n c (if_neg (by omega)) rfl)) hl
  have t29 : z_is G 29 3 := hl.i 29 (by decide) rfl
  refine z_Ki.of (d2 := d - 1) (by omega) (c_make (by omega) ⟨hl.tbi a.1 (by omega), t29, by omega, by omega, by omega, by omega, by omega, by omega, by omega⟩ (kT a) (oT a) i2 i3 i4) ?_
  intro out G' h' hl' q
  unfold pC at q
  obtain ⟨rfl, f, q⟩ := q
  have f : frB (fun a _ => a = 29 ∨ a = 30 ∨ (13 ≤ a ∧ a ≤ 18)) h h' := fun a j w => f a j (by omega) (by omega) (by omega)
  have k9 := wkI_B c.2.2.2.2.1.1 f fun j => by omega
  have k4 := wkI_B c.2.2.2.2.1.2 f fun j => by omega
  cases e : sMake x2 x3 x4 (S.1 x1) with
  | none =>
    rw [e] at q
    refine ⟨_, q, b_X11_step_42 (by omega) ⟨by decide, by decide⟩ (fun w => absurd rfl w) (fun w => absurd rfl w) (fun w => absurd rfl w) (fun w => absurd rfl w) (fun w => absurd rfl w) (fun _ => ?_)⟩
    exact cCl.y (by unfold q_step; rw [if_pos ⟨a, by omega, by omega⟩, e]) rfl (fun y j y0 y1 => f y j (by omega)) (cAb_0 c (f.imp fun a j w => by omega) k9 k4)
  | some U =>
    rw [e] at q
    obtain ⟨q, k⟩ := q
    have oU := (sMake_ok (oT a) e).1
    have rc := (isC_okS k oU).rc
    refine ⟨_, q, b_X11_step_42 (by omega) ⟨by decide, by decide⟩ (fun _ => a.1) (fun _ => by omega) (fun _ => by omega) (fun _ => by omega) (fun _ => ?_) (fun w => absurd (by decide : ¬ (1 : Int) = 0) w)⟩
    obtain ⟨f2, k2⟩ := bcC (t := 56 + 4 * x1) k oU (by omega) k.1 k.2.1
    rw [show (29 : Int) + 1 = 30 from rfl] at f2 k2
    have F := (f.imp (P' := fun y _ => y = 56 + 4 * x1 ∨ y = 57 + 4 * x1 ∨ (13 ≤ y ∧ y ≤ 18) ∨ (29 ≤ y ∧ y ≤ 32)) fun a j w => by omega).tr (f2.imp fun a j w => by omega)
    refine cCl.y (by unfold q_step; rw [if_pos ⟨a, by omega, by omega⟩, e]) k.1 (fun y j y0 y1 => F y j (by omega)) (cAb_T c a (F.imp fun a j w => by omega) (wkI_B c.2.2.2.2.1.1 F fun j => by omega) (wkI_B c.2.2.2.2.1.2 F fun j => by omega) k2)
theorem mm_step (hd : 8 ≤ d) {x1 x2 x3 x4 : Int} (i1 : z_in x1) (i2 : z_in x2) (i3 : z_in x3) (i4 : z_in x4) (o : aok S) (c : mAb h S) : z_CY D M_X13_step d [(2, 88), (0, x1), (0, x2), (0, x3), (0, x4)] G h (mCl (0, (q_step x1 x2 x3 x4 S).1) (q_step x1 x2 x3 x4 S).2 G h) := by
  have oT : 0 ≤ x1 ∧ x1 ≤ 7 → okT (S.1 x1) := fun a => o.1.1 x1 a.1 (by omega)
  have kT : 0 ≤ x1 ∧ x1 ≤ 7 → isM h x1 (S.1 x1) := fun a => c.1.1 x1 a.1 (by omega)
  have j2 := i2
  unfold z_in at j2
  refine z_begin mo_X13_step rfl (nle rfl) (b_X13_step_0 (by omega) i1 (fun _ => i2) (fun _ => ⟨by omega, by omega⟩) (fun a w => ?_) (fun a w => mCl.n c (if_neg (fun q => w q.2)) rfl) (fun a => mCl.n c (if_neg (fun q => a q.1)) rfl))
  refine z_Ki.of (d2 := d - 1) (by omega) (m_makes (by omega) (kT a) a.1 (by omega) (by omega) (oT a) w i3 i4) ?_
  rintro out G' h' hl' ⟨rfl, f, q⟩
  have f := f.B
  cases e : sMake x2 x3 x4 (S.1 x1) with
  | none =>
    rw [e] at q
    refine ⟨_, q, b_X13_step_31 ⟨by decide, by decide⟩ (fun w => absurd rfl w) (fun _ => ?_)⟩
    exact mCl.y (by unfold q_step; rw [if_pos ⟨a, w⟩, e]) rfl (fun y j y0 => f y j (by unfold mW; omega)) (mAb_0 o c (f.imp fun a j w => by unfold mW at w; unfold mSc; omega))
  | some U =>
    rw [e] at q
    obtain ⟨q, k⟩ := q
    refine ⟨_, q, b_X13_step_31 ⟨by decide, by decide⟩ (fun _ => ?_) (fun w => absurd (by decide : ¬ (1 : Int) = 0) w)⟩
    refine z_Kv.of (d2 := d - 1) (by omega) (m_become a.1 (by omega) (by decide) (by decide) k) ?_
    rintro out2 G2 h2 _ ⟨r2, rfl, f2, k2⟩
    have F : frB (fun a j => mT x1 a j ∨ mSc a j) h h2 := (f.imp fun a j w => Or.inr (by unfold mW at w; unfold mSc; omega)).tr (f2.imp fun _ _ w => Or.inl w)
    exact ⟨r2, b_X13_step_43 a.1 (by omega) (mCl.y (by unfold q_step; rw [if_pos ⟨a, w⟩, e]) k2.1 (fun y j y0 => F y j (by unfold mT mSc; omega)) (mAb_T o c a F k2))⟩
/-! walk -/
noncomputable def q_walk (w t u : Int) (S : zA) : Int × zA := if (0 ≤ w ∧ w ≤ 7) ∧ (0 ≤ t ∧ t ≤ 7) ∧ 0 ≤ u ∧ u ≤ 7 then (if (wkR (S.2.1 w).2 (S.2.1 w).1.toNat 0 (S.1 t)).1 = -1 then ((wkR (S.2.1 w).2 (S.2.1 w).1.toNat 0 (S.1 t)).2.1, puT S u (wkR (S.2.1 w).2 (S.2.1 w).1.toNat 0 (S.1 t)).2) else (-10 - (wkR (S.2.1 w).2 (S.2.1 w).1.toNat 0 (S.1 t)).1, S)) else (-2, S)
theorem cc_walk (hd : 8 ≤ d) {x1 x2 x3 : Int} (i1 : z_in x1) (i2 : z_in x2) (i3 : z_in x3) (o : aok S) (c : cAb G h S) : z_CY D M_X11_walk d [(2, 0), (0, x1), (0, x2), (0, x3)] G h (cCl (0, (q_walk x1 x2 x3 S).1) (q_walk x1 x2 x3 S).2 G h) := by
  intro hl
  refine z_begin mo_X11_walk rfl (nle rfl) (b_X11_walk_0 (by omega) i1 (fun _ => i2) (fun _ _ => i3) (fun a _ _ => a.1) (fun a _ _ => by omega) (fun _ a _ => a.1) (fun _ a _ => by omega) (fun a b e => ?_) (fun a b e => cCl.n c (if_neg (fun q => e q.2.2)) rfl) (fun a b => cCl.n c (if_neg (fun q => b q.2.1)) rfl) (fun a => cCl.n c (if_neg (fun q => a q.1)) rfl)) hl
  have oT := o.1.1 x2 b.1 (by omega)
  have oW := o.1.2 x1 a.1 (by omega)
  refine z_Ki.of (d2 := d - 1) (by omega) (c_go (k := 19) (by omega) (Or.inl rfl) (hl.wyi a.1 (by omega)) (by omega) (hl.tbi b.1 (by omega)) (by omega) oW (c.1.2 x1 a.1 (by omega)) (c.1.1 x2 b.1 (by omega)) oT c.2.2.2.2.1.1) ?_
  intro out G' h' hl' q
  unfold wkQ at q
  have rg := wkR_rg (c := (S.2.1 x1).2) (S.2.1 x1).1.toNat 0 (S.1 x2) (by omega)
  have oR := wkR_ok (c := (S.2.1 x1).2) (S.2.1 x1).1.toNat 0 (S.1 x2) oT
  have l12 := oW.2.1
  have eq : q_walk x1 x2 x3 S = if (wkR (S.2.1 x1).2 (S.2.1 x1).1.toNat 0 (S.1 x2)).1 = -1 then ((wkR (S.2.1 x1).2 (S.2.1 x1).1.toNat 0 (S.1 x2)).2.1, puT S x3 (wkR (S.2.1 x1).2 (S.2.1 x1).1.toNat 0 (S.1 x2)).2) else (-10 - (wkR (S.2.1 x1).2 (S.2.1 x1).1.toNat 0 (S.1 x2)).1, S) := if_pos ⟨a, b, e⟩
  generalize wkR (S.2.1 x1).2 (S.2.1 x1).1.toNat 0 (S.1 x2) = R at *
  obtain ⟨rfl, f, k9, r, k⟩ := q
  have f : frB (fun a _ => (19 ≤ a ∧ a ≤ 23) ∨ (13 ≤ a ∧ a ≤ 18)) h h' := f.imp fun a j w => by unfold wkP at w; omega
  have k4 := wkI_B c.2.2.2.2.1.2 f fun j => by omega
  have h2 : h' 19 2 = 20 ∨ h' 19 2 = 22 := by unfold wkI at k9; omega
  have is2 : z_is G' (h' 19 2) 3 := by rcases h2 with q | q <;> rw [q] <;> exact hl'.i _ (by decide) rfl
  refine ⟨_, r, b_X11_walk_43 (by omega) ⟨by omega, by omega⟩ (fun _ => e.1) (fun _ => by omega) (fun _ => is2) (fun w => by have := (isC_okS (k w) oR).rc; omega) (fun w => by have := (isC_okS (k w) oR).rc; omega) (fun w => ?_) (fun w => ?_)⟩
  · obtain ⟨f2, k2⟩ := bcC (t := 56 + 4 * x3) (k w) oR (by omega) (k w).1 (k w).2.1
    have F := (f.imp (P' := fun y _ => y = 56 + 4 * x3 ∨ y = 57 + 4 * x3 ∨ (13 ≤ y ∧ y ≤ 23)) fun a j w => by omega).tr (f2.imp fun a j w => by omega)
    exact cCl.y (by rw [eq, if_pos w]) (k w).1 (fun y j y0 y1 => F y j (by omega)) (cAb_T c e (F.imp fun a j w => by omega) (wkI_B k9 f2 fun j => by omega) (wkI_B c.2.2.2.2.1.2 F fun j => by omega) k2)
  · exact cCl.y (by rw [eq, if_neg w]) rfl (fun y j y0 y1 => f y j (by omega)) (cAb_0 c (f.imp fun a j w => by omega) k9 k4)
theorem mm_walk (hd : 8 ≤ d) {x1 x2 x3 : Int} (i1 : z_in x1) (i2 : z_in x2) (i3 : z_in x3) (o : aok S) (c : mAb h S) : z_CY D M_X13_walk d [(2, 88), (0, x1), (0, x2), (0, x3)] G h (mCl (0, (q_walk x1 x2 x3 S).1) (q_walk x1 x2 x3 S).2 G h) := by
  refine z_begin mo_X13_walk rfl (nle rfl) (b_X13_walk_0 (by omega) i1 (fun _ => i2) (fun _ _ => i3) (fun a b e => ?_) (fun a b e => mCl.n c (if_neg (fun q => e q.2.2)) rfl) (fun a b => mCl.n c (if_neg (fun q => b q.2.1)) rfl) (fun a => mCl.n c (if_neg (fun q => a q.1)) rfl))
  have oT := o.1.1 x2 b.1 (by omega)
  have oW := o.1.2 x1 a.1 (by omega)
  refine z_Kv.of (d2 := d - 1) (by omega) (m_become (by decide) (by decide) b.1 (by omega) (c.1.1 x2 b.1 (by omega))) ?_
  rintro out G1 h1 _ ⟨r1, rfl, f1, k1⟩
  have f1 : frB mSc h h1 := f1.imp fun a j w => by unfold mT at w; unfold mSc; omega
  have c1 := mAb_0 o c f1
  refine ⟨r1, b_X13_walk_31 (z_Ki.of (d2 := d - 1) (by omega) (m_walks (by omega) (by decide) (by decide) a.1 (by omega) oW (c1.1.2 x1 a.1 (by omega)) k1 oT) ?_)⟩
  intro out2 G2 h2 _ q
  have rg := wkR_rg (c := (S.2.1 x1).2) (S.2.1 x1).1.toNat 0 (S.1 x2) (by omega)
  have l12 := oW.2.1
  have eq : q_walk x1 x2 x3 S = if (wkR (S.2.1 x1).2 (S.2.1 x1).1.toNat 0 (S.1 x2)).1 = -1 then ((wkR (S.2.1 x1).2 (S.2.1 x1).1.toNat 0 (S.1 x2)).2.1, puT S x3 (wkR (S.2.1 x1).2 (S.2.1 x1).1.toNat 0 (S.1 x2)).2) else (-10 - (wkR (S.2.1 x1).2 (S.2.1 x1).1.toNat 0 (S.1 x2)).1, S) := if_pos ⟨a, b, e⟩
  generalize wkR (S.2.1 x1).2 (S.2.1 x1).1.toNat 0 (S.1 x2) = R at *
  obtain ⟨rfl, f2, r, k⟩ := q
  have f2 : frB mSc h1 h2 := f2.imp fun a j w => by unfold mW at w; unfold mSc; omega
  have c2 := mAb_0 o c1 f2
  have F := f1.tr f2
  refine ⟨_, r, b_X13_walk_38 ⟨by omega, by omega⟩ (fun w => ?_) (fun w => ?_)⟩
  · refine z_Kv.of (d2 := d - 1) (by omega) (m_become e.1 (by omega) (by decide) (by decide) (k w)) ?_
    rintro out3 G3 h3 _ ⟨r3, rfl, f3, k3⟩
    have F3 : frB (fun a j => mT x3 a j ∨ mSc a j) h h3 := (F.imp fun _ _ w => Or.inr w).tr (f3.imp fun _ _ w => Or.inl w)
    exact ⟨r3, b_X13_walk_59 e.1 (by omega) (mCl.y (by rw [eq, if_pos w]) k3.1 (fun y j y0 => F3 y j (by unfold mT mSc; omega)) (mAb_T o c e F3 k3))⟩
  · exact mCl.y (by rw [eq, if_neg w]) rfl (fun y j y0 => F y j (by unfold mSc; omega)) c2
end CalB
