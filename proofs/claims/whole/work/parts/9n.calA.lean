/-! the calls, one by one: what is asked of both (q_), then the class (cc_), then the model (mm_) -/
section CalA
variable {D : zD} {d : Nat} {G : zG} {h h' h0 h1 : zH} {S : zA} {Q : zO → zG → zH → Prop}
theorem wkI_B {P : Int → Int → Prop} {k : Int} (w : wkI h k) (f : frB P h h') (n : ∀ j : Int, ¬ P k j) : wkI h' k := by
  unfold wkI at w ⊢
  rw [f k 1 (n 1), f k 2 (n 2)]; exact w
theorem cCl.y {kk : Nat} {q : Int × zA} {x y : Int} {S' : zA} {G' : zG} (e : q = (x, S')) (ex : y = x) (f : ∀ b j : Int, 88 ≤ b → b < 114 → h' b j = h b j) (c : cAb G' h' S') : cCl (kk, q.1) q.2 G h (.inl (some (kk, y))) G' h' := by
  subst e ex
  exact ⟨rfl, f, c⟩
theorem cCl.n {kk : Nat} {q : Int × zA} {x y : Int} {S' : zA} {G' : zG} (c : cAb G' h S') (e : q = (x, S')) (ex : y = x) : cCl (kk, q.1) q.2 G h (.inl (some (kk, y))) G' h := cCl.y e ex (fun _ _ _ _ => rfl) c
theorem mCl.y {kk : Nat} {q : Int × zA} {x y : Int} {S' : zA} (e : q = (x, S')) (ex : y = x) (f : ∀ b j : Int, ¬ (88 ≤ b ∧ b < 114) → h' b j = h b j) (c : mAb h' S') : mCl (kk, q.1) q.2 G h (.inl (some (kk, y))) G h' := by
  subst e ex
  exact ⟨rfl, rfl, f, c⟩
theorem mCl.n {kk : Nat} {q : Int × zA} {x y : Int} {S' : zA} (c : mAb h S') (e : q = (x, S')) (ex : y = x) : mCl (kk, q.1) q.2 G h (.inl (some (kk, y))) G h := mCl.y e ex (fun _ _ _ => rfl) c
/-! feed -/
def lb1 (p : (Int → Int) × Int) (v k : Int) : (Int → Int) × Int := (fun j => if j = p.2 then w8 (w8 (z_ishr v k)) else p.1 j, p.2 + 1)
def lb4 (p : (Int → Int) × Int) (v : Int) : (Int → Int) × Int := lb1 (lb1 (lb1 (lb1 p v 24) v 16) v 8) v 0
theorem lb4_n {p : (Int → Int) × Int} {v : Int} : (lb4 p v).2 = p.2 + 4 := by
  show p.2 + 1 + 1 + 1 + 1 = p.2 + 4
  omega
def q_feed (a b c e f : Int) (S : zA) : Int × zA := if S.2.2.1.2 ≤ 980 then (S.2.2.1.2 + 20, puG S (lb4 (lb4 (lb4 (lb4 (lb4 S.2.2.1 a) b) c) e) f).1 (lb4 (lb4 (lb4 (lb4 (lb4 S.2.2.1 a) b) c) e) f).2) else (-3, S)
def tpC (h : zH) (p : (Int → Int) × Int) : Prop := (∀ j : Int, w8 (h 3 j) = p.1 j) ∧ h 0 3 = p.2
def tpP (a j : Int) : Prop := a = 3 ∨ (a = 0 ∧ j = 3)
theorem s_ti {p : (Int → Int) × Int} {v k : Int} (t : tpC h p) (p0 : 0 ≤ p.2) (p1 : p.2 < 1000) (k0 : 0 ≤ k) (k1 : k ≤ 24) (K : ∀ h', tpC h' (lb1 p v k) → frB tpP h h' → z_Y D M_X11_tapeInt d 3 [(0, 2, 0), (1, 0, v), (2, 0, k + (-8))] [] G h' Q) : z_Y D M_X11_tapeInt d 3 [(0, 2, 0), (1, 0, v), (2, 0, k)] [] G h Q := by
  have e3 := t.2
  refine b_X11_tapeInt_3 ⟨by omega, by omega⟩ (fun _ => by rw [e3]; exact ⟨by omega, by omega⟩) (fun _ _ => by omega) (fun _ _ => by omega) (fun c => by omega) (fun _ c => by omega) (fun _ _ => K _ ⟨fun j => ?_, ?_⟩ ((frB.rf.w (Or.inl rfl)).w (Or.inr ⟨rfl, rfl⟩)))
  · show _ = if j = p.2 then _ else _
    by_cases z : j = p.2
    · rw [if_pos z, w_na (by decide), z, ← e3, w_s]
    · rw [if_neg z, w_na (by decide), w_nj (by omega)]; exact t.1 j
  · rw [w_s, e3]; rfl
theorem c_tapeInt {p : (Int → Int) × Int} {v : Int} (t : tpC h p) (p0 : 0 ≤ p.2) (p1 : p.2 + 4 ≤ 1000) : z_CY D M_X11_tapeInt d [(2, 0), (0, v)] G h (fun out G' h' => out = .inl none ∧ G' = G ∧ frB tpP h h' ∧ tpC h' (lb4 p v)) := by
  refine z_begin mo_X11_tapeInt rfl (nle rfl) (b_X11_tapeInt_0 ?_)
  refine s_ti t p0 (by omega) (by decide) (by decide) fun h1 t1 f1 => ?_
  refine s_ti (k := 16) t1 (by show 0 ≤ p.2 + 1; omega) (by show p.2 + 1 < 1000; omega) (by decide) (by decide) fun h2 t2 f2 => ?_
  refine s_ti (k := 8) t2 (by show 0 ≤ p.2 + 1 + 1; omega) (by show p.2 + 1 + 1 < 1000; omega) (by decide) (by decide) fun h3 t3 f3 => ?_
  refine s_ti (k := 0) t3 (by show 0 ≤ p.2 + 1 + 1 + 1; omega) (by show p.2 + 1 + 1 + 1 < 1000; omega) (by decide) (by decide) fun h4 t4 f4 => ?_
  exact b_X11_tapeInt_3 ⟨by decide, by decide⟩ (fun c => absurd (by decide) c) (fun c => absurd (by decide) c) (fun c => absurd (by decide) c) (fun _ => ⟨rfl, rfl, ((f1.tr f2).tr f3).tr f4, t4⟩) (fun c => absurd (by decide) c) (fun c => absurd (by decide) c)
theorem k_ti {M : zM} {q : Nat} {L : List (Nat × zV)} {p : (Int → Int) × Int} {v : Int} (hd : 1 ≤ d) (t : tpC h p) (p0 : 0 ≤ p.2) (p1 : p.2 + 4 ≤ 1000) (K : ∀ h', tpC h' (lb4 p v) → frB tpP h h' → z_Y D M d q L [] G h' Q) : z_Kv D M_X11_tapeInt d [(2, 0), (0, v)] G h (fun G' h' => z_Y D M d q L [] G' h' Q) := by
  refine z_Kv.of (d2 := d - 1) (by omega) (c_tapeInt t p0 p1) ?_
  rintro out G' h' _ ⟨r, rfl, f, t'⟩
  exact ⟨r, K h' t' f⟩
theorem cc_feed (hd : 1 ≤ d) {x1 x2 x3 x4 x5 : Int} (o : aok S) (c : cAb G h S) : z_CY D M_X11_feed d [(2, 0), (0, x1), (0, x2), (0, x3), (0, x4), (0, x5)] G h (cCl (0, (q_feed x1 x2 x3 x4 x5 S).1) (q_feed x1 x2 x3 x4 x5 S).2 G h) := by
  obtain ⟨-, n0, n1⟩ := o.2.1
  have e3 := c.2.1.2
  have e4 := @lb4_n
  refine z_begin mo_X11_feed rfl (nle rfl) (b_X11_feed_0 (by rw [e3]; exact ⟨by omega, by omega⟩) (fun z => ?_) (fun z => cCl.n c (if_neg (by omega)) rfl))
  refine k_ti hd (p := S.2.2.1) c.2.1 n0 (by omega) fun g1 t1 f1 => b_X11_feed_18 ?_
  refine k_ti hd t1 (by rw [e4]; omega) (by rw [e4]; omega) fun g2 t2 f2 => b_X11_feed_23 ?_
  refine k_ti hd t2 (by rw [e4, e4]; omega) (by rw [e4, e4]; omega) fun g3 t3 f3 => b_X11_feed_28 ?_
  refine k_ti hd t3 (by rw [e4, e4, e4]; omega) (by rw [e4, e4, e4]; omega) fun g4 t4 f4 => b_X11_feed_34 ?_
  refine k_ti hd t4 (by rw [e4, e4, e4, e4]; omega) (by rw [e4, e4, e4, e4]; omega) fun g5 t5 f5 => b_X11_feed_40 ?_
  have f := (((f1.tr f2).tr f3).tr f4).tr f5
  refine cCl.y (if_pos (by omega)) (by rw [t5.2, e4, e4, e4, e4, e4]; omega) (fun b j b0 b1 => f b j (by unfold tpP; omega)) ?_
  exact cAb_G c (f.imp fun a j w => by unfold tpP at w; omega) (wkI_B c.2.2.2.2.1.1 f fun j => by unfold tpP; omega) (wkI_B c.2.2.2.2.1.2 f fun j => by unfold tpP; omega) t5.1 t5.2 (by rw [f 0 4 (by unfold tpP; omega)]; exact c.2.2.1.1) (by rw [f 0 5 (by unfold tpP; omega)]; exact c.2.2.1.2)
def tpD (h : zH) (p : (Int → Int) × Int) : Prop := (∀ j : Int, w8 (h 100 j) = p.1 j) ∧ h 88 14 = p.2
def tpR (a j : Int) : Prop := a = 100 ∨ (a = 88 ∧ j = 14)
theorem s_ly {p : (Int → Int) × Int} {v k : Int} (t : tpD h p) (p0 : 0 ≤ p.2) (p1 : p.2 < 1000) (k0 : 0 ≤ k) (k1 : k ≤ 24) (K : ∀ h', tpD h' (lb1 p v k) → frB tpR h h' → z_Y D M_X13_lay d 3 [(0, 2, 88), (1, 0, v), (2, 0, k + (-8))] [] G h' Q) : z_Y D M_X13_lay d 3 [(0, 2, 88), (1, 0, v), (2, 0, k)] [] G h Q := by
  have e3 := t.2
  refine b_X13_lay_3 ⟨by omega, by omega⟩ (fun _ => by omega) (fun _ => by omega) (fun c => by omega) (fun _ => K _ ⟨fun j => ?_, ?_⟩ ((frB.rf.w (Or.inl rfl)).w (Or.inr ⟨rfl, rfl⟩)))
  · show _ = if j = p.2 then _ else _
    by_cases z : j = p.2
    · rw [if_pos z, w_na (by decide), z, ← e3, w_s]
    · rw [if_neg z, w_na (by decide), w_nj (by omega)]; exact t.1 j
  · rw [w_s, e3]; rfl
theorem m_lay {p : (Int → Int) × Int} {v : Int} (t : tpD h p) (p0 : 0 ≤ p.2) (p1 : p.2 + 4 ≤ 1000) : z_CY D M_X13_lay d [(2, 88), (0, v)] G h (fun out G' h' => out = .inl none ∧ G' = G ∧ frB tpR h h' ∧ tpD h' (lb4 p v)) := by
  refine z_begin mo_X13_lay rfl (nle rfl) (b_X13_lay_0 ?_)
  refine s_ly t p0 (by omega) (by decide) (by decide) fun h1 t1 f1 => ?_
  refine s_ly (k := 16) t1 (by show 0 ≤ p.2 + 1; omega) (by show p.2 + 1 < 1000; omega) (by decide) (by decide) fun h2 t2 f2 => ?_
  refine s_ly (k := 8) t2 (by show 0 ≤ p.2 + 1 + 1; omega) (by show p.2 + 1 + 1 < 1000; omega) (by decide) (by decide) fun h3 t3 f3 => ?_
  refine s_ly (k := 0) t3 (by show 0 ≤ p.2 + 1 + 1 + 1; omega) (by show p.2 + 1 + 1 + 1 < 1000; omega) (by decide) (by decide) fun h4 t4 f4 => ?_
  exact b_X13_lay_3 ⟨by decide, by decide⟩ (fun c => absurd (by decide) c) (fun c => absurd (by decide) c) (fun _ => ⟨rfl, rfl, ((f1.tr f2).tr f3).tr f4, t4⟩) (fun c => absurd (by decide) c)
theorem k_ly {M : zM} {q : Nat} {L : List (Nat × zV)} {p : (Int → Int) × Int} {v : Int} (hd : 1 ≤ d) (t : tpD h p) (p0 : 0 ≤ p.2) (p1 : p.2 + 4 ≤ 1000) (K : ∀ h', tpD h' (lb4 p v) → frB tpR h h' → z_Y D M d q L [] G h' Q) : z_Kv D M_X13_lay d [(2, 88), (0, v)] G h (fun G' h' => z_Y D M d q L [] G' h' Q) := by
  refine z_Kv.of (d2 := d - 1) (by omega) (m_lay t p0 p1) ?_
  rintro out G' h' _ ⟨r, rfl, f, t'⟩
  exact ⟨r, K h' t' f⟩
theorem mm_feed (hd : 1 ≤ d) {x1 x2 x3 x4 x5 : Int} (o : aok S) (c : mAb h S) : z_CY D M_X13_feed d [(2, 88), (0, x1), (0, x2), (0, x3), (0, x4), (0, x5)] G h (mCl (0, (q_feed x1 x2 x3 x4 x5 S).1) (q_feed x1 x2 x3 x4 x5 S).2 G h) := by
  obtain ⟨-, n0, n1⟩ := o.2.1
  have e3 := c.2.1.2
  have e4 := @lb4_n
  refine z_begin mo_X13_feed rfl (nle rfl) (b_X13_feed_0 (by rw [e3]; exact ⟨by omega, by omega⟩) (fun z => ?_) (fun z => mCl.n c (if_neg (by omega)) rfl))
  refine k_ly hd (p := S.2.2.1) c.2.1 n0 (by omega) fun g1 t1 f1 => b_X13_feed_21 ?_
  refine k_ly hd t1 (by rw [e4]; omega) (by rw [e4]; omega) fun g2 t2 f2 => b_X13_feed_26 ?_
  refine k_ly hd t2 (by rw [e4, e4]; omega) (by rw [e4, e4]; omega) fun g3 t3 f3 => b_X13_feed_31 ?_
  refine k_ly hd t3 (by rw [e4, e4, e4]; omega) (by rw [e4, e4, e4]; omega) fun g4 t4 f4 => b_X13_feed_37 ?_
  refine k_ly hd t4 (by rw [e4, e4, e4, e4]; omega) (by rw [e4, e4, e4, e4]; omega) fun g5 t5 f5 => b_X13_feed_43 ?_
  have f := (((f1.tr f2).tr f3).tr f4).tr f5
  refine mCl.y (if_pos (by omega)) (by rw [t5.2, e4, e4, e4, e4, e4]; omega) (fun b j w => f b j (by unfold tpR; omega)) ?_
  exact mAb_G o c (f.imp fun a j w => by unfold tpR at w; omega) t5.1 t5.2 (by rw [f 88 20 (by unfold tpR; omega)]; exact c.2.2.1.1) (by rw [f 88 21 (by unfold tpR; omega)]; exact c.2.2.1.2)
/-! end -/
def q_end (k : Int) (S : zA) : Int × zA := if 0 ≤ k ∧ k ≤ S.2.2.1.2 then (k, puG S S.2.2.1.1 k) else (-1, S)
theorem cc_end {x1 : Int} (i1 : z_in x1) (o : aok S) (c : cAb G h S) : z_CY D M_X11_end d [(2, 0), (0, x1)] G h (cCl (0, (q_end x1 S).1) (q_end x1 S).2 G h) := by
  obtain ⟨-, n0, n1⟩ := o.2.1
  have e3 := c.2.1.2
  refine z_begin mo_X11_end rfl (nle rfl) (b_X11_end_0 i1 (fun _ => by rw [e3]; exact ⟨by omega, by omega⟩) (fun z => cCl.n c (if_neg (by omega)) rfl) (fun z z2 => cCl.y (if_pos (by omega)) rfl (fun b j b0 b1 => w_na (by omega)) ?_) (fun z z2 => cCl.n c (if_neg (by omega)) rfl))
  have f : frB tpP h (z_wr h 0 3 x1) := frB.rf.w (Or.inr ⟨rfl, rfl⟩)
  exact cAb_G c (f.imp fun a j w => by unfold tpP at w; omega) (wkI_B c.2.2.2.2.1.1 f fun j => by unfold tpP; omega) (wkI_B c.2.2.2.2.1.2 f fun j => by unfold tpP; omega) (fun j => by rw [w_na (by decide)]; exact c.2.1.1 j) w_s (by rw [w_nj (by decide)]; exact c.2.2.1.1) (by rw [w_nj (by decide)]; exact c.2.2.1.2)
theorem mm_end (hd : 2 ≤ d) {x1 : Int} (i1 : z_in x1) (o : aok S) (c : mAb h S) : z_CY D M_X13_end d [(2, 88), (0, x1)] G h (mCl (0, (q_end x1 S).1) (q_end x1 S).2 G h) := by
  obtain ⟨-, n0, n1⟩ := o.2.1
  have e3 := c.2.1.2
  have i2 := i1
  unfold z_in at i2
  refine z_begin mo_X13_end rfl (nle rfl) (b_X13_end_0 hd i1 (by rw [e3]; exact ⟨by omega, by omega⟩) ⟨by omega, by omega⟩ ⟨by omega, by omega⟩ (fun z => mCl.y (if_pos (by omega)) rfl (fun b j w => w_na (by omega)) ?_) (fun z => mCl.n c (if_neg (by omega)) rfl))
  have f : frB tpR h (z_wr h 88 14 x1) := frB.rf.w (Or.inr ⟨rfl, rfl⟩)
  exact mAb_G o c (f.imp fun a j w => by unfold tpR at w; omega) (fun j => by rw [w_na (by decide)]; exact c.2.1.1 j) w_s (by rw [w_nj (by decide)]; exact c.2.2.1.1) (by rw [w_nj (by decide)]; exact c.2.2.1.2)
/-! fault, steps, found -/
def q_fault (k : Int) (S : zA) : Int × zA := (if k = 0 then S.2.2.2.1.1 else if k = 1 then S.2.2.2.1.2 else -1, S)
theorem cc_fault {x1 : Int} (i1 : z_in x1) (c : cAb G h S) : z_CY D M_X11_fault d [(2, 0), (0, x1)] G h (cCl (0, (q_fault x1 S).1) (q_fault x1 S).2 G h) :=
  z_begin mo_X11_fault rfl (nle rfl) (b_X11_fault_0 i1 (fun a b => cCl.n c rfl (by rw [if_neg a, if_neg b])) (fun a b => cCl.n c rfl (by rw [if_neg a, if_pos (Classical.not_not.mp b)]; exact c.2.2.1.2)) (fun a => cCl.n c rfl (by rw [if_pos (Classical.not_not.mp a)]; exact c.2.2.1.1)))
theorem mm_fault {x1 : Int} (i1 : z_in x1) (c : mAb h S) : z_CY D M_X13_fault d [(2, 88), (0, x1)] G h (mCl (0, (q_fault x1 S).1) (q_fault x1 S).2 G h) :=
  z_begin mo_X13_fault rfl (nle rfl) (b_X13_fault_0 i1 (fun a b => mCl.n c rfl (by rw [if_neg a, if_neg b])) (fun a b => mCl.n c rfl (by rw [if_neg a, if_pos (Classical.not_not.mp b)]; exact c.2.2.1.2)) (fun a => mCl.n c rfl (by rw [if_pos (Classical.not_not.mp a)]; exact c.2.2.1.1)))
def q_steps (w : Int) (S : zA) : Int × zA := (if 0 ≤ w ∧ w ≤ 7 then (S.2.1 w).1 else -2, S)
theorem cc_steps (hd : 2 ≤ d) {x1 : Int} (i1 : z_in x1) (c : cAb G h S) : z_CY D M_X11_steps d [(2, 0), (0, x1)] G h (cCl (0, (q_steps x1 S).1) (q_steps x1 S).2 G h) :=
  z_begin mo_X11_steps rfl (nle rfl) (b_X11_steps_0 hd i1 (fun a => a.1) (fun a => by omega) (fun a => cCl.n c rfl (by rw [if_pos a]; exact (c.1.2 x1 a.1 (by omega)).1)) (fun a => cCl.n c rfl (by rw [if_neg a])))
theorem mm_steps (hd : 3 ≤ d) {x1 : Int} (i1 : z_in x1) (c : mAb h S) : z_CY D M_X13_steps d [(2, 88), (0, x1)] G h (mCl (0, (q_steps x1 S).1) (q_steps x1 S).2 G h) :=
  z_begin mo_X13_steps rfl (nle rfl) (b_X13_steps_0 hd i1 (fun a => a.1) (fun a => by omega) (fun a => mCl.n c rfl (by rw [if_pos a]; exact (c.1.2 x1 a.1 (by omega)).1)) (fun a => mCl.n c rfl (by rw [if_neg a])))
def q_found (k : Int) (S : zA) : Int × zA := (if k = 0 then S.2.2.2.2.2.2.2.1 else if k = 1 then S.2.2.2.2.2.1 else if k = 2 then S.2.2.2.2.2.2.1 else -1, S)
theorem cc_found {x1 : Int} (i1 : z_in x1) (c : cAb G h S) : z_CY D M_X11_found d [(2, 0), (0, x1)] G h (cCl (0, (q_found x1 S).1) (q_found x1 S).2 G h) :=
  z_begin mo_X11_found rfl (nle rfl) (b_X11_found_0 (fun _ _ _ => i1) (fun a => cCl.n c rfl (by rw [if_pos a]; exact c.2.2.2.1.2.2.2.1)) (fun a b => cCl.n c rfl (by rw [if_neg a, if_pos b]; exact c.2.2.2.1.2.1)) (fun a b e => cCl.n c rfl (by rw [if_neg a, if_neg b, if_pos e]; exact c.2.2.2.1.2.2.1)) (fun a b e => cCl.n c rfl (by rw [if_neg a, if_neg b, if_neg e])))
/-! stepAt -/
def q_stepAt (w i k : Int) (S : zA) : Int × zA := (if (0 ≤ w ∧ w ≤ 7) ∧ 0 ≤ i ∧ i < (S.2.1 w).1 then (if k = 0 then (S.2.1 w).2 i / 64 else if k = 1 then (S.2.1 w).2 i / 8 % 8 else if k = 2 then (S.2.1 w).2 i % 8 else -1) else -1, S)
theorem cc_stepAt (hd : 3 ≤ d) {x1 x2 x3 : Int} (i1 : z_in x1) (i2 : z_in x2) (i3 : z_in x3) (o : aok S) (c : cAb G h S) : z_CY D M_X11_stepAt d [(2, 0), (0, x1), (0, x2), (0, x3)] G h (cCl (0, (q_stepAt x1 x2 x3 S).1) (q_stepAt x1 x2 x3 S).2 G h) := by
  intro hl
  have oW : 0 ≤ x1 ∧ x1 ≤ 7 → okW (S.2.1 x1) := fun a => o.1.2 x1 a.1 (by omega)
  have kW : 0 ≤ x1 ∧ x1 ≤ 7 → isW h (58 + 4 * x1) (S.2.1 x1) := fun a => c.1.2 x1 a.1 (by omega)
  refine z_begin mo_X11_stepAt rfl (nle rfl) (b_X11_stepAt_0 (by omega) i1 (fun _ => i2) (fun a _ => a.1) (fun a _ => by omega) (fun a _ => by rw [(kW a).1]; exact ⟨by have := (oW a).1; omega, by have := (oW a).2.1; omega⟩) (fun a z => cCl.n c rfl (by rw [if_neg (by omega)])) (fun a z z2 => ?_) (fun a z z2 => cCl.n c rfl (by rw [if_neg (by rw [(kW a).1] at z2; omega)])) (fun a => cCl.n c rfl (by rw [if_neg (by omega)]))) hl
  rw [(kW a).1] at z2
  refine z_Ki.of (d2 := d - 1) (by omega) (a_X9_codeAt (hl.wyi a.1 (by omega)) (kW a) (oW a) (by omega) z2) ?_
  rintro out G' h' _ ⟨r, rfl, rfl⟩
  have in0 : z_in ((S.2.1 x1).2 x2) := by have := (oW a).2.2 x2 (by omega) z2; exact ⟨by omega, by omega⟩
  refine ⟨_, r, b_X11_stepAt_36 (by omega) (fun _ => in0) (fun _ _ => in0) (fun _ _ _ => i3) (fun w => cCl.n c rfl ?_) (fun w w2 => cCl.n c rfl ?_) (fun w w2 w3 => cCl.n c rfl ?_) (fun w w2 w3 => cCl.n c rfl ?_)⟩
  · rw [if_pos ⟨a, by omega, z2⟩, if_pos w]
  · rw [if_pos ⟨a, by omega, z2⟩, if_neg w, if_pos w2]
  · rw [if_pos ⟨a, by omega, z2⟩, if_neg w, if_neg w2, if_pos w3]
  · rw [if_pos ⟨a, by omega, z2⟩, if_neg w, if_neg w2, if_neg w3]
theorem mm_stepAt (hd : 3 ≤ d) {x1 x2 x3 : Int} (i1 : z_in x1) (i2 : z_in x2) (i3 : z_in x3) (o : aok S) (c : mAb h S) : z_CY D M_X13_stepAt d [(2, 88), (0, x1), (0, x2), (0, x3)] G h (mCl (0, (q_stepAt x1 x2 x3 S).1) (q_stepAt x1 x2 x3 S).2 G h) := by
  have oW : 0 ≤ x1 ∧ x1 ≤ 7 → 0 ≤ h 95 x1 ∧ h 95 x1 ≤ 12 := fun a => by rw [(c.1.2 x1 a.1 (by omega)).1]; exact ⟨(o.1.2 x1 a.1 (by omega)).1, (o.1.2 x1 a.1 (by omega)).2.1⟩
  have kW : 0 ≤ x1 ∧ x1 ≤ 7 → isV h x1 (S.2.1 x1) := fun a => c.1.2 x1 a.1 (by omega)
  have j2 := i2
  unfold z_in at j2
  refine z_begin mo_X13_stepAt rfl (nle rfl) (b_X13_stepAt_0 hd i1 (fun _ => i2) (fun a => a.1) (fun a => by omega) (fun a => by have := oW a; exact ⟨by omega, by omega⟩) (fun a => ⟨by omega, by omega⟩) (fun a => by have := oW a; exact ⟨by omega, by omega⟩) (fun _ _ => i3) (fun a b _ _ _ => by omega) (fun a b _ _ _ => by have := oW a; omega) (fun a b _ _ => by omega) (fun a b _ _ => by have := oW a; omega) (fun a b _ => by omega) (fun a b _ => by have := oW a; omega)
    (fun a b w w2 w3 => mCl.n c rfl ?_) (fun a b w w2 w3 => mCl.n c rfl ?_) (fun a b w w2 => mCl.n c rfl ?_) (fun a b w => mCl.n c rfl ?_) (fun a b => mCl.n c rfl ?_) (fun a => mCl.n c rfl ?_))
  · have e := (kW a).1
    rw [if_pos ⟨a, by omega, by omega⟩, if_neg w, if_neg w2, if_neg w3]
  · have e := (kW a).1
    rw [if_pos ⟨a, by omega, by omega⟩, if_neg w, if_neg w2, if_pos (Classical.not_not.mp w3)]
    exact ((kW a).2 x2 b.1 (by omega)).2.2
  · have e := (kW a).1
    rw [if_pos ⟨a, by omega, by omega⟩, if_neg w, if_pos (Classical.not_not.mp w2)]
    exact ((kW a).2 x2 b.1 (by omega)).2.1
  · have e := (kW a).1
    rw [if_pos ⟨a, by omega, by omega⟩, if_pos (Classical.not_not.mp w)]
    exact ((kW a).2 x2 b.1 (by omega)).1
  · have e := (kW a).1
    rw [if_neg (by omega)]
  · rw [if_neg (by omega)]
/-! cell, copy, fits -/
def q_cell (t r k : Int) (S : zA) : Int × zA := (if (0 ≤ t ∧ t ≤ 7) ∧ (0 ≤ r ∧ r < (S.1 t).1) ∧ 0 ≤ k ∧ k < (S.1 t).2.1 then (S.1 t).2.2 r k else -2, S)
theorem cc_cell (hd : 2 ≤ d) {x1 x2 x3 : Int} (i1 : z_in x1) (i2 : z_in x2) (i3 : z_in x3) (o : aok S) (c : cAb G h S) : z_CY D M_X11_cell d [(2, 0), (0, x1), (0, x2), (0, x3)] G h (cCl (1, (q_cell x1 x2 x3 S).1) (q_cell x1 x2 x3 S).2 G h) := by
  have oT : 0 ≤ x1 ∧ x1 ≤ 7 → okT (S.1 x1) := fun a => o.1.1 x1 a.1 (by omega)
  have kT : 0 ≤ x1 ∧ x1 ≤ 7 → isC h (56 + 4 * x1) (S.1 x1) := fun a => c.1.1 x1 a.1 (by omega)
  refine z_begin mo_X11_cell rfl (nle rfl) (b_X11_cell_0 hd i1 (fun a => a.1) (fun a => by omega) (fun _ => i2) (fun _ => i3) (fun a => ?_) (fun a => ?_) (fun a b => ?_) (fun a b => ?_) (fun a b => cCl.n c rfl ?_) (fun a b => cCl.n c rfl ?_) (fun a => cCl.n c rfl ?_))
  · have := (oT a).1; rw [(kT a).1]; exact ⟨by omega, by omega⟩
  · have := (oT a).1; rw [(kT a).2.1]; exact ⟨by omega, by omega⟩
  · exact (ix_lt b.1.1 b.1.2 b.2.1 b.2.2).1
  · have q := (ix_lt b.1.1 b.1.2 b.2.1 b.2.2).2
    have := (oT a).1
    rw [(kT a).1] at q
    have := rc_le (oT a).1.1 (oT a).1.2.1 (oT a).1.2.2.1 (oT a).1.2.2.2
    rw [(kT a).2.1] at q ⊢
    omega
  · rw [(kT a).1, (kT a).2.1] at b
    rw [if_pos ⟨a, b⟩, (kT a).2.1]
    exact (kT a).2.2 x2 x3 b.1.1 b.1.2 b.2.1 b.2.2
  · rw [(kT a).1, (kT a).2.1] at b
    rw [if_neg (fun w => b w.2)]
  · rw [if_neg (fun w => a w.1)]
theorem mm_cell (hd : 3 ≤ d) {x1 x2 x3 : Int} (i1 : z_in x1) (i2 : z_in x2) (i3 : z_in x3) (o : aok S) (c : mAb h S) : z_CY D M_X13_cell d [(2, 88), (0, x1), (0, x2), (0, x3)] G h (mCl (1, (q_cell x1 x2 x3 S).1) (q_cell x1 x2 x3 S).2 G h) := by
  have kT : 0 ≤ x1 ∧ x1 ≤ 7 → isM h x1 (S.1 x1) := fun a => c.1.1 x1 a.1 (by omega)
  have oR : 0 ≤ x1 ∧ x1 ≤ 7 → (1 ≤ h 89 x1 ∧ h 89 x1 ≤ 12) ∧ 1 ≤ h 90 x1 ∧ h 90 x1 ≤ 6 := fun a => by have := (o.1.1 x1 a.1 (by omega)).1; rw [(kT a).1, (kT a).2.1]; omega
  have j2 := i2
  unfold z_in at j2
  have j3 := i3
  unfold z_in at j3
  refine z_begin mo_X13_cell rfl (nle rfl) (b_X13_cell_0 hd i1 (fun _ => i2) (fun a => a.1) (fun a => by omega) (fun a => by have := oR a; exact ⟨by omega, by omega⟩) (fun _ => ⟨by omega, by omega⟩) (fun a => by have := oR a; exact ⟨by omega, by omega⟩) (fun _ _ => i3) (fun a _ => by have := oR a; exact ⟨by omega, by omega⟩) (fun _ _ => ⟨by omega, by omega⟩) (fun a _ => by have := oR a; exact ⟨by omega, by omega⟩) (fun a b e => by omega) (fun a b e => by have := oR a; omega) (fun a b e => mCl.n c rfl ?_) (fun a b e => mCl.n c rfl ?_) (fun a b => mCl.n c rfl ?_) (fun a => mCl.n c rfl ?_))
  · have w := oR a
    rw [(kT a).1] at b w
    rw [(kT a).2.1] at e w
    rw [if_pos ⟨a, by omega, by omega⟩, (kT a).2.2 x2 x3 b.1 (by omega) e.1 (by omega), nrm, if_pos ⟨by omega, by omega⟩]
  · rw [(kT a).2.1] at e
    rw [if_neg (by omega)]
  · rw [(kT a).1] at b
    rw [if_neg (by omega)]
  · rw [if_neg (fun w => a w.1)]
def q_copy (t u : Int) (S : zA) : Int × zA := if (0 ≤ t ∧ t ≤ 7) ∧ 0 ≤ u ∧ u ≤ 7 then ((S.1 t).1, puT S u (S.1 t)) else (-2, S)
theorem cc_copy (hd : 2 ≤ d) {x1 x2 : Int} (i1 : z_in x1) (i2 : z_in x2) (o : aok S) (c : cAb G h S) : z_CY D M_X11_copy d [(2, 0), (0, x1), (0, x2)] G h (cCl (0, (q_copy x1 x2 S).1) (q_copy x1 x2 S).2 G h) := by
  have oT : 0 ≤ x1 ∧ x1 ≤ 7 → okT (S.1 x1) := fun a => o.1.1 x1 a.1 (by omega)
  have kT : 0 ≤ x1 ∧ x1 ≤ 7 → isC h (56 + 4 * x1) (S.1 x1) := fun a => c.1.1 x1 a.1 (by omega)
  have rc : 0 ≤ x1 ∧ x1 ≤ 7 → 1 ≤ h (56 + 4 * x1) 1 * h (56 + 4 * x1) 2 ∧ h (56 + 4 * x1) 1 * h (56 + 4 * x1) 2 ≤ 72 := fun a => (isC_okS (kT a) (oT a)).rc
  refine z_begin mo_X11_copy rfl (nle rfl) (b_X11_copy_0 hd i1 (fun _ => i2) (fun _ b => b.1) (fun _ b => by omega) (fun a _ => a.1) (fun a _ => by omega) (fun a _ => by have := rc a; omega) (fun a _ => by have := rc a; omega) (fun a b => ?_) (fun a b => cCl.n c (if_neg (fun w => b w.2)) rfl) (fun a => cCl.n c (if_neg (fun w => a w.1)) rfl))
  obtain ⟨f, k⟩ := bcC (t := 56 + 4 * x2) (kT a) (oT a) (by omega) (kT a).1 (kT a).2.1
  refine cCl.y (if_pos ⟨a, b⟩) (kT a).1 (fun y j y0 y1 => f y j (by omega)) (cAb_T c b (f.imp fun a j w => by omega) (wkI_B c.2.2.2.2.1.1 f fun j => by omega) (wkI_B c.2.2.2.2.1.2 f fun j => by omega) k)
theorem mm_copy (hd : 3 ≤ d) {x1 x2 : Int} (i1 : z_in x1) (i2 : z_in x2) (o : aok S) (c : mAb h S) : z_CY D M_X13_copy d [(2, 88), (0, x1), (0, x2)] G h (mCl (0, (q_copy x1 x2 S).1) (q_copy x1 x2 S).2 G h) := by
  have kT : 0 ≤ x1 ∧ x1 ≤ 7 → isM h x1 (S.1 x1) := fun a => c.1.1 x1 a.1 (by omega)
  refine z_begin mo_X13_copy rfl (nle rfl) (b_X13_copy_0 hd i1 (fun _ => i2) (fun a b => ?_) (fun a b => mCl.n c (if_neg (fun w => b w.2)) rfl) (fun a => mCl.n c (if_neg (fun w => a w.1)) rfl))
  refine z_Kv.of (d2 := d - 1) (by omega) (m_become b.1 (by omega) a.1 (by omega) (kT a)) ?_
  rintro out G' h' _ ⟨r, rfl, f, k⟩
  refine ⟨r, b_X13_copy_23 b.1 (by omega) (mCl.y (if_pos ⟨a, b⟩) k.1 (fun y j y0 => f y j (by unfold mT; omega)) (mAb_T o c b (f.imp fun _ _ w => Or.inl w) k))⟩
noncomputable def q_fits (t u : Int) (S : zA) : Int × zA := (if (0 ≤ t ∧ t ≤ 7) ∧ 0 ≤ u ∧ u ≤ 7 then z_b (tlk (S.1 t) (S.1 u)) else -2, S)
theorem lkC {t u : Int} {T U : zTb} (kt : isC h t T) (ku : isC h u U) (oT : okT T) : (h t 1 = h u 1 ∧ h t 2 = h u 2 ∧ ∀ i : Int, 0 ≤ i → i < h t 1 * h t 2 → h (t + 1) i = h (u + 1) i ∨ h (t + 1) i = -1 ∨ h (u + 1) i = -1) ↔ tlk T U := by
  rw [kt.1, kt.2.1, ku.1, ku.2.1]
  unfold tlk
  constructor
  · rintro ⟨e1, e2, e3⟩
    refine ⟨e1, e2, fun r c a1 a2 a3 a4 => ?_⟩
    have ix := ix_lt a1 a2 a3 a4
    have w := e3 _ ix.1 ix.2
    rw [kt.2.2 r c a1 a2 a3 a4] at w
    rw [show r * T.2.1 + c = r * U.2.1 + c by rw [e2], ku.2.2 r c a1 (by omega) a3 (by omega)] at w
    exact w
  · rintro ⟨e1, e2, e3⟩
    refine ⟨e1, e2, fun i i0 i1 => ?_⟩
    obtain ⟨r, c, a1, a2, a3, a4, rfl⟩ := ix_of (by have := oT.1; omega) i0 i1
    rw [kt.2.2 r c a1 a2 a3 a4, show r * T.2.1 + c = r * U.2.1 + c by rw [e2], ku.2.2 r c a1 (by omega) a3 (by omega)]
    exact e3 r c a1 a2 a3 a4
theorem eqC {t u : Int} {T U : zTb} (kt : isC h t T) (ku : isC h u U) (oT : okT T) : (h t 1 = h u 1 ∧ h t 2 = h u 2 ∧ ∀ i : Int, 0 ≤ i → i < h t 1 * h t 2 → h (t + 1) i = h (u + 1) i) ↔ teq T U := by
  rw [kt.1, kt.2.1, ku.1, ku.2.1]
  unfold teq
  constructor
  · rintro ⟨e1, e2, e3⟩
    refine ⟨e1, e2, fun r c a1 a2 a3 a4 => ?_⟩
    have ix := ix_lt a1 a2 a3 a4
    have w := e3 _ ix.1 ix.2
    rw [kt.2.2 r c a1 a2 a3 a4] at w
    rw [show r * T.2.1 + c = r * U.2.1 + c by rw [e2], ku.2.2 r c a1 (by omega) a3 (by omega)] at w
    exact w
  · rintro ⟨e1, e2, e3⟩
    refine ⟨e1, e2, fun i i0 i1 => ?_⟩
    obtain ⟨r, c, a1, a2, a3, a4, rfl⟩ := ix_of (by have := oT.1; omega) i0 i1
    rw [kt.2.2 r c a1 a2 a3 a4, show r * T.2.1 + c = r * U.2.1 + c by rw [e2], ku.2.2 r c a1 (by omega) a3 (by omega)]
    exact e3 r c a1 a2 a3 a4
theorem cc_fits (hd : 2 ≤ d) {x1 x2 : Int} (i1 : z_in x1) (i2 : z_in x2) (o : aok S) (c : cAb G h S) : z_CY D M_X11_fits d [(2, 0), (0, x1), (0, x2)] G h (cCl (0, (q_fits x1 x2 S).1) (q_fits x1 x2 S).2 G h) := by
  have oT : ∀ x : Int, 0 ≤ x ∧ x ≤ 7 → okT (S.1 x) := fun x a => o.1.1 x a.1 (by omega)
  have kT : ∀ x : Int, 0 ≤ x ∧ x ≤ 7 → isC h (56 + 4 * x) (S.1 x) := fun x a => c.1.1 x a.1 (by omega)
  refine z_begin mo_X11_fits rfl (nle rfl) (b_X11_fits_0 hd i1 (fun _ => i2) (fun a _ => a.1) (fun a _ => by omega) (fun _ b => b.1) (fun _ b => by omega) (fun a _ => isC_okS (kT _ a) (oT _ a)) (fun _ b => isC_okS (kT _ b) (oT _ b)) (fun a _ => isC_okC (kT _ a) (oT _ a)) (fun _ b => isC_okC (kT _ b) (oT _ b)) (fun a b w => cCl.n c rfl ?_) (fun a b w => cCl.n c rfl ?_) (fun a b => cCl.n c rfl (by rw [if_neg (fun w => b w.2)])) (fun a => cCl.n c rfl (by rw [if_neg (fun w => a w.1)])))
  · rw [if_pos ⟨a, b⟩, z_b1 ((lkC (kT _ a) (kT _ b) (oT _ a)).1 w)]
  · rw [if_pos ⟨a, b⟩, z_b0 (fun q => w ((lkC (kT _ a) (kT _ b) (oT _ a)).2 q))]
theorem mm_fits (hd : 3 ≤ d) {x1 x2 : Int} (i1 : z_in x1) (i2 : z_in x2) (o : aok S) (c : mAb h S) : z_CY D M_X13_fits d [(2, 88), (0, x1), (0, x2)] G h (mCl (0, (q_fits x1 x2 S).1) (q_fits x1 x2 S).2 G h) := by
  have oT : ∀ x : Int, 0 ≤ x ∧ x ≤ 7 → okT (S.1 x) := fun x a => o.1.1 x a.1 (by omega)
  have kT : ∀ x : Int, 0 ≤ x ∧ x ≤ 7 → isM h x (S.1 x) := fun x a => c.1.1 x a.1 (by omega)
  refine z_begin mo_X13_fits rfl (nle rfl) (b_X13_fits_0 hd i1 (fun _ => i2) (fun a b => ?_) (fun a b => mCl.n c rfl (by rw [if_neg (fun w => b w.2)])) (fun a => mCl.n c rfl (by rw [if_neg (fun w => a w.1)])))
  refine z_Ki.of (d2 := d - 1) (by omega) (a_fit (by omega) a.1 (by omega) b.1 (by omega) (kT _ a) (kT _ b) (oT _ a) (oT _ b) ⟨by decide, by decide⟩) ?_
  rintro out G' h' _ ⟨r, rfl, rfl⟩
  rw [flk_1] at r
  have q01 := z_b01 (tlk (S.1 x1) (S.1 x2))
  refine ⟨_, r, b_X13_fits_26 ⟨by omega, by omega⟩ (fun w => mCl.n c rfl ?_) (fun w => mCl.n c rfl ?_)⟩
  · rw [if_pos ⟨a, b⟩, w]
  · rw [if_pos ⟨a, b⟩]; omega
/-! count -/
def q_sum (W : Int → zWy) : Nat → Int
  | 0 => 0
  | n + 1 => q_sum W n + (W n).1
def q_count (k : Int) (S : zA) : Int × zA := (if k = 0 then S.2.2.1.2 else if k = 1 then q_sum S.2.1 8 else -1, S)
theorem l_sow (c : cAb G h S) : ∀ (m n : Nat), n + m = 8 → z_Y D M_X11_stepsOfAllWays d 4 [(0, 2, 0), (1, 0, q_sum S.2.1 n), (2, 0, (n : Int))] [] G h (fun o G' h' => o = .inl (some (0, q_sum S.2.1 8)) ∧ G' = G ∧ h' = h) := by
  intro m
  induction m with
  | zero =>
    intro n e
    obtain rfl : n = 8 := by omega
    exact b_X11_stepsOfAllWays_4 ⟨by decide, by decide⟩ (fun c => absurd (by decide) c) (fun c => absurd (by decide) c) (fun _ => ⟨rfl, rfl, rfl⟩) (fun c => absurd (by decide) c)
  | succ m ih =>
    intro n e
    refine b_X11_stepsOfAllWays_4 ⟨by omega, by omega⟩ (fun _ => by omega) (fun _ => by omega) (fun w => by omega) (fun _ => ?_)
    rw [(c.1.2 n (by omega) (by omega)).1]
    exact ih (n + 1) (by omega)
theorem cc_count (hd : 1 ≤ d) {x1 : Int} (i1 : z_in x1) (c : cAb G h S) : z_CY D M_X11_count d [(2, 0), (0, x1)] G h (cCl (0, (q_count x1 S).1) (q_count x1 S).2 G h) := by
  refine z_begin mo_X11_count rfl (nle rfl) (b_X11_count_0 i1 (fun a b => cCl.n c rfl (by rw [if_neg a, if_neg b])) (fun a b => ?_) (fun a => cCl.n c rfl (by rw [if_pos (Classical.not_not.mp a)]; exact c.2.1.2)))
  refine z_Ki.of (d2 := d - 1) (by omega) (z_begin mo_X11_stepsOfAllWays rfl (nle rfl) (b_X11_stepsOfAllWays_0 (l_sow c 8 0 rfl))) ?_
  rintro out G' h' _ ⟨r, rfl, rfl⟩
  exact ⟨_, r, b_X11_count_18 (cCl.n c rfl (by rw [if_neg a, if_pos (Classical.not_not.mp b)]))⟩
theorem l_mcnt {x1 : Int} (i1 : z_in x1) (nz : ¬ x1 = 0) (c : mAb h S) : ∀ (m n : Nat), n + m = 8 → z_Y D M_X13_count d 13 [(0, 2, 88), (1, 0, x1), (2, 0, q_sum S.2.1 n), (3, 0, (n : Int))] [] G h (mCl (0, (q_count x1 S).1) (q_count x1 S).2 G h) := by
  intro m
  induction m with
  | zero =>
    intro n e
    obtain rfl : n = 8 := by omega
    exact b_X13_count_13 ⟨by decide, by decide⟩ (fun _ => i1) (fun c => absurd (by decide) c) (fun c => absurd (by decide) c) (fun _ w => mCl.n c rfl (by rw [if_neg nz, if_neg w])) (fun _ w => mCl.n c rfl (by rw [if_neg nz, if_pos (Classical.not_not.mp w)])) (fun c => absurd (by decide) c)
  | succ m ih =>
    intro n e
    refine b_X13_count_13 ⟨by omega, by omega⟩ (fun w => i1) (fun _ => by omega) (fun _ => by omega) (fun w => by omega) (fun w => by omega) (fun _ => ?_)
    rw [(c.1.2 n (by omega) (by omega)).1]
    exact ih (n + 1) (by omega)
theorem mm_count {x1 : Int} (i1 : z_in x1) (c : mAb h S) : z_CY D M_X13_count d [(2, 88), (0, x1)] G h (mCl (0, (q_count x1 S).1) (q_count x1 S).2 G h) :=
  z_begin mo_X13_count rfl (nle rfl) (b_X13_count_0 i1 (fun a => l_mcnt i1 a c 8 0 rfl) (fun a => mCl.n c rfl (by rw [if_pos (Classical.not_not.mp a)]; exact c.2.1.2)))
end CalA
