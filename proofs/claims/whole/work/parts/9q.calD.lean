section CalD
variable {D : zD} {d : Nat} {G : zG} {h h' h0 h1 : zH} {S : zA} {Q : zO → zG → zH → Prop}
/-! way -/
noncomputable def q_wr (S : zA) : Int × Int × wS := wR S.2.2.1.1 S.2.2.1.2 0 w0
noncomputable def q_way (w : Int) (S : zA) : Int × zA := if 0 ≤ w ∧ w ≤ 7 then (if (q_wr S).1 = 0 then ((q_wr S).2.2.2.1.1, puW (puF (puG S S.2.2.1.1 0) (q_wr S).1 (q_wr S).2.1) w (q_wr S).2.2.2.1) else (-1, puF (puG S S.2.2.1.1 0) (q_wr S).1 (q_wr S).2.1)) else (-2, puG S S.2.2.1.1 0)
theorem q_wr_ok : okW (q_wr S).2.2.2.1 := (wRun_ok _ _ _ w0_inv).2.1
theorem wRun_kd {g : Int → Int} {N : Int} : ∀ (m : Nat) (p : Int) (s : wS), z_in (wRun g N m p s).1 ∧ ((wRun g N m p s).1 = 0 → (wRun g N m p s).2.1 = -1) := by
  intro m
  induction m with
  | zero =>
    intro p s
    unfold wRun
    split
    · exact ⟨⟨(by decide : (-2147483648 : Int) ≤ 1), (by decide : (1 : Int) < 2147483648)⟩, fun w => absurd w (by decide : ¬ (1 : Int) = 0)⟩
    · exact ⟨⟨(by decide : (-2147483648 : Int) ≤ 0), (by decide : (0 : Int) < 2147483648)⟩, fun _ => rfl⟩
  | succ m ih =>
    intro p s
    unfold wRun
    split
    · split
      · exact ⟨⟨(by decide : (-2147483648 : Int) ≤ 1), (by decide : (1 : Int) < 2147483648)⟩, fun w => absurd w (by decide : ¬ (1 : Int) = 0)⟩
      · exact ⟨⟨(by decide : (-2147483648 : Int) ≤ 0), (by decide : (0 : Int) < 2147483648)⟩, fun _ => rfl⟩
    · split
      · exact ih _ _
      · split
        · exact ih _ _
        · next w => exact ⟨by have := wKind_rg (g := g) (N := N) (p := p) (s := s); exact ⟨by show -2147483648 ≤ (wTok g N p s).1; omega, by show (wTok g N p s).1 < 2147483648; omega⟩, fun q => absurd q w⟩
theorem cc_way (hd : 10 ≤ d) {x1 : Int} (i1 : z_in x1) (o : aok S) (c : cAb G h S) : z_CY D M_X11_way d [(2, 0), (0, x1)] G h (cCl (0, (q_way x1 S).1) (q_way x1 S).2 G h) := by
  obtain ⟨-, n0, n1⟩ := o.2.1
  refine z_begin mo_X11_way rfl (nle rfl) (b_X11_way_0 (k_emptyTape (by omega) c fun g cg fg => ?_))
  refine b_X11_way_4 (by omega) i1 (fun a => ?_) (fun a => cCl.y (if_neg a) rfl fg cg)
  refine z_Kv.of (d2 := d - 1) (by omega) (c_wread (by omega) n0 n1) ?_
  intro out G1 h1 hl1 q
  unfold wrQ at q
  have eb : (fun k => w8 (g 3 k)) = S.2.2.1.1 := funext fun k => cg.2.1.1 k
  rw [eb] at q
  have ok := q_wr_ok (S := S)
  have er : q_wr S = wR S.2.2.1.1 S.2.2.1.2 0 w0 := rfl
  have eq : q_way x1 S = if (q_wr S).1 = 0 then ((q_wr S).2.2.2.1.1, puW (puF (puG S S.2.2.1.1 0) (q_wr S).1 (q_wr S).2.1) x1 (q_wr S).2.2.2.1) else (-1, puF (puG S S.2.2.1.1 0) (q_wr S).1 (q_wr S).2.1) := if_pos a
  rw [← er] at q
  have rk : z_in (q_wr S).1 := (wRun_kd _ _ _).1
  generalize q_wr S = R at *
  obtain ⟨r, rfl, f, e1, e2, k⟩ := q
  have f : frB (fun a _ => 7 ≤ a ∧ a ≤ 11) g h1 := f
  have F : frB (fun a j => (a = 0 ∧ 4 ≤ j ∧ j ≤ 5) ∨ (7 ≤ a ∧ a ≤ 11)) g (z_wr (z_wr h1 0 4 (h1 7 1)) 0 5 (h1 7 2)) := ((f.imp fun a j w => Or.inr w).w (Or.inl ⟨rfl, by omega, by omega⟩)).w (Or.inl ⟨rfl, by omega, by omega⟩)
  have c2 : cAb G1 (z_wr (z_wr h1 0 4 (h1 7 1)) 0 5 (h1 7 2)) (puF (puG S S.2.2.1.1 0) R.1 R.2.1) := cAb_G cg (F.imp fun a j w => by omega) (wkI_B cg.2.2.2.2.1.1 F fun j => by omega) (wkI_B cg.2.2.2.2.1.2 F fun j => by omega) (fun j => by rw [F 3 j (by omega)]; exact cg.2.1.1 j) (by rw [F 0 3 (by omega)]; exact cg.2.1.2) (by rw [w_nj (by decide), w_s]; exact e1) (by rw [w_s]; exact e2)
  refine ⟨r, b_X11_way_27 (by rw [e1]; exact rk) (fun _ => a.1) (fun _ => by omega) (fun w => ?_) (fun w => ?_)⟩
  · have w : R.1 = 0 := by omega
    have k5 : isW (z_wr (z_wr h1 0 4 (h1 7 1)) 0 5 (h1 7 2)) 8 R.2.2.2.1 := isW_B (k w) ((frB.rf.w (P := fun a _ => a = 0) rfl).w rfl) (fun j => by omega) (fun j => by omega)
    refine z_Kv.of (d2 := d - 1) (by omega) (c_wbecome (by omega) (hl1.wyi a.1 (by omega)) (hl1.i 8 (by decide) rfl) k5 ok) ?_
    rintro out3 G3 h3 hl3 ⟨r3, rfl, f3, k3⟩
    exact ⟨r3, b_X11_way_74 a.1 (by omega) (cCl.y (by rw [eq, if_pos w]) k3.1 (fun y j y0 y1 => by rw [f3 y j (by omega), F y j (by omega)]; exact fg y j y0 y1) (cAb_W c2 a (f3.imp fun a j w => by omega) (wkI_B c2.2.2.2.2.1.1 f3 fun j => by omega) (wkI_B c2.2.2.2.2.1.2 f3 fun j => by omega) k3))⟩
  · exact cCl.y (by rw [eq, if_neg (by omega)]) rfl (fun y j y0 y1 => by rw [F y j (by omega)]; exact fg y j y0 y1) c2
theorem mm_way (hd : 16 ≤ d) {x1 : Int} (i1 : z_in x1) (o : aok S) (c : mAb h S) : z_CY D M_X13_way d [(2, 88), (0, x1)] G h (mCl (0, (q_way x1 S).1) (q_way x1 S).2 G h) := by
  have o2 := o
  obtain ⟨gk, n0, n1⟩ := o2.2.1
  refine z_begin mo_X13_way rfl (nle rfl) (b_X13_way_0 (k_begin (by omega) o c fun g cg g15 g17 fg => ?_))
  have o3 : ∀ k p : Int, aok (puF (puG S S.2.2.1.1 0) k p) := fun k p => aok_f o k p
  refine b_X13_way_14 (by omega) i1 (fun a => ?_) (fun a => mCl.y (S' := puF (puF (puG S S.2.2.1.1 0) 0 (-1)) S.2.2.2.1.1 S.2.2.2.1.2) (if_neg a) rfl (fun b j w => by rw [w_na (by omega), w_na (by omega)]; exact fg b j w) ?_)
  · obtain ⟨H, eH⟩ : ∃ H, H = z_wr (z_wr g 95 8 0) 88 19 0 := ⟨_, rfl⟩
    rw [← eH]
    have fH : frB mSc g H := by rw [eH]; exact (frB.rf.w (by unfold mSc; omega)).w (by unfold mSc; omega)
    have cH := mAb_0 (o3 _ _) cg fH
    have eg : ∀ j, w8 (H 100 j) = S.2.2.1.1 j := cH.2.1.1
    refine z_Kv.of (d2 := d - 1) (by omega) (m_scan (by omega) gk n1 (Int.le_refl 0) n0 (by rw [eH, w_nj (by decide), w_na (by decide)]; exact g15) (by rw [eH, w_nj (by decide), w_na (by decide)]; exact g17) eg) ?_
    rintro out G1 h1 hl1 ⟨r1, rfl, f1, f0, ff, mh, er⟩
    have mv : mV w0 h1 := by
      refine ⟨⟨?_, fun i i0 i1 => ?_⟩, ?_, ?_, ?_⟩
      · rw [f1 95 8 (by unfold scP; omega), eH, w_na (by decide), w_s]; rfl
      · have i1 : i < (0 : Int) := i1
        omega
      · rw [f1 88 19 (by unfold scP; omega), eH, w_s]; rfl
      · rw [f1 88 20 (by unfold scP; omega)]; exact cH.2.2.1.1
      · rw [f1 88 21 (by unfold scP; omega)]; exact cH.2.2.1.2
    have f1 : frB mSc H h1 := f1.imp fun a j w => by unfold scP at w; unfold mSc; omega
    have F1 := fH.tr f1
    refine ⟨r1, b_X13_way_51 (z_KT.of (d2 := d - 1) (by omega) (m_readWay (by omega) gk n1 f0 w0 h1 w0_inv rfl rfl mv mh (fun j => by rw [f1 100 j (by unfold mSc; omega)]; exact eg j)) ?_)⟩
    intro out2 G2 h2 hl2 q
    unfold wyQ at q
    have er2 : wR S.2.2.1.1 S.2.2.1.2 f0 w0 = q_wr S := (er w0).symm
    have eq : q_way x1 S = if (q_wr S).1 = 0 then ((q_wr S).2.2.2.1.1, puW (puF (puG S S.2.2.1.1 0) (q_wr S).1 (q_wr S).2.1) x1 (q_wr S).2.2.2.1) else (-1, puF (puG S S.2.2.1.1 0) (q_wr S).1 (q_wr S).2.1) := if_pos a
    have okR := q_wr_ok (S := S)
    obtain ⟨rfl, f2, q⟩ := q
    have F2 : frB (fun a j => (a = 88 ∧ (j = 20 ∨ j = 21)) ∨ mSc a j) g h2 := (F1.imp fun _ _ w => Or.inr w).tr (f2.imp fun a j w => by unfold mwP at w; unfold mSc; omega)
    have cM : ∀ (h3 : zH) (k p : Int), frB (fun a j => (a = 88 ∧ (j = 20 ∨ j = 21)) ∨ mSc a j) g h3 → h3 88 20 = k → h3 88 21 = p → mAb h3 (puF (puG S S.2.2.1.1 0) k p) := fun h3 k p f ek ep => mAb_G (o3 _ _) cg (f.imp fun a j w => w.elim (fun q => Or.inr (Or.inl ⟨q.1, Or.inr q.2⟩)) (fun q => Or.inr (Or.inr q))) (fun j => by rw [f 100 j (by unfold mSc; omega)]; exact cg.2.1.1 j) (by rw [f 88 14 (by unfold mSc; omega)]; exact cg.2.1.2) ek ep
    have fail : ∀ (h3 : zH), frB (fun a j => (a = 88 ∧ (j = 20 ∨ j = 21)) ∨ mSc a j) g h3 → ¬ (q_wr S).1 = 0 → h3 88 20 = (q_wr S).1 → h3 88 21 = (q_wr S).2.1 → z_Y D M_X13_way d 75 [] [(2, 99)] G2 h3 (mCl (0, (q_way x1 S).1) (q_way x1 S).2 G2 h) := fun h3 f z e20 e21 => b_X13_way_75 (mCl.y (by rw [eq, if_neg z]) rfl (fun y j w => by rw [f y j (by unfold mSc; omega)]; exact fg y j w) (cM h3 _ _ f e20 e21))
    rcases q with ⟨r, f', s', pf, st, mv', mh', er'⟩ | ⟨r, t⟩
    · refine Or.inl ⟨none, r, ?_⟩
      obtain ⟨pf0, pf⟩ := pf
      have du : s'.1.1 = 0 := st.1.2.1
      have dp : s'.2.2.1 = 0 := st.1.2.2
      rw [er2] at er'
      have m1 := mh'.1
      rcases pf with pe | ⟨pl, p125⟩
      · -- at the end
        have e18 : h2 88 18 = 0 := by
          rcases mh'.2 with w | w
          · exact w.2.1
          · omega
        have eR : q_wr S = (0, -1, s') := by
          rw [er', wR_end (by omega), if_neg (by omega)]
        refine b_X13_way_55 (by rw [e18]; exact ⟨by decide, by decide⟩) (fun _ => ?_) (fun w => absurd e18 w)
        have kv : isV h2 8 (q_wr S).2.2.2.1 := by rw [eR]; exact mv'.1
        refine z_Kv.of (d2 := d - 1) (by omega) (m_takeWay a.1 (by omega) (by decide) (by decide) (by omega) okR kv) ?_
        rintro out3 G3 h3 hl3 ⟨r3, rfl, f3, k3⟩
        have c2 := cM h2 (q_wr S).1 (q_wr S).2.1 F2 (by rw [eR]; exact mv'.2.2.1) (by rw [eR]; exact mv'.2.2.2)
        exact ⟨r3, b_X13_way_86 a.1 (by omega) (mCl.y (by rw [eq, if_pos (by rw [eR])]) k3.1 (fun y j w => by rw [f3 y j (by omega), F2 y j (by unfold mSc; omega)]; exact fg y j w) (mAb_W (o3 _ _) c2 a (f3.imp fun _ _ w => Or.inl w) k3))⟩
      · -- at a brace that closes nothing
        have e18 : ¬ h2 88 18 = 0 := by
          rcases mh'.2 with w | w
          · omega
          · rw [w.2.2.2]; exact hkd_0 _
        have e16 : h2 88 16 = f' := m1.2.1
        have b := bad_tok (g := S.2.2.1.1) (N := S.2.2.1.2) (kd := 1) (s := s') pl (mh'.nb pl) (by
          unfold wTok wSign
          rw [if_neg (by omega), if_pos du, if_neg (by omega)]) (by decide)
        refine b_X13_way_55 mh'.h18 (fun w => absurd w e18) (fun _ => ?_)
        rw [e16]
        refine k_wrong (by omega) (b_X13_way_71 (by decide) (hl2.i 99 (by decide) rfl) (fail _ ?_ ?_ ?_ ?_))
        · exact (F2.w (by omega)).w (by omega)
        · rw [er', b.1]; decide
        · rw [w_nj (by decide), w_s, er', b.1]
        · rw [w_s, er', b.2]
    · unfold wyT at t
      rw [er2] at t
      exact Or.inr ⟨99, r, z_Y.catch rfl (by decide) (by decide) (by decide) cb10 (hl2.i 99 (by decide) rfl) k1097 (fun hl => z_sub (L' := []) [] rfl (fail h2 F2 t.1 t.2.1 t.2.2 hl))⟩
  · exact mAb_G (o3 _ _) cg (((frB.rf.w (by omega)).w (by omega))) (fun j => by rw [w_na (by decide), w_na (by decide)]; exact cg.2.1.1 j) (by rw [w_nj (by decide), w_nj (by decide)]; exact cg.2.1.2) (by rw [w_nj (by decide), w_s]; exact c.2.2.1.1) (by rw [w_s]; exact c.2.2.1.2)
/-! found by a search, taken -/
noncomputable def q_fd (two : Prop) (t w u v : zTb) (most : Int) (S : zA) : Int × zA := ((bF two (eW w v) most.toNat 0 0 (1, fun _ => (t, u))).1, puR S (fRR two (eW w v) (bF two (eW w v) most.toNat 0 0 (1, fun _ => (t, u)))))
noncomputable def q_find (t w u v most : Int) (S : zA) : Int × zA := if (0 ≤ t ∧ t ≤ 7) ∧ (0 ≤ w ∧ w ≤ 7) ∧ 0 ≤ most ∧ most ≤ 3 then (if u = -1 ∧ v = -1 then q_fd False (S.1 t) (S.1 w) zBl zBl most S else if (0 ≤ u ∧ u ≤ 7) ∧ 0 ≤ v ∧ v ≤ 7 then q_fd True (S.1 t) (S.1 w) (S.1 u) (S.1 v) most S else (-2, S)) else (-2, S)
theorem cAb_R {G' : zG} {r : Int × Int × Int × Int × List (List Int)} (c : cAb G h S) (f : frK G h G' h') (p : PI G' h') (q : fnQ h' r) : cAb G' h' (puR S r) := by
  obtain ⟨⟨a1, a2⟩, ⟨b1, b2⟩, ⟨c1, c2⟩, -, ⟨e1, e2⟩, g⟩ := c
  have f : frB (fun b _ => ¬ (b < 114 ∧ ¬ (33 ≤ b ∧ b ≤ 45) ∧ ¬ (48 ≤ b ∧ b ≤ 55) ∧ ¬ (13 ≤ b ∧ b ≤ 18))) h h' := fun b j w => f.2 b j (by omega) (by omega) (by omega) (by omega)
  exact ⟨⟨fun i i0 i8 => isC_B (a1 i i0 i8) f (fun j => by omega) (fun j => by omega), fun w w0 w8 => isW_B (a2 w w0 w8) f (fun j => by omega) (fun j => by omega)⟩, ⟨fun j => by rw [f 3 j (by omega)]; exact b1 j, by rw [f 0 3 (by omega)]; exact b2⟩, ⟨by rw [f 0 4 (by omega)]; exact c1, by rw [f 0 5 (by omega)]; exact c2⟩, ⟨p, q⟩, ⟨wkI_B e1 f fun j => by omega, wkI_B e2 f fun j => by omega⟩, isC_B g f (fun j => by omega) (fun j => by omega)⟩
theorem cc_find (hd : 9 ≤ d) {x1 x2 x3 x4 x5 : Int} (i1 : z_in x1) (i2 : z_in x2) (i3 : z_in x3) (i4 : z_in x4) (i5 : z_in x5) (o : aok S) (c : cAb G h S) : z_CY D M_X11_find d [(2, 0), (0, x1), (0, x2), (0, x3), (0, x4), (0, x5)] G h (cCl (0, (q_find x1 x2 x3 x4 x5 S).1) (q_find x1 x2 x3 x4 x5 S).2 G h) := by
  intro hl
  have rd : ∀ x : Int, 0 ≤ x ∧ x ≤ 7 → rdT G h (56 + 4 * x) (S.1 x) := fun x a => ⟨hl.tbi a.1 (by omega), c.1.1 x a.1 (by omega), o.1.1 x a.1 (by omega), by omega⟩
  have r46 : rdT G h 46 zBl := ⟨hl.i 46 (by decide) rfl, c.2.2.2.2.2, zBl_ok, Or.inl rfl⟩
  have at63 : (0 ≤ x1 ∧ x1 ≤ 7) → (0 ≤ x2 ∧ x2 ≤ 7) → (0 ≤ x5 ∧ x5 ≤ 3) → ¬ (x3 = -1 ∧ x4 = -1) → z_Y D M_X11_find d 63 [(0, 2, 0), (1, 0, x1), (2, 0, x2), (3, 0, x3), (4, 0, x4), (5, 0, x5)] [] G h (cCl (0, (q_find x1 x2 x3 x4 x5 S).1) (q_find x1 x2 x3 x4 x5 S).2 G h) := by
    intro a b m n
    have e0 : q_find x1 x2 x3 x4 x5 S = if (0 ≤ x3 ∧ x3 ≤ 7) ∧ 0 ≤ x4 ∧ x4 ≤ 7 then q_fd True (S.1 x1) (S.1 x2) (S.1 x3) (S.1 x4) x5 S else (-2, S) := by
      unfold q_find
      rw [if_pos ⟨a, b, m⟩, if_neg n]
    refine b_X11_find_63 (by omega) i3 (fun _ => i4) (fun _ _ => a.1) (fun _ _ => by omega) (fun _ _ => b.1) (fun _ _ => by omega) (fun w _ => w.1) (fun w _ => by omega) (fun _ w => w.1) (fun _ w => by omega) (fun w w2 => ?_) (fun w w2 => cCl.n c (by rw [e0, if_neg (fun q => w2 q.2)]) rfl) (fun w => cCl.n c (by rw [e0, if_neg (fun q => w q.1)]) rfl)
    refine z_Ki.of (d2 := d - 1) (by omega) (c_seek (two := True) (by omega) c.2.2.2.1.1 (rd _ a) (rd _ b) (Or.inl ⟨trivial, rd _ w, rd _ w2, by omega, by omega⟩) (fun q => absurd trivial q) m.1 m.2) ?_
    rintro out G' h' hl' ⟨r, f, p, q⟩
    exact ⟨_, r, b_X11_find_115 (cCl.y (by rw [e0, if_pos ⟨w, w2⟩]; rfl) rfl (fun y j y0 y1 => f.2 y j y1 (by omega) (by omega) (by omega)) (cAb_R c f p q))⟩
  refine z_begin mo_X11_find rfl (nle rfl) (b_X11_find_0 (by omega) i1 (fun _ => i2) (fun _ _ => i5) (fun _ _ _ _ => i3) (fun _ _ _ _ _ => i4) (fun a _ _ _ _ _ => a.1) (fun a _ _ _ _ _ => by omega) (fun _ b _ _ _ _ => b.1) (fun _ b _ _ _ _ => by omega)
    (fun a b w => cCl.n c (if_neg (by omega)) rfl) (fun a b w w2 w3 => at63 a b ⟨by omega, w2⟩ (fun q => w3 q.1)) (fun a b w w2 w3 w4 => at63 a b ⟨by omega, w2⟩ (fun q => w4 q.2)) (fun a b w w2 w3 w4 => ?_) (fun a b w w2 => cCl.n c (if_neg (by omega)) rfl) (fun a b => cCl.n c (if_neg (by omega)) rfl) (fun a => cCl.n c (if_neg (by omega)) rfl)) hl
  have m : 0 ≤ x5 ∧ x5 ≤ 3 := ⟨by omega, w2⟩
  have e0 : q_find x1 x2 x3 x4 x5 S = q_fd False (S.1 x1) (S.1 x2) zBl zBl x5 S := by
    unfold q_find
    rw [if_pos ⟨a, b, m⟩, if_pos ⟨Classical.not_not.mp w3, Classical.not_not.mp w4⟩]
  refine z_Ki.of (d2 := d - 1) (by omega) (c_seek (two := False) (by omega) c.2.2.2.1.1 (rd _ a) (rd _ b) (Or.inr ⟨fun q => q, rfl, rfl, r46, r46⟩) (fun _ => zBl_no) m.1 m.2) ?_
  rintro out G' h' hl' ⟨r, f, p, q⟩
  exact ⟨_, r, b_X11_find_62 (cCl.y (by rw [e0]; rfl) rfl (fun y j y0 y1 => f.2 y j y1 (by omega) (by omega) (by omega)) (cAb_R c f p q))⟩
theorem mAb_R {r : Int × Int × Int × Int × List (List Int)} (o : aok S) (c : mAb h S) (f : frB mFd h h') (q : fnM h' r) : mAb h' (puR S r) := by
  obtain ⟨⟨a1, a2⟩, ⟨b1, b2⟩, ⟨c1, c2⟩, -⟩ := c
  exact ⟨⟨fun i i0 i8 => isM_B (a1 i i0 i8) f (by unfold mFd mW; omega) (by unfold mFd mW; omega) (fun j _ _ => by unfold mFd mW; omega), fun w w0 w8 => isV_C (a2 w w0 w8) (o.1.2 w w0 w8) f (by unfold mFd mW; omega) (fun a j _ _ _ _ => by unfold mFd mW; omega)⟩, ⟨fun j => by rw [f 100 j (by unfold mFd mW; omega)]; exact b1 j, by rw [f 88 14 (by unfold mFd mW; omega)]; exact b2⟩, ⟨by rw [f 88 20 (by unfold mFd mW; omega)]; exact c1, by rw [f 88 21 (by unfold mFd mW; omega)]; exact c2⟩, q⟩
theorem mm_find (hd : 16 ≤ d) {x1 x2 x3 x4 x5 : Int} (i1 : z_in x1) (i2 : z_in x2) (i3 : z_in x3) (i4 : z_in x4) (i5 : z_in x5) (o : aok S) (c : mAb h S) : z_CY D M_X13_find d [(2, 88), (0, x1), (0, x2), (0, x3), (0, x4), (0, x5)] G h (mCl (0, (q_find x1 x2 x3 x4 x5 S).1) (q_find x1 x2 x3 x4 x5 S).2 G h) := by
  have kT : ∀ x : Int, 0 ≤ x ∧ x ≤ 7 → isM h x (S.1 x) := fun x a => c.1.1 x a.1 (by omega)
  have oT : ∀ x : Int, 0 ≤ x ∧ x ≤ 7 → okT (S.1 x) := fun x a => o.1.1 x a.1 (by omega)
  have j5 := i5
  unfold z_in at j5
  by_cases a : (0 ≤ x1 ∧ x1 ≤ 7) ∧ (0 ≤ x2 ∧ x2 ≤ 7) ∧ 0 ≤ x5 ∧ x5 ≤ 3
  · by_cases n : x3 = -1 ∧ x4 = -1
    · have e0 : q_find x1 x2 x3 x4 x5 S = q_fd False (S.1 x1) (S.1 x2) zBl zBl x5 S := by
        unfold q_find
        rw [if_pos a, if_pos n]
      refine (m_find (two := False) hd (P := (S.1 x1, zBl)) a.1 a.2.1 (Or.inr ⟨fun q => q, n.1, n.2, rfl⟩) a.2.2 (kT _ a.1) (kT _ a.2.1) ⟨oT _ a.1, zBl_ok⟩ (oT _ a.2.1) zBl_ok).mono ?_
      rintro out G' h' hl' ⟨rfl, rfl, f, q⟩
      exact mCl.y (by rw [e0]; rfl) rfl (fun y j w => f y j (by unfold mFd mW; omega)) (mAb_R o c f q)
    · have e0 : q_find x1 x2 x3 x4 x5 S = if (0 ≤ x3 ∧ x3 ≤ 7) ∧ 0 ≤ x4 ∧ x4 ≤ 7 then q_fd True (S.1 x1) (S.1 x2) (S.1 x3) (S.1 x4) x5 S else (-2, S) := by
        unfold q_find
        rw [if_pos a, if_neg n]
      by_cases b : (0 ≤ x3 ∧ x3 ≤ 7) ∧ 0 ≤ x4 ∧ x4 ≤ 7
      · refine (m_find (two := True) hd (P := (S.1 x1, S.1 x3)) (V := S.1 x4) a.1 a.2.1 (Or.inl ⟨trivial, b.1, b.2, kT _ b.1, kT _ b.2⟩) a.2.2 (kT _ a.1) (kT _ a.2.1) ⟨oT _ a.1, oT _ b.1⟩ (oT _ a.2.1) (oT _ b.2)).mono ?_
        rintro out G' h' hl' ⟨rfl, rfl, f, q⟩
        exact mCl.y (by rw [e0, if_pos b]; rfl) rfl (fun y j w => f y j (by unfold mFd mW; omega)) (mAb_R o c f q)
      · have e1 : q_find x1 x2 x3 x4 x5 S = (-2, S) := by rw [e0, if_neg b]
        have at61 : ∀ s0 s1 : Int, (s0 = 0 ∨ s0 = 1) → (s1 = 0 ∨ s1 = 1) → ¬ s0 = s1 → z_Y D M_X13_find d 61 [(0, 2, 88), (1, 0, x1), (2, 0, x2), (3, 0, x3), (4, 0, x4), (5, 0, x5)] [(0, s1), (0, s0)] G h (mCl (0, (q_find x1 x2 x3 x4 x5 S).1) (q_find x1 x2 x3 x4 x5 S).2 G h) := fun s0 s1 q0 q1 q => b_X13_find_61 (by omega) ⟨by omega, by omega⟩ ⟨by omega, by omega⟩ (fun w => absurd q w) (fun w => absurd q w) (fun w => absurd q w) (fun _ => mCl.n c e1 rfl) (fun w => absurd q w) (fun w => absurd q w) (fun w => absurd q w)
        have at26 : (x3 = -1 ∨ (0 ≤ x3 ∧ x3 ≤ 7)) → z_Y D M_X13_find d 26 [(0, 2, 88), (1, 0, x1), (2, 0, x2), (3, 0, x3), (4, 0, x4), (5, 0, x5)] [] G h (mCl (0, (q_find x1 x2 x3 x4 x5 S).1) (q_find x1 x2 x3 x4 x5 S).2 G h) := fun w3 => by
          refine b_X13_find_26 (by omega) i4 (fun w => ?_) (fun w w2 => ?_) (fun w w2 => mCl.n c e1 rfl)
          · refine b_X13_find_40 i3 (fun q => b_X13_find_50 i4 (fun q2 => absurd w q2) (fun q2 => at61 0 1 (by omega) (by omega) (by decide))) (fun q => absurd ⟨Classical.not_not.mp q, w⟩ n)
          · refine b_X13_find_40 i3 (fun q => absurd ⟨by omega, w2⟩ b) (fun q => b_X13_find_50 i4 (fun q2 => at61 1 0 (by omega) (by omega) (by decide)) (fun q2 => absurd (Classical.not_not.mp q2) w))
        exact z_begin mo_X13_find rfl (nle rfl) (b_X13_find_0 (by omega) i1 (fun _ => i2) (fun _ _ => i3) (fun _ _ w => at26 (Or.inl w)) (fun _ _ _ w => at26 (Or.inr w)) (fun _ _ _ _ => mCl.n c e1 rfl) (fun _ _ => mCl.n c e1 rfl) (fun _ => mCl.n c e1 rfl))
  · have e1 : q_find x1 x2 x3 x4 x5 S = (-2, S) := if_neg a
    have at61 : (0 ≤ x1 ∧ x1 ≤ 7) → (0 ≤ x2 ∧ x2 ≤ 7) → ∀ s0 s1 : Int, (s0 = 0 ∨ s0 = 1) → (s1 = 0 ∨ s1 = 1) → z_Y D M_X13_find d 61 [(0, 2, 88), (1, 0, x1), (2, 0, x2), (3, 0, x3), (4, 0, x4), (5, 0, x5)] [(0, s1), (0, s0)] G h (mCl (0, (q_find x1 x2 x3 x4 x5 S).1) (q_find x1 x2 x3 x4 x5 S).2 G h) := fun y1 y2 s0 s1 q0 q1 => b_X13_find_61 (by omega) ⟨by omega, by omega⟩ ⟨by omega, by omega⟩ (fun _ => i5) (fun _ => ⟨by omega, by omega⟩) (fun _ _ => i3) (fun _ => mCl.n c e1 rfl) (fun _ w => absurd ⟨y1, y2, w⟩ a) (fun _ w => absurd ⟨y1, y2, w⟩ a) (fun _ _ => mCl.n c e1 rfl)
    have at26 : (0 ≤ x1 ∧ x1 ≤ 7) → (0 ≤ x2 ∧ x2 ≤ 7) → z_Y D M_X13_find d 26 [(0, 2, 88), (1, 0, x1), (2, 0, x2), (3, 0, x3), (4, 0, x4), (5, 0, x5)] [] G h (mCl (0, (q_find x1 x2 x3 x4 x5 S).1) (q_find x1 x2 x3 x4 x5 S).2 G h) := fun y1 y2 => by
      have at40 : z_Y D M_X13_find d 40 [(0, 2, 88), (1, 0, x1), (2, 0, x2), (3, 0, x3), (4, 0, x4), (5, 0, x5)] [] G h (mCl (0, (q_find x1 x2 x3 x4 x5 S).1) (q_find x1 x2 x3 x4 x5 S).2 G h) := b_X13_find_40 i3 (fun _ => b_X13_find_50 i4 (fun _ => at61 y1 y2 0 0 (by omega) (by omega)) (fun _ => at61 y1 y2 0 1 (by omega) (by omega))) (fun _ => b_X13_find_50 i4 (fun _ => at61 y1 y2 1 0 (by omega) (by omega)) (fun _ => at61 y1 y2 1 1 (by omega) (by omega)))
      exact b_X13_find_26 (by omega) i4 (fun _ => at40) (fun _ _ => at40) (fun _ _ => mCl.n c e1 rfl)
    exact z_begin mo_X13_find rfl (nle rfl) (b_X13_find_0 (by omega) i1 (fun _ => i2) (fun _ _ => i3) (fun y1 y2 _ => at26 y1 y2) (fun y1 y2 _ _ => at26 y1 y2) (fun _ _ _ _ => mCl.n c e1 rfl) (fun _ _ => mCl.n c e1 rfl) (fun _ => mCl.n c e1 rfl))
def q_tkp (i : Int) (S : zA) : Option (List Int) := if 0 ≤ i then S.2.2.2.2.2.2.2.2[i.toNat]? else none
def q_take (i w : Int) (S : zA) : Int × zA := if 0 ≤ w ∧ w ≤ 7 then (match q_tkp i S with
  | some p => ((p.length : Int), puW S w (pW p))
  | none => (-1, S)) else (-2, S)
theorem q_tk1 {i : Int} (i0 : 0 ≤ i) (i1 : i < (S.2.2.2.2.2.2.2.2.length : Int)) : ∃ p, S.2.2.2.2.2.2.2.2[i.toNat]? = some p ∧ q_tkp i S = some p := by
  have l : i.toNat < S.2.2.2.2.2.2.2.2.length := by omega
  have e : S.2.2.2.2.2.2.2.2[i.toNat]? = some (S.2.2.2.2.2.2.2.2[i.toNat]) := List.getElem?_eq_getElem l
  exact ⟨_, e, by unfold q_tkp; rw [if_pos i0, e]⟩
theorem q_tk0 {i : Int} (n : ¬ (0 ≤ i ∧ i < (S.2.2.2.2.2.2.2.2.length : Int))) : q_tkp i S = none := by
  unfold q_tkp
  by_cases z : 0 ≤ i
  · rw [if_pos z]
    exact List.getElem?_eq_none (by omega)
  · rw [if_neg z]
theorem cc_take (hd : 2 ≤ d) {x1 x2 : Int} (i1 : z_in x1) (i2 : z_in x2) (o : aok S) (c : cAb G h S) : z_CY D M_X11_take d [(2, 0), (0, x1), (0, x2)] G h (cCl (0, (q_take x1 x2 S).1) (q_take x1 x2 S).2 G h) := by
  intro hl
  have eL := c.2.2.2.1.2.2.2.2.1
  have l60 := o.2.2.1.1
  refine z_begin mo_X11_take rfl (nle rfl) (b_X11_take_0 hd i2 (fun _ => i1) (fun _ _ => by rw [eL]; exact ⟨by omega, by omega⟩) (fun a _ _ => a.1) (fun a _ _ => by omega) (fun a w => cCl.n c (by unfold q_take; rw [if_pos a, q_tk0 (by omega)]) rfl) (fun a w w2 => ?_) (fun a w w2 => cCl.n c (by unfold q_take; rw [if_pos a, q_tk0 (by rw [eL] at w2; omega)]) rfl) (fun a => cCl.n c (if_neg a) rfl)) hl
  rw [eL] at w2
  obtain ⟨p, ep, eq⟩ := q_tk1 (S := S) (by omega : 0 ≤ x1) w2
  obtain ⟨r0, rl, rc⟩ := o.2.2.1.2 p (List.mem_of_getElem? ep)
  have r3 := o.2.2.2
  have e1 := c.2.2.2.1.2.2.2.2.2.2 x1.toNat p ep
  rw [show ((x1.toNat : Nat) : Int) = x1 by omega] at e1
  refine z_Kv.of (d2 := d - 1) (by omega) (c_write (by omega) (hl.wyi a.1 (by omega)) (by omega) c.2.2.2.1.1.2.2.2 (by omega) (by omega) (by omega) rc e1 (by rw [c.2.2.2.1.2.2.2.2.2.1 r0]; exact rl.symm)) ?_
  rintro out G' h' hl' ⟨r, rfl, f, k⟩
  exact ⟨r, b_X11_take_47 a.1 (by omega) (cCl.y (by unfold q_take; rw [if_pos a, eq]; rfl) k.1 (fun y j y0 y1 => f y j (by omega)) (cAb_W c a (f.imp fun a j w => by omega) (wkI_B c.2.2.2.2.1.1 f fun j => by omega) (wkI_B c.2.2.2.2.1.2 f fun j => by omega) k))⟩
theorem mm_take (hd : 3 ≤ d) {x1 x2 : Int} (i1 : z_in x1) (i2 : z_in x2) (o : aok S) (c : mAb h S) : z_CY D M_X13_take d [(2, 88), (0, x1), (0, x2)] G h (mCl (0, (q_take x1 x2 S).1) (q_take x1 x2 S).2 G h) := by
  have td := c.2.2.2.2.2.2
  have eL := td.2.1
  have l60 := td.1
  have r3 := o.2.2.2
  have j1 := i1
  unfold z_in at j1
  by_cases a : (0 ≤ x2 ∧ x2 ≤ 7) ∧ 0 ≤ x1 ∧ x1 < (S.2.2.2.2.2.2.2.2.length : Int)
  · obtain ⟨p, ep, eq⟩ := q_tk1 (S := S) a.2.1 a.2.2
    have q := m_take (D := D) (G := G) hd a.1.1 a.1.2 r3 td ep
    rw [show ((x1.toNat : Nat) : Int) = x1 by omega] at q
    refine q.mono ?_
    rintro out G' h' hl' ⟨rfl, rfl, f, k⟩
    have lp := (o.2.2.1.2 p (List.mem_of_getElem? ep)).2.1
    exact mCl.y (by unfold q_take; rw [if_pos a.1, eq]) lp.symm (fun y j w => f y j (by unfold mTk; omega)) (mAb_W o c a.1 (f.imp fun _ _ w => Or.inl w) k)
  · refine z_begin mo_X13_take rfl (nle rfl) (b_X13_take_0 hd i2 (fun _ => i1) (fun _ => by rw [eL]; exact ⟨by omega, by omega⟩) (fun _ => ⟨by omega, by omega⟩) (fun _ => by rw [eL]; exact ⟨by omega, by omega⟩) (fun w _ => w.1) (fun w _ => by omega) (fun w w2 => absurd ⟨w, by omega, by omega⟩ a) (fun w w2 => mCl.n c (by unfold q_take; rw [if_pos w, q_tk0 (by omega)]) rfl) (fun w => mCl.n c (if_neg w) rfl))
end CalD
