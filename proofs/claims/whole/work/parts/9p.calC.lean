section CalC
variable {D : zD} {d : Nat} {G : zG} {h h' h0 h1 : zH} {S : zA} {Q : zO → zG → zH → Prop}
/-! chain -/
def chK (W V : zWy) (k : Int) : zWy := (W.1 + k, fun i => if i < W.1 then W.2 i else V.2 (i - W.1))
def q_chain (w v u : Int) (S : zA) : Int × zA := if (0 ≤ w ∧ w ≤ 7) ∧ (0 ≤ v ∧ v ≤ 7) ∧ 0 ≤ u ∧ u ≤ 7 then (if (S.2.1 w).1 + (S.2.1 v).1 ≤ 12 then ((S.2.1 w).1 + (S.2.1 v).1, puW S u (chK (S.2.1 w) (S.2.1 v) (S.2.1 v).1)) else (-3, S)) else (-2, S)
theorem chK_ok {W V : zWy} {k : Int} (oW : okW W) (oV : okW V) (k0 : 0 ≤ k) (k1 : k ≤ V.1) (l : W.1 + V.1 ≤ 12) : okW (chK W V k) := by
  refine ⟨by have := oW.1; show 0 ≤ W.1 + k; omega, by show W.1 + k ≤ 12; omega, fun i i0 i1 => ?_⟩
  have i1 : i < W.1 + k := i1
  show 64 ≤ (if i < W.1 then W.2 i else V.2 (i - W.1)) ∧ (if i < W.1 then W.2 i else V.2 (i - W.1)) < 960
  by_cases z : i < W.1
  · rw [if_pos z]; exact oW.2.2 i i0 z
  · rw [if_neg z]; exact oV.2.2 (i - W.1) (by omega) (by omega)
theorem isW_g {w : Int} {W V : zWy} (k : isW h w W) (e : W.1 = V.1) (e2 : ∀ i : Int, 0 ≤ i → i < V.1 → W.2 i = V.2 i) : isW h w V := ⟨by rw [k.1, e], fun i a b => by rw [k.2 i a (by omega)]; exact e2 i a b⟩
theorem isV_g {w : Int} {W V : zWy} (k : isV h w W) (e : W.1 = V.1) (e2 : ∀ i : Int, 0 ≤ i → i < V.1 → W.2 i = V.2 i) : isV h w V := ⟨by rw [k.1, e], fun i a b => by rw [← e2 i a b]; exact k.2 i a (by omega)⟩
theorem l_addAll (hd : 1 ≤ d) (t31 : z_is G 31 7) {v : Int} {W V : zWy} (tv : z_is G v 7) (v56 : 56 ≤ v) (oW : okW W) (oV : okW V) (l : W.1 + V.1 ≤ 12) : ∀ (m : Nat) (k : Int) (h : zH), k + m = V.1 → 0 ≤ k → isW h 31 (chK W V k) → isW h v V → frB (fun a _ => a = 31 ∨ a = 32) h0 h →
    z_Y D M_X9_addAll d 7 [(0, 2, 31), (1, 2, v), (2, 0, V.1), (3, 0, k)] [] G h (fun out G' h' => out = .inl none ∧ G' = G ∧ frB (fun a _ => a = 31 ∨ a = 32) h0 h' ∧ isW h' 31 (chK W V V.1)) := by
  have oW1 := oW.1
  have oV1 := oV.1
  intro m
  induction m with
  | zero =>
    intro k h e k0 kw kv f
    obtain rfl : k = V.1 := by omega
    exact b_X9_addAll_7 ⟨by omega, by omega⟩ ⟨by omega, by omega⟩ (fun w => absurd (Int.le_refl _) w) (fun _ => ⟨rfl, rfl, f, kw⟩) (fun w => absurd (Int.le_refl _) w)
  | succ m ih =>
    intro k h e k0 kw kv f
    refine b_X9_addAll_7 ⟨by omega, by omega⟩ ⟨by omega, by omega⟩ (fun _ => tv) (fun w => by omega) (fun _ => ?_)
    refine z_Ki.of (d2 := d - 1) (by omega) (a_X9_codeAt tv kv oV k0 (by omega)) ?_
    rintro out G' h' _ ⟨r, rfl, rfl⟩
    refine ⟨_, r, b_X9_addAll_18 t31 (z_Ki.of (d2 := d - 1) (by omega) (c_wadd t31 kw (chK_ok oW oV k0 (by omega) l) (by show W.1 + k < 12; omega)) ?_)⟩
    rintro out2 G2 h2 _ ⟨r2, rfl, f2, k2⟩
    have f2 : frB (fun a _ => a = 31 ∨ a = 32) h' h2 := f2
    refine ⟨_, r2, b_X9_addAll_21 (ih (k + 1) h2 (by omega) (by omega) (isW_g k2 ?_ fun i i0 i1 => ?_) (isW_B kv f2 (fun j => by omega) (fun j => by omega)) (f.tr f2))⟩
    · show W.1 + k + 1 = W.1 + (k + 1); omega
    · have i1 : i < W.1 + (k + 1) := i1
      show (if i = W.1 + k then V.2 k else if i < W.1 then W.2 i else V.2 (i - W.1)) = if i < W.1 then W.2 i else V.2 (i - W.1)
      by_cases z : i = W.1 + k
      · rw [if_pos z, if_neg (by omega), z, show W.1 + k - W.1 = k by omega]
      · rw [if_neg z]
theorem cc_chain (hd : 3 ≤ d) {x1 x2 x3 : Int} (i1 : z_in x1) (i2 : z_in x2) (i3 : z_in x3) (o : aok S) (c : cAb G h S) : z_CY D M_X11_chain d [(2, 0), (0, x1), (0, x2), (0, x3)] G h (cCl (0, (q_chain x1 x2 x3 S).1) (q_chain x1 x2 x3 S).2 G h) := by
  intro hl
  have oW : ∀ x : Int, 0 ≤ x ∧ x ≤ 7 → okW (S.2.1 x) := fun x a => o.1.2 x a.1 (by omega)
  have kW : ∀ x : Int, 0 ≤ x ∧ x ≤ 7 → isW h (58 + 4 * x) (S.2.1 x) := fun x a => c.1.2 x a.1 (by omega)
  have eL : ∀ x : Int, 0 ≤ x ∧ x ≤ 7 → h (58 + 4 * x) 1 = (S.2.1 x).1 := fun x a => (kW x a).1
  refine z_begin mo_X11_chain rfl (nle rfl) (b_X11_chain_0 (by omega) i1 (fun _ => i2) (fun _ _ => i3) (fun a _ _ => a.1) (fun a _ _ => by omega) (fun _ a _ => a.1) (fun _ a _ => by omega) (fun a b _ => ?_) (fun a b e w => ?_) (fun a b e w => ?_) (fun a b e => cCl.n c (if_neg (fun q => e q.2.2)) rfl) (fun a b => cCl.n c (if_neg (fun q => b q.2.1)) rfl) (fun a => cCl.n c (if_neg (fun q => a q.1)) rfl)) hl
  · rw [eL _ a, eL _ b]; have := (oW _ a).1; have := (oW _ a).2.1; have := (oW _ b).1; have := (oW _ b).2.1; exact ⟨by omega, by omega⟩
  · rw [eL _ a, eL _ b] at w
    have t31 : z_is G 31 7 := hl.i 31 (by decide) rfl
    refine z_Kv.of (d2 := d - 1) (by omega) (c_wbecome (by omega) t31 (hl.wyi a.1 (by omega)) (kW _ a) (oW _ a)) ?_
    rintro out G1 h1 hl1 ⟨r1, rfl, f1, k1⟩
    have f1 : frB (fun a _ => a = 31 ∨ a = 32) h h1 := f1
    have kv : isW h1 (58 + 4 * x2) (S.2.1 x2) := isW_B (kW _ b) f1 (fun j => by omega) (fun j => by omega)
    refine ⟨r1, b_X11_chain_64 b.1 (by omega) ?_⟩
    refine z_Kv.of (d2 := d - 1) (by omega) (z_begin mo_X9_addAll rfl (nle rfl) (b_X9_addAll_0 (hl.wyi b.1 (by omega)) (by
      rw [kv.1]
      exact l_addAll (h0 := h1) (W := S.2.1 x1) (by omega) t31 (hl.wyi b.1 (by omega)) (by omega) (oW _ a) (oW _ b) w (S.2.1 x2).1.toNat 0 h1 (by have := (oW _ b).1; omega) (by omega) (isW_g k1 (by show _ = _ + 0; omega) (fun i i0 i1 => by
        have i1 : i < (S.2.1 x1).1 + 0 := i1
        show _ = if i < (S.2.1 x1).1 then (S.2.1 x1).2 i else _
        rw [if_pos (by omega)])) kv frB.rf))) ?_
    rintro out2 G2 h2 hl2 ⟨r2, rfl, f2, k2⟩
    have oC := chK_ok (oW _ a) (oW _ b) (oW _ b).1 (Int.le_refl _) w
    refine ⟨r2, b_X11_chain_77 e.1 (by omega) ?_⟩
    refine z_Kv.of (d2 := d - 1) (by omega) (c_wbecome (by omega) (hl.wyi e.1 (by omega)) t31 k2 oC) ?_
    rintro out3 G3 h3 hl3 ⟨r3, rfl, f3, k3⟩
    have F := ((f1.tr f2).imp (P' := fun y _ => y = 58 + 4 * x3 ∨ y = 59 + 4 * x3 ∨ y = 31 ∨ y = 32) fun a j w => by omega).tr (f3.imp fun a j w => by omega)
    refine ⟨r3, b_X11_chain_90 e.1 (by omega) (cCl.y (by unfold q_chain; exact (if_pos ⟨a, b, e⟩).trans (if_pos w)) k3.1 (fun y j y0 y1 => F y j (by omega)) (cAb_W c e (F.imp fun a j w => by omega) (wkI_B c.2.2.2.2.1.1 F fun j => by omega) (wkI_B c.2.2.2.2.1.2 F fun j => by omega) k3))⟩
  · rw [eL _ a, eL _ b] at w
    exact cCl.n c (by unfold q_chain; rw [if_pos ⟨a, b, e⟩, if_neg w]) rfl
theorem l_mch55 {x2 x3 : Int} {W V : zWy} (b : 0 ≤ x2 ∧ x2 ≤ 7) (oW : okW W) (oV : okW V) (l : W.1 + V.1 ≤ 12)
    (K : ∀ h : zH, frB mSc h0 h → isV h 8 (chK W V V.1) → z_Kv D M_X13_takeWay d [(2, 88), (0, x3), (0, 8)] G h (fun G' h' => z_Y D M_X13_chain d 159 [(0, 2, 88), (3, 0, x3)] [] G' h' Q)) : ∀ (m : Nat) (k : Int) (h : zH), k + m = V.1 → 0 ≤ k → isV h 8 (chK W V k) → isV h x2 V → frB mSc h0 h →
    z_Y D M_X13_chain d 55 [(0, 2, 88), (2, 0, x2), (3, 0, x3), (4, 0, k)] [] G h Q := by
  have oW1 := oW.1
  have oV1 := oV.1
  intro m
  induction m with
  | zero =>
    intro k h e k0 kw kv f
    obtain rfl : k = V.1 := by omega
    have e2 := kv.1
    exact b_X13_chain_55 b.1 (by omega) ⟨by omega, by omega⟩ (by rw [e2]; exact ⟨by omega, by omega⟩) (fun w => by omega) (fun w => by omega) (fun w => by omega) (fun w => by omega) (fun _ => K h f kw) (fun w => by omega)
  | succ m ih =>
    intro k h e k0 kw kv f
    have e2 := kv.1
    have e8 : h 95 8 = W.1 + k := kw.1
    refine b_X13_chain_55 b.1 (by omega) ⟨by omega, by omega⟩ (by rw [e2]; exact ⟨by omega, by omega⟩) (fun w => by omega) (fun w => by omega) (fun w => by omega) (fun w => by omega) (fun w => by omega) (fun _ => ?_)
    obtain ⟨v1, v2, v3⟩ := kv.2 k k0 (by omega)
    rw [v1, v2, v3, e8]
    have F : frB mSc h (z_wr (z_wr (z_wr (z_wr h 96 (96 + (W.1 + k)) (V.2 k / 64)) 97 (96 + (W.1 + k)) (V.2 k / 8 % 8)) 98 (96 + (W.1 + k)) (V.2 k % 8)) 95 8 (W.1 + k + 1)) := (((frB.rf.w (by unfold mSc; omega)).w (by unfold mSc; omega)).w (by unfold mSc; omega)).w (by unfold mSc; omega)
    refine ih (k + 1) _ (by omega) (by omega) ⟨by rw [w_s]; show W.1 + k + 1 = W.1 + (k + 1); omega, fun i i0 i1 => ?_⟩ (isV_C kv oV F (by unfold mSc; omega) (fun a j _ _ _ _ => by unfold mSc; omega)) (f.tr F)
    have i1 : i < W.1 + (k + 1) := i1
    show _ = (if i < W.1 then W.2 i else V.2 (i - W.1)) / 64 ∧ _ = (if i < W.1 then W.2 i else V.2 (i - W.1)) / 8 % 8 ∧ _ = (if i < W.1 then W.2 i else V.2 (i - W.1)) % 8
    by_cases z : i = W.1 + k
    · rw [if_neg (by omega), z, show 12 * 8 + (W.1 + k) = 96 + (W.1 + k) by omega, show W.1 + k - W.1 = k by omega]
      exact ⟨by rw [w_na (by decide), w_na (by decide), w_na (by decide), w_s], by rw [w_na (by decide), w_na (by decide), w_s], by rw [w_na (by decide), w_s]⟩
    · have q := kw.2 i i0 (by show i < W.1 + k; omega)
      exact ⟨by rw [w_na (by decide), w_na (by decide), w_na (by decide), w_nj (by omega)]; exact q.1, by rw [w_na (by decide), w_na (by decide), w_nj (by omega), w_na (by decide)]; exact q.2.1, by rw [w_na (by decide), w_nj (by omega), w_na (by decide), w_na (by decide)]; exact q.2.2⟩
theorem mm_chain (hd : 3 ≤ d) {x1 x2 x3 : Int} (i1 : z_in x1) (i2 : z_in x2) (i3 : z_in x3) (o : aok S) (c : mAb h S) : z_CY D M_X13_chain d [(2, 88), (0, x1), (0, x2), (0, x3)] G h (mCl (0, (q_chain x1 x2 x3 S).1) (q_chain x1 x2 x3 S).2 G h) := by
  have oW : ∀ x : Int, 0 ≤ x ∧ x ≤ 7 → okW (S.2.1 x) := fun x a => o.1.2 x a.1 (by omega)
  have kW : ∀ x : Int, 0 ≤ x ∧ x ≤ 7 → isV h x (S.2.1 x) := fun x a => c.1.2 x a.1 (by omega)
  have eL : ∀ x : Int, 0 ≤ x ∧ x ≤ 7 → h 95 x = (S.2.1 x).1 := fun x a => (kW x a).1
  refine z_begin mo_X13_chain rfl (nle rfl) (b_X13_chain_0 (by omega) i1 (fun _ => i2) (fun _ _ => i3) (fun a _ _ => a.1) (fun a _ _ => by omega) (fun _ a _ => a.1) (fun _ a _ => by omega) (fun a b _ => ?_) (fun a b e w => ?_) (fun a b e w => ?_) (fun a b e => mCl.n c (if_neg (fun q => e q.2.2)) rfl) (fun a b => mCl.n c (if_neg (fun q => b q.2.1)) rfl) (fun a => mCl.n c (if_neg (fun q => a q.1)) rfl))
  · rw [eL _ a, eL _ b]; have := (oW _ a).1; have := (oW _ a).2.1; have := (oW _ b).1; have := (oW _ b).2.1; exact ⟨by omega, by omega⟩
  · rw [eL _ a, eL _ b] at w
    refine z_Kv.of (d2 := d - 1) (by omega) (m_takeWay (by decide) (by decide) a.1 (by omega) (by omega) (oW _ a) (kW _ a)) ?_
    rintro out G1 h1 hl1 ⟨r1, rfl, f1, k1⟩
    have f1 : frB mSc h h1 := f1.imp fun a j w => by unfold mSc; omega
    have c1 := mAb_0 o c f1
    have oC := chK_ok (oW _ a) (oW _ b) (oW _ b).1 (Int.le_refl _) w
    refine ⟨r1, b_X13_chain_52 (l_mch55 (h0 := h1) (W := S.2.1 x1) b (oW _ a) (oW _ b) w ?_ (S.2.1 x2).1.toNat 0 h1 (by have := (oW _ b).1; omega) (by omega) (isV_g k1 (by show _ = _ + 0; omega) (fun i i0 i1 => by
        have i1 : i < (S.2.1 x1).1 + 0 := i1
        show _ = if i < (S.2.1 x1).1 then (S.2.1 x1).2 i else _
        rw [if_pos (by omega)])) (c1.1.2 x2 b.1 (by omega)) frB.rf)⟩
    intro h2 f2 k2
    refine z_Kv.of (d2 := d - 1) (by omega) (m_takeWay e.1 (by omega) (by decide) (by decide) (by omega) oC k2) ?_
    rintro out3 G3 h3 hl3 ⟨r3, rfl, f3, k3⟩
    have F : frB (fun a j => mTk x3 a j ∨ mSc a j) h h3 := ((f1.tr f2).imp fun _ _ w => Or.inr w).tr (f3.imp fun _ _ w => Or.inl w)
    exact ⟨r3, b_X13_chain_159 e.1 (by omega) (mCl.y (by unfold q_chain; exact (if_pos ⟨a, b, e⟩).trans (if_pos w)) k3.1 (fun y j y0 => F y j (by unfold mTk mSc; omega)) (mAb_W o c e F k3))⟩
  · rw [eL _ a, eL _ b] at w
    exact mCl.n c (by unfold q_chain; rw [if_pos ⟨a, b, e⟩, if_neg w]) rfl
/-! table -/
noncomputable def q_tr (S : zA) : Int × Int × tS := tRun (fun k => z_iand (S.2.2.1.1 k) 255) S.2.2.1.2.toNat 0 t0
noncomputable def q_table (t : Int) (S : zA) : Int × zA := if 0 ≤ t ∧ t ≤ 7 then (if (q_tr S).1 = 0 then ((tTab (q_tr S).2.2).1, puT (puF (puG S S.2.2.1.1 0) (q_tr S).1 (q_tr S).2.1) t (tTab (q_tr S).2.2)) else (-1, puF (puG S S.2.2.1.1 0) (q_tr S).1 (q_tr S).2.1)) else (-2, puG S S.2.2.1.1 0)
theorem zb_rg {x : Int} (h : -128 ≤ x ∧ x ≤ 127) : 0 ≤ z_iand x 255 ∧ z_iand x 255 ≤ 255 := by
  rw [z_iand255]
  omega
theorem tRun_kd {b : Int → Int} : ∀ (m : Nat) (k : Int) (s : tS), 0 ≤ (tRun b m k s).1 ∧ (tRun b m k s).1 ≤ 4 := by
  intro m
  induction m with
  | zero =>
    intro k s
    unfold tRun
    split
    · exact ⟨(by decide : (0 : Int) ≤ 3), (by decide : (3 : Int) ≤ 4)⟩
    · exact ⟨(by decide : (0 : Int) ≤ 0), (by decide : (0 : Int) ≤ 4)⟩
  | succ m ih =>
    intro k s
    unfold tRun
    split
    · exact ih _ _
    · have := tKind_rg (x := b k) (s := s)
      show 0 ≤ tKind (b k) s ∧ tKind (b k) s ≤ 4
      omega
theorem tRun_pl {b : Int → Int} : ∀ (m : Nat) (k : Int) (s : tS), (tRun b m k s).1 = 0 → (tRun b m k s).2.1 = -1 := by
  intro m
  induction m with
  | zero =>
    intro k s
    unfold tRun
    split
    · intro w; exact absurd w (by decide : ¬ (3 : Int) = 0)
    · intro _; rfl
  | succ m ih =>
    intro k s
    unfold tRun
    split
    · exact ih _ _
    · next w => intro q; exact absurd q w
theorem q_tr_ok (o : aok S) (e : (q_tr S).1 = 0) : okT (tTab (q_tr S).2.2) := tRun_ok (fun k => zb_rg (o.2.1.1 k)) _ _ _ t0_inv e
theorem c_emptyTape : z_Ei D M_X11_emptyTape d [(2, 0)] G h (h 0 3) (z_wr h 0 3 0) := z_begin mo_X11_emptyTape rfl (nle rfl) (b_X11_emptyTape_0 ⟨rfl, rfl, rfl⟩)
theorem k_emptyTape {M : zM} {q : Nat} {L : List (Nat × zV)} (hd : 1 ≤ d) (c : cAb G h S) (K : ∀ h', cAb G h' (puG S S.2.2.1.1 0) → (∀ b j : Int, 88 ≤ b → b < 114 → h' b j = h b j) → z_Y D M d q L [(0, S.2.2.1.2)] G h' Q) : z_Ki D M_X11_emptyTape d [(2, 0)] G h (fun r G' h' => z_Y D M d q L [(0, r)] G' h' Q) := by
  refine z_Ki.of (d2 := d - 1) (by omega) c_emptyTape ?_
  rintro out G' h' _ ⟨r, rfl, rfl⟩
  refine ⟨_, r, ?_⟩
  rw [c.2.1.2]
  have f : frB tpP h (z_wr h 0 3 0) := frB.rf.w (Or.inr ⟨rfl, rfl⟩)
  exact K _ (cAb_G c (f.imp fun a j w => by unfold tpP at w; omega) (wkI_B c.2.2.2.2.1.1 f fun j => by unfold tpP; omega) (wkI_B c.2.2.2.2.1.2 f fun j => by unfold tpP; omega) (fun j => by rw [w_na (by decide)]; exact c.2.1.1 j) w_s (by rw [w_nj (by decide)]; exact c.2.2.1.1) (by rw [w_nj (by decide)]; exact c.2.2.1.2)) (fun b j b0 b1 => w_na (by omega))
theorem cc_table (hd : 7 ≤ d) {x1 : Int} (i1 : z_in x1) (o : aok S) (c : cAb G h S) : z_CY D M_X11_table d [(2, 0), (0, x1)] G h (cCl (0, (q_table x1 S).1) (q_table x1 S).2 G h) := by
  obtain ⟨-, n0, n1⟩ := o.2.1
  refine z_begin mo_X11_table rfl (nle rfl) (b_X11_table_0 (k_emptyTape (by omega) c fun g cg fg => ?_))
  refine b_X11_table_4 (by omega) i1 (fun a => ?_) (fun a => cCl.y (if_neg a) rfl fg cg)
  refine z_Kv.of (d2 := d - 1) (by omega) (c_read (by omega) n0 n1) ?_
  intro out G1 h1 hl1 q
  unfold rdQ at q
  have eb : (fun k => zb8 (g 3 k)) = fun k => z_iand (S.2.2.1.1 k) 255 := funext fun k => by
    show z_iand (w8 (g 3 k)) 255 = _
    rw [cg.2.1.1 k]; rfl
  rw [eb] at q
  have ok := q_tr_ok (S := S) o
  have er : q_tr S = tRun (fun k => z_iand (S.2.2.1.1 k) 255) S.2.2.1.2.toNat 0 t0 := rfl
  have eq : q_table x1 S = if (q_tr S).1 = 0 then ((tTab (q_tr S).2.2).1, puT (puF (puG S S.2.2.1.1 0) (q_tr S).1 (q_tr S).2.1) x1 (tTab (q_tr S).2.2)) else (-1, puF (puG S S.2.2.1.1 0) (q_tr S).1 (q_tr S).2.1) := if_pos a
  rw [← er] at q
  have rk : 0 ≤ (q_tr S).1 ∧ (q_tr S).1 ≤ 4 := by rw [er]; exact tRun_kd _ _ _
  generalize q_tr S = R at *
  obtain ⟨r, rfl, f, e1, e2, k⟩ := q
  have f : frB (fun a _ => 4 ≤ a ∧ a ≤ 6) g h1 := f.imp fun a j w => by unfold cPr at w; omega
  have F : frB (fun a j => (a = 0 ∧ 4 ≤ j ∧ j ≤ 5) ∨ (4 ≤ a ∧ a ≤ 6)) g (z_wr (z_wr h1 0 4 (h1 4 1)) 0 5 (h1 4 2)) := ((f.imp fun a j w => Or.inr w).w (Or.inl ⟨rfl, by omega, by omega⟩)).w (Or.inl ⟨rfl, by omega, by omega⟩)
  have c2 : cAb G1 (z_wr (z_wr h1 0 4 (h1 4 1)) 0 5 (h1 4 2)) (puF (puG S S.2.2.1.1 0) R.1 R.2.1) := cAb_G cg (F.imp fun a j w => by omega) (wkI_B cg.2.2.2.2.1.1 F fun j => by omega) (wkI_B cg.2.2.2.2.1.2 F fun j => by omega) (fun j => by rw [F 3 j (by omega)]; exact cg.2.1.1 j) (by rw [F 0 3 (by omega)]; exact cg.2.1.2) (by rw [w_nj (by decide), w_s]; exact e1) (by rw [w_s]; exact e2)
  have rc : R.1 = 0 → 1 ≤ h1 5 1 * h1 5 2 ∧ h1 5 1 * h1 5 2 ≤ 72 := fun w => (isC_okS (k w) (ok w)).rc
  refine ⟨r, b_X11_table_27 (by omega) (by rw [e1]; exact ⟨by omega, by omega⟩) (fun _ => a.1) (fun _ => by omega) (fun w => by have := rc (by omega); omega) (fun w => by have := rc (by omega); omega) (fun w => ?_) (fun w => ?_)⟩
  · have w : R.1 = 0 := by omega
    have k5 : isC (z_wr (z_wr h1 0 4 (h1 4 1)) 0 5 (h1 4 2)) 5 (tTab R.2.2) := isC_keep (k w) (fun j => by rw [w_na (by decide), w_na (by decide)]) (fun j => by rw [w_na (by decide), w_na (by decide)])
    obtain ⟨f3, k3⟩ := bcC (t := 56 + 4 * x1) k5 (ok w) (by omega) (k w).1 (k w).2.1
    rw [show (5 : Int) + 1 = 6 from rfl] at f3 k3
    exact cCl.y (by rw [eq, if_pos w]) (k w).1 (fun y j y0 y1 => by rw [f3 y j (by omega), F y j (by omega)]; exact fg y j y0 y1) (cAb_T c2 a (f3.imp fun a j w => by omega) (wkI_B c2.2.2.2.2.1.1 f3 fun j => by omega) (wkI_B c2.2.2.2.2.1.2 f3 fun j => by omega) k3)
  · exact cCl.y (by rw [eq, if_neg (by omega)]) rfl (fun y j y0 y1 => by rw [F y j (by omega)]; exact fg y j y0 y1) c2
theorem aok_f (o : aok S) (k p : Int) : aok (puF (puG S S.2.2.1.1 0) k p) := ⟨o.1, ⟨o.2.1.1, (by decide : (0 : Int) ≤ 0), (by decide : (0 : Int) ≤ 1000)⟩, o.2.2⟩
theorem k_begin {M : zM} {q : Nat} {L : List (Nat × zV)} (hd : 1 ≤ d) (o : aok S) (c : mAb h S) (K : ∀ h', mAb h' (puF (puG S S.2.2.1.1 0) 0 (-1)) → h' 88 15 = S.2.2.1.2 → h' 88 17 = 0 → (∀ b j : Int, ¬ (88 ≤ b ∧ b < 114) → h' b j = h b j) → z_Y D M d q L [] G h' Q) : z_Kv D M_X13_begin d [(2, 88)] G h (fun G' h' => z_Y D M d q L [] G' h' Q) := by
  refine ⟨d - 1, by omega, z_begin mo_X13_begin rfl (nle rfl) (b_X13_begin_0 ⟨none, rfl, rfl, ?_⟩)⟩
  have f : frB (fun a j => a = 88 ∧ 14 ≤ j ∧ j ≤ 21) h (z_wr (z_wr (z_wr (z_wr (z_wr h 88 15 (h 88 14)) 88 14 0) 88 17 0) 88 20 0) 88 21 (-1)) := ((((frB.rf.w (by omega)).w (by omega)).w (by omega)).w (by omega)).w (by omega)
  refine K _ (mAb_G o c (fun a j w => ?_) (fun j => by rw [f 100 j (by omega)]; exact c.2.1.1 j) (by rw [w_nj (by decide), w_nj (by decide), w_nj (by decide), w_s]) (by rw [w_nj (by decide), w_s]) w_s) (by rw [w_nj (by decide), w_nj (by decide), w_nj (by decide), w_nj (by decide), w_s]; exact c.2.1.2) (by rw [w_nj (by decide), w_nj (by decide), w_s]) (fun b j w => f b j (by omega))
  refine f a j fun q => w ?_
  unfold mSc
  omega
theorem mm_table (hd : 7 ≤ d) {x1 : Int} (i1 : z_in x1) (o : aok S) (c : mAb h S) : z_CY D M_X13_table d [(2, 88), (0, x1)] G h (mCl (0, (q_table x1 S).1) (q_table x1 S).2 G h) := by
  have o2 := o
  obtain ⟨-, n0, n1⟩ := o2.2.1
  refine z_begin mo_X13_table rfl (nle rfl) (b_X13_table_0 (k_begin (by omega) o c fun g cg g15 g17 fg => ?_))
  have o3 : aok (puF (puG S S.2.2.1.1 0) 0 (-1)) := (aok_f o _ _)
  refine b_X13_table_14 (by omega) i1 (fun a => ?_) (fun a => mCl.y (S' := puF (puF (puG S S.2.2.1.1 0) 0 (-1)) S.2.2.2.1.1 S.2.2.2.1.2) (if_neg a) rfl (fun b j w => by rw [w_na (by omega), w_na (by omega)]; exact fg b j w) ?_)
  · refine z_KT.of (d2 := d - 1) (by omega) (m_readTable (by omega) n0 n1 g15) ?_
    intro out G1 h1 hl1 q
    unfold mtQ at q
    have eb : (fun k => zb8 (g 100 k)) = fun k => z_iand (S.2.2.1.1 k) 255 := funext fun k => by
      show z_iand (w8 (g 100 k)) 255 = _
      rw [cg.2.1.1 k]; rfl
    rw [eb] at q
    have er : q_tr S = tRun (fun k => z_iand (S.2.2.1.1 k) 255) S.2.2.1.2.toNat 0 t0 := rfl
    have eq : q_table x1 S = if (q_tr S).1 = 0 then ((tTab (q_tr S).2.2).1, puT (puF (puG S S.2.2.1.1 0) (q_tr S).1 (q_tr S).2.1) x1 (tTab (q_tr S).2.2)) else (-1, puF (puG S S.2.2.1.1 0) (q_tr S).1 (q_tr S).2.1) := if_pos a
    rw [← er] at q
    have rp : (q_tr S).1 = 0 → (q_tr S).2.1 = -1 := by rw [er]; exact tRun_pl _ _ _
    generalize q_tr S = R at *
    obtain ⟨rfl, f, q⟩ := q
    have f : frB (fun a j => (a = 88 ∧ (j = 20 ∨ j = 21)) ∨ mSc a j) g h1 := f.imp fun a j w => by unfold mRd mW at w; unfold mSc; omega
    have cM : ∀ k p : Int, h1 88 20 = k → h1 88 21 = p → mAb h1 (puF (puG S S.2.2.1.1 0) k p) := fun k p ek ep => mAb_G o3 cg (f.imp fun a j w => w.elim (fun q => Or.inr (Or.inl ⟨q.1, Or.inr q.2⟩)) (fun q => Or.inr (Or.inr q))) (fun j => by rw [f 100 j (by unfold mSc; omega)]; exact cg.2.1.1 j) (by rw [f 88 14 (by unfold mSc; omega)]; exact cg.2.1.2) ek ep
    rcases q with ⟨z, r, k, e20, e21⟩ | ⟨z, r, e20, e21⟩
    · refine Or.inl ⟨none, r, b_X13_table_38 (z_Kv.of (d2 := d - 1) (by omega) (m_become a.1 (by omega) (by decide) (by decide) k) ?_)⟩
      rintro out2 G2 h2 hl2 ⟨r2, rfl, f2, k2⟩
      have c1 := cM R.1 R.2.1 (by rw [e20, cg.2.2.1.1, z]; rfl) (by rw [e21, cg.2.2.1.2, rp z]; rfl)
      refine ⟨r2, b_X13_table_52 a.1 (by omega) (mCl.y (by rw [eq, if_pos z]) k2.1 (fun y j w => by rw [f2 y j (by unfold mT; omega), f y j (by unfold mSc; omega)]; exact fg y j w) (mAb_T (S := puF (puG S S.2.2.1.1 0) R.1 R.2.1) (aok_f o _ _) c1 a (f2.imp fun _ _ w => Or.inl w) k2))⟩
    · exact Or.inr ⟨99, r, z_Y.catch rfl (by decide) (by decide) (by decide) cb10 (hl1.i 99 (by decide) rfl) k1097 (fun hl => z_sub (L' := []) [] rfl (b_X13_table_41 (mCl.y (by rw [eq, if_neg z]) rfl (fun y j w => by rw [f y j (by unfold mSc; omega)]; exact fg y j w) (cM R.1 R.2.1 e20 e21)) hl))⟩
  · exact mAb_G o3 cg (((frB.rf.w (by omega)).w (by omega))) (fun j => by rw [w_na (by decide), w_na (by decide)]; exact cg.2.1.1 j) (by rw [w_nj (by decide), w_nj (by decide)]; exact cg.2.1.2) (by rw [w_nj (by decide), w_s]; exact c.2.2.1.1) (by rw [w_s]; exact c.2.2.1.2)
end CalC
