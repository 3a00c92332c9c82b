section Walk
variable {D : zD} {d : Nat} {G : zG} {h h0 h1 : zH} {Q : zO → zG → zH → Prop}
/-! walkers -/
def wkI (h : zH) (k : Int) : Prop := (h k 1 = k + 1 ∧ h k 2 = k + 3) ∨ (h k 1 = k + 3 ∧ h k 2 = k + 1)
def wkP (k : Int) (a _ : Int) : Prop := (k ≤ a ∧ a ≤ k + 4) ∨ (13 ≤ a ∧ a ≤ 18)
theorem wk_is (hl : lay G h) {k : Int} (hk : k = 19 ∨ k = 24) : z_is G k 6 ∧ z_is G (k + 1) 3 ∧ z_is G (k + 3) 3 ∧ h k 0 = 12 := by
  rcases hk with rfl | rfl
  · exact ⟨hl.i 19 (by decide) rfl, hl.i 20 (by decide) rfl, hl.i 22 (by decide) rfl, hl.ref 20 rfl⟩
  · exact ⟨hl.i 24 (by decide) rfl, hl.i 25 (by decide) rfl, hl.i 27 (by decide) rfl, hl.ref 24 rfl⟩
/-- what a walk leaves -/
def wkQ (k : Int) (G : zG) (h : zH) (r : Int × zTb) : zO → zG → zH → Prop := fun out G' h' => G' = G ∧ frB (wkP k) h h' ∧ wkI h' k ∧ out = .inl (some (0, r.1)) ∧ (r.1 = -1 → isC h' (h' k 2) r.2)
theorem wkP_t {k : Int} (hk : k = 19 ∨ k = 24) {t : Int} (ht : 29 ≤ t) (j : Int) : ¬ wkP k t j := fun q => by unfold wkP at q; omega
theorem l_go24 (hd : 6 ≤ d) {k w : Int} {W : zWy} (hk : k = 19 ∨ k = 24) (tw : z_is G w 7) (hw : 29 ≤ w) (oW : okW W) : ∀ (n : Nat) (i : Int) (T : zTb) (h : zH), W.1 = i + n → 0 ≤ i → isC h (h k 2) T → okT T → noA T → wkI h k → isW h w W → frB (wkP k) h0 h →
    z_Y D M_X8_go d 24 [(0, 2, k), (1, 2, w), (3, 0, 0), (4, 0, i)] [] G h (wkQ k G h0 (wkR W.2 n i T)) := by
  have w1 := oW.1
  have w2 := oW.2.1
  intro n
  induction n with
  | zero =>
    intro i T h e i0 kC oT nT wi kw f
    have e1 := kw.1
    exact b_X8_go_24 tw ⟨by omega, by omega⟩ ⟨by omega, by omega⟩ (fun _ => ⟨rfl, f, wi, rfl, fun _ => kC⟩) (fun c => by omega)
  | succ n ih =>
    intro i T h e i0 kC oT nT wi kw f hl
    have e1 := kw.1
    obtain ⟨tk, t1, t3, s0⟩ := wk_is hl hk
    have i1 : i < W.1 := by omega
    have cr := oW.2.2 i i0 i1
    have tnow : z_is G (h k 2) 3 := by rcases wi with q | q <;> rw [q.2] <;> assumption
    have tnext : z_is G (h k 1) 3 := by rcases wi with q | q <;> rw [q.1] <;> assumption
    have nne : ¬ h k 2 = h k 1 := by rcases wi with q | q <;> rw [q.1, q.2] <;> omega
    have ap := hl.ap tnow tnext nne
    refine b_X8_go_24 tw ⟨by omega, by omega⟩ ⟨by omega, by omega⟩ (fun c => by omega) (fun c => ?_) hl
    refine z_Ki.of (d2 := d - 1) (by omega) (a_X9_codeAt tw kw oW i0 i1) ?_
    rintro out G' h1 hl1 ⟨r1, rfl, rfl⟩
    refine ⟨_, r1, b_X8_go_39 (by omega) ⟨by omega, by omega⟩ (fun _ => tk) (fun _ => s0) (fun _ => ⟨by omega, by omega⟩) (fun c => absurd rfl c) (fun _ => ?_)⟩
    refine z_Ki.of (d2 := d - 1) (by omega) (c_change (by omega) ap kC oT nT ⟨by omega, by omega⟩ ⟨by omega, by omega⟩ ⟨by omega, by omega⟩) ?_
    intro out G'' h2 hl2 hh
    have em : sMake (W.2 i / 64) (W.2 i / 8 % 8) (W.2 i % 8) T = sStep (W.2 i / 64) (W.2 i / 8 % 8) (W.2 i % 8) T := by unfold sMake; rw [zif1 nT]
    obtain ⟨rfl, fS, hr⟩ := hh
    have fB : frB (wkP k) h1 h2 := fun a j na => fS a j (fun q => na (by rw [q]; unfold wkP; rcases wi with z | z <;> rw [z.1] <;> omega)) (fun q => na (by rw [q]; unfold wkP; rcases wi with z | z <;> rw [z.1] <;> omega)) (fun q => na (Or.inr q))
    have ek : ∀ j : Int, h2 k j = h1 k j := fun j => fS k j (by rcases wi with z | z <;> rw [z.1] <;> omega) (by rcases wi with z | z <;> rw [z.1] <;> omega) (by omega)
    have wi2 : wkI h2 k := by unfold wkI; rw [ek, ek]; exact wi
    cases es : sStep (W.2 i / 64) (W.2 i / 8 % 8) (W.2 i % 8) T with
    | none =>
      rw [es] at hr em
      rw [wkR_n em]
      refine ⟨0, hr, b_X8_go_75 ⟨by omega, by omega⟩ (fun c => absurd rfl c) (fun c => absurd rfl c) (fun _ => ⟨rfl, f.tr fB, wi2, rfl, fun q => ?_⟩)⟩
      have q : i = -1 := q
      omega
    | some U =>
      rw [es] at hr em
      rw [wkR_s em]
      obtain ⟨oU, nU⟩ := sStep_ok oT nT es
      refine ⟨1, hr.1, b_X8_go_75 ⟨by omega, by omega⟩ (fun _ => tk) (fun _ => ?_) (fun c => absurd (by decide : ¬ (1 : Int) = 0) c)⟩
      have fw : frB (wkP k) h0 (z_wr (z_wr h2 k 1 (h2 k 2)) k 2 (h2 k 1)) := ((f.tr fB).w (Or.inl ⟨by omega, by omega⟩)).w (Or.inl ⟨by omega, by omega⟩)
      have c1 : z_wr (z_wr h2 k 1 (h2 k 2)) k 2 (h2 k 1) k 1 = h2 k 2 := by rw [w_nj (by omega), w_s]
      have c2 : z_wr (z_wr h2 k 1 (h2 k 2)) k 2 (h2 k 1) k 2 = h2 k 1 := by rw [w_s]
      have en : h2 k 1 = h1 k 1 := ek 1
      have kU : isC (z_wr (z_wr h2 k 1 (h2 k 2)) k 2 (h2 k 1)) (h2 k 1) U := by
        rw [en]
        have z1 : ¬ h1 k 1 = k := by rcases wi with z | z <;> rw [z.1] <;> omega
        have z2 : ¬ h1 k 1 + 1 = k := by rcases wi with z | z <;> rw [z.1] <;> omega
        exact isC_keep hr.2 (fun j => by rw [w_na z1, w_na z1]) (fun j => by rw [w_na z2, w_na z2])
      refine ih (i + 1) U _ (by omega) (by omega) (by rw [c2]; exact kU) oU nU ?_ ?_ fw
      · unfold wkI
        rw [c1, c2]
        unfold wkI at wi2
        omega
      · have q1 := isW_B kw fB (wkP_t hk hw) (wkP_t hk (show 29 ≤ w + 1 by omega))
        exact ⟨by rw [w_na (by omega), w_na (by omega)]; exact q1.1, fun j a b => by rw [w_na (by omega), w_na (by omega)]; exact q1.2 j a b⟩
theorem c_go (hd : 6 ≤ d) {k w t : Int} {W : zWy} {T : zTb} (hk : k = 19 ∨ k = 24) (tw : z_is G w 7) (hw : 29 ≤ w) (tt : z_is G t 3) (ht : 29 ≤ t) (oW : okW W) (kw : isW h w W) (kC : isC h t T) (oT : okT T) (wi : wkI h k) : z_CY D M_X8_go d [(2, k), (2, w), (2, t)] G h (wkQ k G h (wkR W.2 W.1.toNat 0 T)) := by
  intro hl
  have w1 := oW.1
  have w2 := oW.2.1
  have sh := oT.1
  obtain ⟨tk, t1, t3, s0⟩ := wk_is hl hk
  have tnow : z_is G (h k 2) 3 := by rcases wi with q | q <;> rw [q.2] <;> assumption
  have hnow : k + 1 ≤ h k 2 ∧ h k 2 ≤ k + 3 := by unfold wkI at wi; omega
  have rc := rc_le sh.1 sh.2.1 sh.2.2.1 sh.2.2.2
  have p0 : 0 ≤ T.1 * T.2.1 := Int.mul_nonneg (by omega) (by omega)
  have an := anys_0 kC oT
  have rg := zct_rg (fun j => h (t + 1) j = -1) (h t 1 * h t 2).toNat
  have e1 := kC.1
  have e2 := kC.2.1
  have rg2 : zct (fun j => h (t + 1) j = -1) (h t 1 * h t 2).toNat ≤ 72 := by rw [e1, e2] at rg ⊢; omega
  -- behind the copy
  obtain ⟨H, eH⟩ : ∃ H, H = z_cp (z_wr (z_wr h (h k 2) 1 (h t 1)) (h k 2) 2 (h t 2)) (t + 1) 0 ((h k 2) + 1) 0 ((h t 1) * (h t 2)) := ⟨_, rfl⟩
  have fH : frB (wkP k) h H := by
    rw [eH]
    exact ((frB.rf.w (Or.inl ⟨by omega, by omega⟩)).w (Or.inl ⟨by omega, by omega⟩)).c (fun j _ _ => Or.inl ⟨by omega, by omega⟩)
  have kk : ∀ j : Int, H k j = h k j := fun j => by rw [eH, c_na (by omega), w_na (by omega), w_na (by omega)]
  have kH : isC H (H k 2) T := by
    rw [kk, eH, e1, e2]
    refine ⟨by rw [c_na (by omega), w_nj (by omega), w_s], by rw [c_na (by omega), w_s], fun r c b1 b2 b3 b4 => ?_⟩
    have ix := ix_lt b1 b2 b3 b4
    unfold z_cp
    rw [if_pos ⟨rfl, by omega, by omega⟩, w_na (by omega), w_na (by omega), show (0 : Int) + (r * T.2.1 + c - 0) = r * T.2.1 + c by omega]
    exact kC.2.2 r c b1 b2 b3 b4
  have wH : wkI H k := by unfold wkI; rw [kk, kk]; exact wi
  have kwH := isW_B kw fH (wkP_t hk hw) (wkP_t hk (show 29 ≤ w + 1 by omega))
  refine z_begin mo_X8_go rfl (nle rfl) (b_X8_go_0 (by omega) tt (isC_okS kC oT) (isC_okC kC oT) ⟨by omega, by omega⟩ (fun c => ?_) (fun c => ?_)) hl
  · refine b_X8_go_12 (by omega) tk tnow tt (by rw [e1, e2]; omega) (by rw [e1, e2]; omega) ?_
    rw [← eH]
    exact l_go24 hd hk tw hw oW W.1.toNat 0 T H (by omega) (by omega) kH oT (an.1 (by omega)) wH kwH fH
  · refine b_X8_go_12 (by omega) tk tnow tt (by rw [e1, e2]; omega) (by rw [e1, e2]; omega) ?_
    rw [← eH]
    have nn : ¬ noA T := fun w => c (by rw [an.2 w]; omega)
    by_cases z : W.1 = 0
    · have eW : wkR W.2 W.1.toNat 0 T = (-1, T) := by rw [z]; rfl
      rw [eW]
      exact b_X8_go_24 tw ⟨by omega, by omega⟩ (by rw [kwH.1]; exact ⟨by omega, by omega⟩) (fun _ => ⟨rfl, fH, wH, rfl, fun _ => kH⟩) (fun c => absurd (by rw [kwH.1]; omega) c)
    · have eW : wkR W.2 W.1.toNat 0 T = (0, T) := by
        rw [show W.1.toNat = (W.1.toNat - 1) + 1 by omega]
        exact wkR_n (by unfold sMake; rw [zif0 nn])
      rw [eW]
      refine b_X8_go_24 tw ⟨by omega, by omega⟩ (by rw [kwH.1]; exact ⟨by omega, by omega⟩) (fun c => absurd c (by rw [kwH.1]; omega)) (fun c => ?_)
      refine z_Ki.of (d2 := d - 1) (by omega) (a_X9_codeAt tw kwH oW (by omega) (by omega)) ?_
      rintro out G' h1 hl1 ⟨r1, rfl, rfl⟩
      exact ⟨_, r1, b_X8_go_39 (by omega) ⟨by omega, by omega⟩ (fun c => absurd (by decide : ¬ (1 : Int) = 0) c) (fun c => absurd (by decide : ¬ (1 : Int) = 0) c) (fun c => absurd (by decide : ¬ (1 : Int) = 0) c) (fun _ => ⟨rfl, fH, wH, rfl, fun q => absurd (show (0 : Int) = -1 from q) (by decide)⟩) (fun c => absurd (by decide : ¬ (1 : Int) = 0) c)⟩
/-! the model's walks -/
theorem l_walks2 (hd : 7 ≤ d) {k w : Int} {W : zWy} (k8 : 8 ≤ k) (k9 : k ≤ 9) (w0 : 0 ≤ w) (w8 : w ≤ 8) (oW : okW W) : ∀ (n : Nat) (i : Int) (T : zTb) (h : zH), W.1 = i + n → 0 ≤ i → isM h k T → okT T → isV h w W → frB mW h0 h →
    z_Y D M_X13_walks d 2 [(0, 2, 88), (1, 0, w), (2, 0, k), (3, 0, i)] [] G h (fun out G' h' => G' = G ∧ frB mW h0 h' ∧ out = .inl (some (0, (wkR W.2 n i T).1)) ∧ ((wkR W.2 n i T).1 = -1 → isM h' k (wkR W.2 n i T).2)) := by
  have w1 := oW.1
  have w2 := oW.2.1
  intro n
  induction n with
  | zero =>
    intro i T h e i0 kM oT kv f
    have e1 := kv.1
    exact b_X13_walks_2 w0 (by omega) ⟨by omega, by omega⟩ ⟨by omega, by omega⟩ (fun c => by omega) (fun c => by omega) (fun _ => ⟨rfl, f, rfl, fun _ => kM⟩) (fun c => by omega)
  | succ n ih =>
    intro i T h e i0 kM oT kv f
    have e1 := kv.1
    have i1 : i < W.1 := by omega
    have cr := oW.2.2 i i0 i1
    obtain ⟨v1, v2, v3⟩ := kv.2 i i0 i1
    refine b_X13_walks_2 w0 (by omega) ⟨by omega, by omega⟩ ⟨by omega, by omega⟩ (fun c => by omega) (fun c => by omega) (fun c => by omega) (fun _ => ?_)
    rw [v1, v2, v3]
    refine z_Ki.of (d2 := d - 1) (by omega) (m_makes (by omega) kM (by omega) (by omega) (by omega) oT ⟨by omega, by omega⟩ ⟨by omega, by omega⟩ ⟨by omega, by omega⟩) ?_
    rintro out G' h2 hl2 ⟨rfl, fm, hr⟩
    cases es : sMake (W.2 i / 64) (W.2 i / 8 % 8) (W.2 i % 8) T with
    | none =>
      rw [es] at hr
      rw [wkR_n es]
      refine ⟨0, hr, b_X13_walks_50 ⟨by omega, by omega⟩ (fun c => absurd rfl c) (fun _ => ⟨rfl, f.tr fm.B, rfl, fun q => ?_⟩)⟩
      have q : i = -1 := q
      omega
    | some U =>
      rw [es] at hr
      rw [wkR_s es]
      refine ⟨1, hr.1, b_X13_walks_50 ⟨by omega, by omega⟩ (fun _ => ?_) (fun c => absurd (by decide : ¬ (1 : Int) = 0) c)⟩
      refine z_Kv.of (d2 := d - 1) (by omega) (m_become (by omega) (by omega) (by omega) (by omega) hr.2) ?_
      rintro out2 G'' h3 hl3 ⟨r3, rfl, f3, m3⟩
      have fB := f.tr (fm.B.tr (f3.imp fun a j q => mT_W k8 q))
      refine ⟨r3, b_X13_walks_62 (ih (i + 1) U h3 (by omega) (by omega) m3 (sMake_ok oT es).1 ?_ fB)⟩
      exact isV_B kv (fm.B.tr (f3.imp fun a j q => mT_W k8 q)) (fun a j a1 a2 q => by unfold mW at q; omega)
theorem m_walks (hd : 7 ≤ d) {k w : Int} {W : zWy} {T : zTb} (k8 : 8 ≤ k) (k9 : k ≤ 9) (w0 : 0 ≤ w) (w8 : w ≤ 8) (oW : okW W) (kv : isV h w W) (m : isM h k T) (oT : okT T) : z_CY D M_X13_walks d [(2, 88), (0, w), (0, k)] G h (fun out G' h' => G' = G ∧ frB mW h h' ∧ out = .inl (some (0, (wkR W.2 W.1.toNat 0 T).1)) ∧ ((wkR W.2 W.1.toNat 0 T).1 = -1 → isM h' k (wkR W.2 W.1.toNat 0 T).2)) := by
  have w1 := oW.1
  exact z_begin mo_X13_walks rfl (nle rfl) (b_X13_walks_0 (l_walks2 hd k8 k9 w0 w8 oW W.1.toNat 0 T h (by omega) (by omega) m oT kv frB.rf))
/-- takeWay -/
theorem l_takeWay14 {k u : Int} (k0 : 0 ≤ k) (k1 : k < 9) (u0 : 0 ≤ u) (u1 : u < 9) (ne : ¬ k = u) {W : zWy} : ∀ (n : Nat) (x : Int) (h : zH), x = 12 - n → 0 ≤ x → frB (fun a j => (a = 95 ∧ j = k) ∨ (96 ≤ a ∧ a ≤ 98 ∧ 12 * k ≤ j ∧ j < 12 * k + 12)) h0 h → isV h u W → (∀ i : Int, 0 ≤ i → i < W.1 → i < x → h 96 (12 * k + i) = W.2 i / 64 ∧ h 97 (12 * k + i) = W.2 i / 8 % 8 ∧ h 98 (12 * k + i) = W.2 i % 8) → W.1 ≤ 12 → h 95 k = W.1 →
    z_Y D M_X13_takeWay d 14 [(0, 2, 88), (1, 0, k), (2, 0, u), (3, 0, x)] [] G h (fun out G' h' => out = .inl none ∧ G' = G ∧ frB (fun a j => (a = 95 ∧ j = k) ∨ (96 ≤ a ∧ a ≤ 98 ∧ 12 * k ≤ j ∧ j < 12 * k + 12)) h0 h' ∧ isV h' k W) := by
  intro n
  induction n with
  | zero =>
    intro x h e x0 f kv kd l12 e95
    exact b_X13_takeWay_14 ⟨by omega, by omega⟩ (fun c => by omega) (fun c => by omega) (fun c => by omega) (fun c => by omega) (fun _ => ⟨rfl, rfl, f, e95, fun i a b => kd i a b (by omega)⟩) (fun c => by omega)
  | succ n ih =>
    intro x h e x0 f kv kd l12 e95
    refine b_X13_takeWay_14 ⟨by omega, by omega⟩ (fun c => by omega) (fun c => by omega) (fun c => by omega) (fun c => by omega) (fun c => by omega) (fun c => ih (x + 1) _ (by omega) (by omega) (((f.w (Or.inr ⟨by omega, by omega, by omega, by omega⟩)).w (Or.inr ⟨by omega, by omega, by omega, by omega⟩)).w (Or.inr ⟨by omega, by omega, by omega, by omega⟩)) ?_ (fun i a b i2 => ?_) l12 ?_)
    · refine ⟨by rw [w_na (by omega), w_na (by omega), w_na (by omega)]; exact kv.1, fun i a b => ?_⟩
      obtain ⟨v1, v2, v3⟩ := kv.2 i a b
      exact ⟨by rw [w_nj (by omega), w_nj (by omega), w_nj (by omega)]; exact v1, by rw [w_nj (by omega), w_nj (by omega), w_nj (by omega)]; exact v2, by rw [w_nj (by omega), w_nj (by omega), w_nj (by omega)]; exact v3⟩
    · by_cases z : i = x
      · subst z
        obtain ⟨v1, v2, v3⟩ := kv.2 i a b
        refine ⟨by rw [w_na (by omega), w_na (by omega), w_s]; exact v1, by rw [w_na (by omega), w_s]; exact v2, by rw [w_s]; exact v3⟩
      · obtain ⟨v1, v2, v3⟩ := kd i a b (by omega)
        exact ⟨by rw [w_nj (by omega), w_nj (by omega), w_nj (by omega)]; exact v1, by rw [w_nj (by omega), w_nj (by omega), w_nj (by omega)]; exact v2, by rw [w_nj (by omega), w_nj (by omega), w_nj (by omega)]; exact v3⟩
    · rw [w_na (by omega), w_na (by omega), w_na (by omega)]; exact e95
theorem m_takeWay {k u : Int} (k0 : 0 ≤ k) (k1 : k < 9) (u0 : 0 ≤ u) (u1 : u < 9) (ne : ¬ k = u) {W : zWy} (oW : okW W) (kv : isV h u W) : z_CY D M_X13_takeWay d [(2, 88), (0, k), (0, u)] G h (fun out G' h' => out = .inl none ∧ G' = G ∧ frB (fun a j => (a = 95 ∧ j = k) ∨ (96 ≤ a ∧ a ≤ 98 ∧ 12 * k ≤ j ∧ j < 12 * k + 12)) h h' ∧ isV h' k W) := by
  have w2 := oW.2.1
  refine z_begin mo_X13_takeWay rfl (nle rfl) (b_X13_takeWay_0 u0 u1 k0 k1 (l_takeWay14 k0 k1 u0 u1 ne (W := W) 12 0 _ (by omega) (by omega) (frB.rf.w (Or.inl ⟨rfl, rfl⟩)) ?_ (fun i a b c => by omega) w2 (by rw [w_s]; exact kv.1)))
  refine ⟨by rw [w_nj (by omega)]; exact kv.1, fun i a b => ?_⟩
  obtain ⟨v1, v2, v3⟩ := kv.2 i a b
  exact ⟨by rw [w_na (by omega)]; exact v1, by rw [w_na (by omega)]; exact v2, by rw [w_na (by omega)]; exact v3⟩
end Walk
