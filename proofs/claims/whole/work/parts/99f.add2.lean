/-! addState -/
def tlk (T U : zTb) : Prop := T.1 = U.1 ∧ T.2.1 = U.2.1 ∧ ∀ r c : Int, 0 ≤ r → r < T.1 → 0 ≤ c → c < T.2.1 → T.2.2 r c = U.2.2 r c ∨ T.2.2 r c = -1 ∨ U.2.2 r c = -1
/-- a pair that is wished -/
def eW (W V : zTb) (P : zSt) : Prop := tlk P.1 W ∧ tlk P.2 V
def addQ (W V : zTb) (s : bS) (S : zSt) (k : Int) (G : zG) (h : zH) : zO → zG → zH → Prop := fun out G' h' => (s.1 = 1500 ∧ out = .inl (some (0, 0)) ∧ G' = G ∧ h' = h) ∨ (s.1 < 1500 ∧ out = .inl (some (0, 1)) ∧ (∃ n : Int, SS G' h' n (adS s S)) ∧ rmS G' h' ∧ frA s G h G' h' ∧ (h' (h' 48 s.1) 6 = 0 ∧ h' (h' 48 s.1) 7 = 0 ∧ h' (h' 48 s.1) 8 = 0 ∧ h' (h' 48 s.1) 9 = z_b (eW W V S)) ∧ h' 33 15 = h 33 15 + z_b (eW W V S) ∧ h' 49 k = s.1 + 1)
section Add2
variable {D : zD} {d : Nat} {G G2 : zG} {h h0 h1 h2 h4 : zH} {Q : zO → zG → zH → Prop}
theorem c_like (hd : 1 ≤ d) {t u : Int} {T U : zTb} (tt : z_is G t 3) (tu : z_is G u 3) (kt : isC h t T) (ku : isC h u U) (oT : okT T) (oU : okT U) : z_Ei D M_X4_isLike d [(2, t), (2, u)] G h (z_b (tlk T U)) h := by
  have q := a_X4_isLike (D := D) hd t u tt tu (isC_okS kt oT) (isC_okS ku oU) (isC_okC kt oT) (isC_okC ku oU)
  have e : (h t 1 = h u 1 ∧ h t 2 = h u 2 ∧ ∀ i : Int, 0 ≤ i → i < h t 1 * h t 2 → h (t + 1) i = h (u + 1) i ∨ h (t + 1) i = -1 ∨ h (u + 1) i = -1) = tlk T U := by
    rw [kt.1, kt.2.1, ku.1, ku.2.1]
    refine propext ⟨fun w => ⟨w.1, w.2.1, fun r c a1 a2 a3 a4 => ?_⟩, fun w => ⟨w.1, w.2.1, fun i i0 i1 => ?_⟩⟩
    · have ix := ix_lt a1 a2 a3 a4
      have z := w.2.2 _ ix.1 ix.2
      rw [kt.2.2 r c a1 a2 a3 a4] at z
      rw [show r * T.2.1 + c = r * U.2.1 + c by rw [w.2.1], ku.2.2 r c a1 (by omega) a3 (by omega)] at z
      exact z
    · obtain ⟨r, c, a1, a2, a3, a4, rfl⟩ := ix_of (by have := oT.1; omega) i0 i1
      have w1 := w.1
      have w2 := w.2.1
      rw [kt.2.2 r c a1 a2 a3 a4, show r * T.2.1 + c = r * U.2.1 + c by rw [w.2.1], ku.2.2 r c a1 (by omega) a3 (by omega)]
      exact w.2.2 r c a1 a2 a3 a4
  rw [e] at q
  exact q
theorem l_add40 (hd : 2 ≤ d) (hl : lay G h) {n k : Int} {s : bS} {S : zSt} {W V : zTb} (ss : SS G h n s) (sn : s.1 < n) (kt : isC h 38 S.1) (ku : isC h 40 S.2) (oS : okP S) (kw : isC h 42 W) (kv : isC h 44 V) (oW : okT W) (oV : okT V) (rm : rmS G h) (eg : edg G h) (sl : slQ h s S k) (s0 : h 49 k = 0) :
    z_Y D M_X1_addState d 40 [(0, 2, 33), (1, 0, k), (2, 0, mx S)] [] G h (addQ W V s S k G h) := by
  have po := ss.1
  have sr := ss.2.1
  have e14 := ss.2.2.1
  have p1 := po.1
  have l114 : (114 : Int) ≤ G.1 := by have := hl.1; have e : lay_t.length = 114 := rfl; omega
  obtain ⟨st, a1, a2⟩ := po.2.1 s.1 sr.1 sn
  have ta := st.1
  have kr := sl.1
  refine b_X1_addState_40 (by omega) (by omega) (by rw [e14]; exact ta) ?_
  rw [e14]
  refine z_Kv.of (d2 := d - 1) (by omega) (c_hold (by omega) st (hl.i 38 (by decide) rfl) (hl.i 40 (by decide) rfl) kt ku oS ⟨by omega, by omega⟩) ?_
  intro out G2 h2 hl2 hq
  obtain ⟨q1, q2, q3, q4, q5⟩ := id hq
  have lo : ∀ b j : Int, b < 114 → h2 b j = h b j := fun b j q => q4 b j (by omega) (by have := st.2.1.2.1; omega) (by omega)
  have ex : ext G G2 := by
    rcases q5 with q | ⟨c, q, -⟩
    · rw [q.1]; exact ext.rf
    · rw [q]; exact ext.al
  have i2 : ∀ (a : Int) {t : Nat} {n : Int}, 0 ≤ a → lay_t[a.toNat]? = some (t, n) → z_is G2 a t := fun a _ _ x y => hl2.i a x y
  refine ⟨q1, b_X1_addState_63 kr.1 kr.2 ?_⟩
  rw [lo 33 14 (by omega), e14]
  obtain ⟨h3, e3⟩ : ∃ h3, h3 = z_wr (z_wr h2 33 14 (s.1 + 1)) 49 k (s.1 + 1) := ⟨_, rfl⟩
  rw [← e3]
  have o3 : ∀ b j : Int, ¬ b = 33 → ¬ b = 49 → h3 b j = h2 b j := fun b j x y => by rw [e3, w_na y, w_na x]
  have kp : ∀ {t : Int} {T : zTb}, t = 38 ∨ t = 40 ∨ t = 42 ∨ t = 44 → isC h t T → isC h3 t T := fun ht k => isC_keep k (fun j => by rw [o3 _ j (by omega) (by omega)]; exact lo _ j (by omega)) (fun j => by rw [o3 _ j (by omega) (by omega)]; exact lo _ j (by omega))
  have k33 : ∀ j : Int, ¬ j = 14 → h3 33 j = h2 33 j := fun j x => by rw [e3, w_na (by omega), w_nj x]
  have k14 : h3 33 14 = s.1 + 1 := by rw [e3, w_na (by omega), w_s]
  have k49 : h3 49 k = s.1 + 1 := by rw [e3, w_s]
  have k49' : ∀ j : Int, ¬ j = k → h3 49 j = h2 49 j := fun j x => by rw [e3, w_nj x, w_na (by omega)]
  have ks3 : ∀ j : Int, h3 (h 48 s.1) j = h2 (h 48 s.1) j := fun j => o3 _ j (by omega) (by omega)
  subst q1
  -- without the end's mark
  have no : ¬ eW W V S → addQ W V s S k G h (.inl (some (0, 1))) G2 h3 := by
    intro w
    obtain ⟨x1, x2, x3⟩ := l_addSS (h4 := h3) hl ss sn oS rm eg sl s0 hq (fun b j b1 b2 b3 => by
      by_cases z : b = 49
      · subst z; exact k49' j (fun e => b2 ⟨rfl, e⟩)
      · exact o3 b j b1 z) (fun j j1 j2 => k33 j j1) k14 k49
    have e48 : h3 48 s.1 = h 48 s.1 := by rw [o3 48 _ (by omega) (by omega)]; exact lo 48 _ (by omega)
    refine Or.inr ⟨by omega, rfl, ⟨n, x1⟩, x2, x3, ?_, ?_, k49⟩
    · rw [e48, z_b0 w, ks3, ks3, ks3, ks3]; exact q3
    · rw [z_b0 w, k33 15 (by omega), lo 33 15 (by omega)]; omega
  have yes : eW W V S → addQ W V s S k G h (.inl (some (0, 1))) G2 (z_wr (z_wr h3 (h 48 s.1) 9 1) 33 15 (h3 33 15 + 1)) := by
    intro w
    have a33 : ¬ (33 : Int) = h 48 s.1 := by omega
    have a49 : ¬ (49 : Int) = h 48 s.1 := by omega
    have a48 : ¬ (48 : Int) = h 48 s.1 := by omega
    obtain ⟨x1, x2, x3⟩ := l_addSS (h4 := z_wr (z_wr h3 (h 48 s.1) 9 1) 33 15 (h3 33 15 + 1)) hl ss sn oS rm eg sl s0 hq (fun b j b1 b2 b3 => by
      rw [w_na b1]
      have : z_wr h3 (h 48 s.1) 9 1 b j = h3 b j := by unfold z_wr; rw [if_neg b3]
      rw [this]
      by_cases z : b = 49
      · subst z; exact k49' j (fun e => b2 ⟨rfl, e⟩)
      · exact o3 b j b1 z) (fun j j1 j2 => by rw [w_nj j2, w_na a33]; exact k33 j j1) (by rw [w_nj (by omega), w_na a33]; exact k14) (by rw [w_na (by omega), w_na a49]; exact k49)
    have e48 : z_wr (z_wr h3 (h 48 s.1) 9 1) 33 15 (h3 33 15 + 1) 48 s.1 = h 48 s.1 := by rw [w_na (by omega), w_na a48, o3 48 _ (by omega) (by omega)]; exact lo 48 _ (by omega)
    refine Or.inr ⟨by omega, rfl, ⟨n, x1⟩, x2, x3, ?_, ?_, ?_⟩
    · rw [e48, z_b1 w]
      refine ⟨?_, ?_, ?_, ?_⟩
      · rw [w_na (by omega), w_nj (by omega), ks3]; exact q3.1
      · rw [w_na (by omega), w_nj (by omega), ks3]; exact q3.2.1
      · rw [w_na (by omega), w_nj (by omega), ks3]; exact q3.2.2.1
      · rw [w_na (by omega), w_s]
    · rw [w_s, z_b1 w, k33 15 (by omega), lo 33 15 (by omega)]
    · rw [w_na (by omega), w_na a49]; exact k49
  refine z_Ki.of (d2 := d - 1) (by omega) (c_like (by omega) (i2 38 (by decide) rfl) (i2 42 (by decide) rfl) (kp (by omega) kt) (kp (by omega) kw) oS.1 oW) ?_
  rintro out G' h' hl' ⟨r1, rfl, rfl⟩
  have r01 := z_b01 (tlk S.1 W)
  refine ⟨_, r1, b_X1_addState_94 ⟨by omega, by omega⟩ (fun c => no fun w => ?_) (fun c => ?_)⟩
  · rw [z_b1 w.1] at c; cases c
  · have t1 : tlk S.1 W := Classical.byContradiction fun w => c (z_b0 w)
    refine z_Ki.of (d2 := d - 1) (by omega) (c_like (by omega) (i2 40 (by decide) rfl) (i2 44 (by decide) rfl) (kp (by omega) ku) (kp (by omega) kv) oS.2 oV) ?_
    rintro out G' h'' hl' ⟨r2, rfl, rfl⟩
    have r02 := z_b01 (tlk S.2 V)
    refine ⟨_, r2, b_X1_addState_108 ⟨by omega, by omega⟩ (fun _ => (ex _ _ ta).1) (fun c => no fun w => ?_) (fun c => yes ⟨t1, Classical.byContradiction fun w => c (z_b0 w)⟩)⟩
    rw [z_b1 w.2] at c; cases c
theorem c_addState (hd : 2 ≤ d) {n k : Int} {s : bS} {S : zSt} {W V : zTb} (ss : SS G h n s) (kt : isC h 38 S.1) (ku : isC h 40 S.2) (oS : okP S) (kw : isC h 42 W) (kv : isC h 44 V) (oW : okT W) (oV : okT V) (rm : rmS G h) (eg : edg G h) (sl : slQ h s S k) (s0 : h 49 k = 0) :
    z_CY D M_X1_addState d [(2, 33), (0, k), (0, mx S)] G h (addQ W V s S k G h) := by
  intro hl
  have po := ss.1
  have sr := ss.2.1
  have e14 := ss.2.2.1
  have p1 := po.1
  have l114 : (114 : Int) ≤ G.1 := by have := hl.1; have e : lay_t.length = 114 := rfl; omega
  refine z_begin mo_X1_addState rfl (nle rfl) (b_X1_addState_0 ⟨by omega, by omega⟩ (fun _ => by omega) (fun _ => by omega) (fun c c2 => ?_) (fun c c2 => ?_) (fun c => Or.inl ⟨by omega, rfl, rfl, rfl⟩)) hl
  · refine l_add40 hd hl ss ?_ kt ku oS kw kv oW oV rm eg sl s0
    refine Classical.byContradiction fun w => c2 ?_
    rw [e14]; exact po.2.2.2 s.1 (by omega) (by omega)
  · rw [e14] at c2 c ⊢
    have sn : n = s.1 := by
      refine Classical.byContradiction fun w => ?_
      have := (po.2.1 s.1 sr.1 (by omega)).2.1
      omega
    subst sn
    refine b_X1_addState_35 (by omega) (z_Kv.of (d2 := d - 1) (by omega) (c_sinit (by omega) al_new) ?_)
    rintro out G3 h3 hl3 ⟨rfl, rfl, e3⟩
    refine ⟨rfl, b_X1_addState_39 sr.1 c (al_is al_new) ?_⟩
    intro hl4
    rw [e3] at hl4 ⊢
    obtain ⟨H, eH⟩ : ∃ H, H = z_wr (z_wr (z_nw (z_nw h G.1 fun j => z_dfv (z_ty 1 j.toNat)) ((z_al G 1 10).1 : Nat) fun _ => 0) G.1 0 ((z_al G 1 10).1 : Nat)) 48 s.1 (G.1 : Int) := ⟨_, rfl⟩
    obtain ⟨x1, x2, x3⟩ := l_addNew hl ss c rm eg eH
    rw [← eH] at hl4 ⊢
    have kp : ∀ {t : Int} {T : zTb}, t = 38 ∨ t = 40 ∨ t = 42 ∨ t = 44 → isC h t T → isC H t T := fun ht k => isC_keep k (fun j => x3.2.1 _ j (by omega) (by omega) (by omega) (by omega)) (fun j => x3.2.1 _ j (by omega) (by omega) (by omega) (by omega))
    have e49 : ∀ j : Int, H 49 j = h 49 j := fun j => by rw [eH, w_na (by omega), w_na (by omega), nw_n (by show ¬ (49 : Int) = ((G.1 + 1 : Nat) : Int); omega), nw_n (by omega)]
    have e15 : H 33 15 = h 33 15 := by rw [eH, w_na (by omega), w_na (by omega), nw_n (by show ¬ (33 : Int) = ((G.1 + 1 : Nat) : Int); omega), nw_n (by omega)]
    have e11 : H 33 11 = h 33 11 := x3.2.1 33 11 (by omega) (by omega) (by omega) (by omega)
    have eg4 : edg (z_al (z_al G 1 10) 51 16) H := by
      unfold edg
      rw [e11, (x3.1 _ _ eg.1).2]
      exact ⟨(x3.1 _ _ eg.1).1, eg.2⟩
    have sl4 : slQ H s S k := by
      unfold slQ
      rw [e49]
      refine ⟨sl.1, ?_⟩
      rcases sl.2 with ⟨y1, y2, t, t0, t1, t2, t3⟩ | y
      · exact Or.inl ⟨y1, y2, t, t0, t1, t2, fun u u0 u1 => by rw [e49]; exact t3 u u0 u1⟩
      · exact Or.inr y
    refine ((l_add40 hd hl4 x1 (by omega) (kp (by omega) kt) (kp (by omega) ku) oS (kp (by omega) kw) (kp (by omega) kv) oW oV x2 eg4 sl4 (by rw [e49]; exact s0)).mono fun out G' h' _ q => ?_) hl4
    rcases q with q | ⟨y1, y2, y3, y4, y5, y6, y7, y8⟩
    · omega
    · exact Or.inr ⟨y1, y2, y3, y4, x3.tr y5, y6, by rw [y7, e15], y8⟩
end Add2
