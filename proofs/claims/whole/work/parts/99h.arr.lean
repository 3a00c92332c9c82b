/-! what a search keeps true of the class's heap -/
def SI (two : Prop) (W V B : zTb) (G : zG) (h : zH) (s : bS) (w : Int → Nat) : Prop := (∃ n : Int, SS G h n s) ∧ rmS G h ∧ edg G h ∧ (isC h 42 W ∧ isC h 44 V) ∧ h 33 8 = z_b two ∧ h 33 15 = zct (fun i => eW W V (s.2 i)) s.1.toNat ∧ (∀ i : Int, 0 ≤ i → i < s.1 → h (h 48 i) 6 = cap (w i) ∧ h (h 48 i) 9 = z_b (eW W V (s.2 i))) ∧ (∀ i : Int, s.1 ≤ i → w i = 0) ∧ (¬ two → isC h 40 B ∧ ∀ i : Int, 0 ≤ i → i < s.1 → (s.2 i).2 = B) ∧ (0 ≤ h 33 12 ∧ h 33 12 ≤ G.2.2.2 (h 33 11))
def frR (s : bS) (G : zG) (h : zH) (G' : zG) (h' : zH) : Prop := ext G G' ∧ (∀ b j : Int, b < 114 → ¬ (b = 33 ∧ (j = 11 ∨ j = 12 ∨ j = 14 ∨ j = 15)) → ¬ b = 48 → ¬ b = 49 → ¬ b = 50 → h' b j = h b j) ∧ (∀ i : Int, 0 ≤ i → i < s.1 → h' 48 i = h 48 i ∧ ∀ j : Int, ¬ j = 6 → h' (h 48 i) j = h (h 48 i) j) ∧ (∀ j : Int, 0 ≤ j → j < h 33 12 → h' (h' 33 11) j = h (h 33 11) j) ∧ h 33 12 ≤ h' 33 12
theorem frR.rf {s : bS} {G : zG} {h : zH} : frR s G h G h := ⟨ext.rf, fun _ _ _ _ _ _ _ => rfl, fun _ _ _ => ⟨rfl, fun _ _ => rfl⟩, fun _ _ _ => rfl, Int.le_refl _⟩
theorem frR.tr {s s' : bS} {G G1 G2 : zG} {h h1 h2 : zH} (a : frR s G h G1 h1) (b : frR s' G1 h1 G2 h2) (l : s.1 ≤ s'.1) : frR s G h G2 h2 := by
  refine ⟨a.1.tr b.1, fun x j p q r t u => (b.2.1 x j p q r t u).trans (a.2.1 x j p q r t u), fun i i0 i1 => ?_, fun j j0 j1 => ?_, Int.le_trans a.2.2.2.2 b.2.2.2.2⟩
  · have q1 := a.2.2.1 i i0 i1
    have q2 := b.2.2.1 i i0 (by omega)
    refine ⟨q2.1.trans q1.1, fun j nj => ?_⟩
    rw [← q1.2 j nj, ← q1.1]; exact q2.2 j nj
  · rw [← a.2.2.2.1 j j0 j1]
    exact b.2.2.2.1 j j0 (by have := a.2.2.2.2; omega)
theorem frA.R {s : bS} {G G1 : zG} {h h1 : zH} (a : frA s G h G1 h1) (eg : edg G h) : frR s G h G1 h1 := by
  have e11 : h1 33 11 = h 33 11 := a.2.1 33 11 (by omega) (by omega) (by omega) (by omega)
  have e12 : h1 33 12 = h 33 12 := a.2.1 33 12 (by omega) (by omega) (by omega) (by omega)
  refine ⟨a.1, fun b j p q r t _ => a.2.1 b j p (by omega) r t, fun i i0 i1 => ⟨(a.2.2.1 i i0 i1).1, fun j _ => (a.2.2.1 i i0 i1).2 j⟩, fun j _ _ => ?_, by omega⟩
  rw [e11]
  rcases eg.2.1 with q | q
  · rw [q]; exact a.2.1 50 j (by omega) (by omega) (by omega) (by omega)
  · exact a.2.2.2 _ j eg.1 q
theorem cap2_in (a b : Nat) : z_in (cap a + cap b) := by
  have r1 := cap_rg a
  have r2 := cap_rg b
  generalize cap a = x at *
  generalize cap b = y at *
  exact ⟨by omega, by omega⟩
section Arr
variable {D : zD} {d : Nat} {G G1 G2 : zG} {h h0 h1 h2 h4 : zH} {Q : zO → zG → zH → Prop} {two : Prop} {W V B : zTb}
theorem SI_add {s : bS} {S : zSt} {w : Int → Nat} {k : Int} {out : zO} (si : SI two W V B G h s w) (s15 : s.1 < 1500) (oB : ¬ two → S.2 = B) (q : addQ W V s S k G h out G1 h1) : SI two W V B G1 h1 (adS s S) w ∧ frR s G h G1 h1 ∧ out = .inl (some (0, 1)) ∧ h1 49 k = s.1 + 1 ∧ h1 33 12 = h 33 12 := by
  obtain ⟨⟨n, ss⟩, rm, eg, ⟨kw, kv⟩, e8, e15, est, w0, nt, c12⟩ := si
  rcases q with q | ⟨q1, q2, q3, q4, q5, q6, q7, q8⟩
  · omega
  have s0 := ss.2.1.1
  have lo : ∀ b j : Int, b < 114 → ¬ (b = 33 ∧ (j = 14 ∨ j = 15)) → ¬ b = 48 → ¬ b = 49 → h1 b j = h b j := q5.2.1
  have kp : ∀ {t : Int} {T : zTb}, t = 40 ∨ t = 42 ∨ t = 44 → isC h t T → isC h1 t T := fun ht k => isC_keep k (fun j => lo _ j (by omega) (by omega) (by omega) (by omega)) (fun j => lo _ j (by omega) (by omega) (by omega) (by omega))
  have e11 : h1 33 11 = h 33 11 := lo 33 11 (by omega) (by omega) (by omega) (by omega)
  have e12 : h1 33 12 = h 33 12 := lo 33 12 (by omega) (by omega) (by omega) (by omega)
  have eg1 : edg G1 h1 := by
    unfold edg
    rw [e11, (q5.1 _ _ eg.1).2]
    exact ⟨(q5.1 _ _ eg.1).1, eg.2⟩
  refine ⟨⟨q3, q4, eg1, ⟨kp (by omega) kw, kp (by omega) kv⟩, ?_, ?_, fun i i0 i1 => ?_, fun i i0 => ?_, fun n2 => ⟨kp (by omega) (nt n2).1, fun i i0 i1 => ?_⟩, ?_⟩, q5.R eg, q2, q8, e12⟩
  · rw [lo 33 8 (by omega) (by omega) (by omega) (by omega)]; exact e8
  · show h1 33 15 = zct (fun i => eW W V ((adS s S).2 i)) (s.1 + 1).toNat
    rw [zct_s s0, adS_n, q7, e15]
    congr 1
    exact zct_congr _ fun i i0 i1 => by rw [adS_o (by omega)]
  · have i1 : i < s.1 + 1 := i1
    by_cases z : i = s.1
    · subst z
      rw [adS_n, w0 _ (Int.le_refl _)]
      exact ⟨by rw [q6.1]; rfl, q6.2.2.2⟩
    · have y := q5.2.2.1 i i0 (by omega)
      rw [y.1, y.2, y.2, adS_o z]
      exact est i i0 (by omega)
  · exact w0 i (by have : s.1 + 1 ≤ i := i0; omega)
  · have i1 : i < s.1 + 1 := i1
    by_cases z : i = s.1
    · subst z; rw [adS_n]; exact oB n2
    · rw [adS_o z]; exact (nt n2).2 i i0 (by omega)
  · rw [e11, e12, (q5.1 _ _ eg.1).2]; exact c12
/-- the ways that lead to a State grow -/
theorem SI_ways (hl : lay G h) {s : bS} {w : Int → Nat} {t : Int} {v : Nat} (si : SI two W V B G h s w) (t0 : 0 ≤ t) (t1 : t < s.1) : SI two W V B G (z_wr h (h 48 t) 6 (cap (w t + v))) s (fun x => if x = t then w x + v else w x) ∧ frR s G h G (z_wr h (h 48 t) 6 (cap (w t + v))) := by
  obtain ⟨⟨n, ss⟩, rm, eg, ⟨kw, kv⟩, e8, e15, est, w0, nt, c12⟩ := si
  have po := ss.1
  have sr := ss.2.1
  obtain ⟨⟨ta, tc, -, -⟩, a1, a2⟩ := po.2.1 t t0 (by omega)
  have o : ∀ b j : Int, ¬ (b = h 48 t ∧ j = 6) → z_wr h (h 48 t) 6 (cap (w t + v)) b j = h b j := fun b j q => by unfold z_wr; rw [if_neg q]
  have kp : ∀ {t : Int} {T : zTb}, t = 40 ∨ t = 42 ∨ t = 44 → isC h t T → isC (z_wr h (h 48 _) 6 _) t T := fun ht k => isC_keep k (fun j => o _ j (by omega)) (fun j => o _ j (by omega))
  have e48 : ∀ j : Int, z_wr h (h 48 t) 6 (cap (w t + v)) 48 j = h 48 j := fun j => o 48 j (by omega)
  have e11 := o 33 11 (by omega)
  have e12 := o 33 12 (by omega)
  refine ⟨⟨⟨n, SS_k ss ext.rf e48 (fun j => o 49 j (by omega)) (o 33 14 (by omega)) fun i i0 i1 => ⟨fun j j6 => o _ j (by omega), fun j => o _ j (fun q => z_isne (po.2.1 i i0 i1).1.2.1 ta (by decide) q.1)⟩⟩, rm_k rm po e48 (fun i i0 i1 => o _ 0 (by omega)) e11, by unfold edg; rw [e11]; exact eg, ⟨kp (by omega) kw, kp (by omega) kv⟩, by rw [o 33 8 (by omega)]; exact e8, by rw [o 33 15 (by omega)]; exact e15, fun i i0 i1 => ?_, fun i i0 => ?_, fun n2 => ⟨kp (by omega) (nt n2).1, (nt n2).2⟩, by rw [e11, e12]; exact c12⟩, ext.rf, fun b j p _ _ _ _ => o b j (by omega), fun i i0 i1 => ⟨e48 i, fun j nj => o _ j (fun q => nj q.2)⟩, fun j j0 j1 => ?_, by omega⟩
  · rw [e48, o _ 9 (by omega)]
    refine ⟨?_, (est i i0 i1).2⟩
    by_cases z : i = t
    · subst z; rw [w_s]; show _ = cap (if i = i then _ else _); rw [if_pos rfl]
    · have ne := po.ne i0 (show i < n by omega) t0 (by omega) z
      rw [o _ 6 (fun q => ne.1 q.1)]; show _ = cap (if i = t then _ else _); rw [if_neg z]; exact (est i i0 i1).1
  · show (if i = t then w i + v else w i) = 0
    rw [if_neg (by omega)]; exact w0 i i0
  · rw [e11, o _ j (fun q => z_isne eg.1 ta (by decide) q.1)]
/-- an edge more -/
theorem SI_edge (hl : lay G h) {s : bS} {w : Int → Nat} {c t : Int} (si : SI two W V B G h s w) (q : edQ c t G h G1 h1) : SI two W V B G1 h1 s w ∧ frR s G h G1 h1 := by
  obtain ⟨⟨n, ss⟩, rm, eg, ⟨kw, kv⟩, e8, e15, est, w0, nt, c12⟩ := si
  obtain ⟨x1, x2, x3, x4, x5, x6, x7, x8⟩ := q
  have l114 : (114 : Int) ≤ G.1 := by have := hl.1; have e : lay_t.length = 114 := rfl; omega
  have po := ss.1
  have sr := ss.2.1
  have lo : ∀ b j : Int, b < 114 → ¬ (b = 33 ∧ (j = 11 ∨ j = 12)) → ¬ b = 50 → h1 b j = h b j := fun b j p q r => x8 b j (by omega) q (by have := eg.2.1; omega)
  have kp : ∀ {t : Int} {T : zTb}, t = 40 ∨ t = 42 ∨ t = 44 → isC h t T → isC h1 t T := fun ht k => isC_keep k (fun j => lo _ j (by omega) (by omega) (by omega)) (fun j => lo _ j (by omega) (by omega) (by omega))
  have e48 : ∀ j : Int, h1 48 j = h 48 j := fun j => lo 48 j (by omega) (by omega) (by omega)
  have es : ∀ i : Int, 0 ≤ i → i < n → (∀ j : Int, h1 (h 48 i) j = h (h 48 i) j) ∧ ∀ j : Int, h1 (h (h 48 i) 0) j = h (h (h 48 i) 0) j := fun i i0 i1 => by
    obtain ⟨⟨y1, y2, -, -⟩, y3, y4⟩ := po.2.1 i i0 i1
    exact ⟨fun j => x8 _ j y1.2.1 (by omega) (z_isne y1 eg.1 (by decide)), fun j => x8 _ j y2.2.1 (by omega) (z_isne y2 eg.1 (by decide))⟩
  refine ⟨⟨⟨n, SS_k ss x1 e48 (fun j => lo 49 j (by omega) (by omega) (by omega)) (lo 33 14 (by omega) (by omega) (by omega)) fun i i0 i1 => ⟨fun j _ => (es i i0 i1).1 j, (es i i0 i1).2⟩⟩, x2, x3, ⟨kp (by omega) kw, kp (by omega) kv⟩, by rw [lo 33 8 (by omega) (by omega) (by omega)]; exact e8, by rw [lo 33 15 (by omega) (by omega) (by omega)]; exact e15, fun i i0 i1 => ?_, w0, fun n2 => ⟨kp (by omega) (nt n2).1, (nt n2).2⟩, ⟨by omega, x5⟩⟩, x1, fun b j p q _ _ r => lo b j p (by omega) r, fun i i0 i1 => ⟨e48 i, fun j _ => (es i i0 (by omega)).1 j⟩, x6, by omega⟩
  have y := (es i i0 (by omega)).1
  rw [e48, y, y]; exact est i i0 i1
noncomputable def nxS (s : bS) (S : zSt) : bS := zif (idx s S = -1) (adS s S) s
def upW (q t lv : Int) (w : Int → Nat) : Int → Nat := if t < lv then w else fun x => if x = t then w x + w q else w x
def arrQ (two : Prop) (W V B : zTb) (s : bS) (w : Int → Nat) (q c lv : Int) (S : zSt) (G : zG) (h : zH) : zO → zG → zH → Prop := fun out G' h' => (idx s S = -1 ∧ s.1 = 1500 ∧ out = .inl (some (0, 0)) ∧ G' = G ∧ h' = h) ∨ (¬ (idx s S = -1 ∧ s.1 = 1500) ∧ out = .inl (some (0, 1)) ∧ frR s G h G' h' ∧ SI two W V B G' h' (nxS s S) (upW q (idx (nxS s S) S) lv w) ∧ (idx (nxS s S) S < lv → h' 33 12 = h 33 12) ∧ (lv ≤ idx (nxS s S) S → h' 33 12 = h 33 12 + 1 ∧ h' (h' 33 11) (h 33 12) = idx (nxS s S) S * 1024 + c))
theorem l_arr37 (hd : 3 ≤ d) (hl : lay G h) {s : bS} {w : Int → Nat} {q c lv k t : Int} (si : SI two W V B G h s w) (q0 : 0 ≤ q) (q1 : q < s.1) (kr : 0 ≤ k ∧ k < 4096) (t0 : 0 ≤ t) (t1 : t < s.1) (hk : h 49 k = t + 1) (hc : 0 ≤ c ∧ c < 1024) (l0 : z_in lv) (c2 : h 33 12 < 756000) :
    z_Y D M_X1_arrive d 37 [(0, 2, 33), (1, 2, h 48 q), (2, 0, c), (3, 0, lv), (5, 0, k)] [] G h (fun out G' h' => out = .inl (some (0, 1)) ∧ frR s G h G' h' ∧ SI two W V B G' h' s (upW q t lv w) ∧ (t < lv → h' 33 12 = h 33 12) ∧ (lv ≤ t → h' 33 12 = h 33 12 + 1 ∧ h' (h' 33 11) (h 33 12) = t * 1024 + c)) := by
  obtain ⟨⟨n, ss⟩, rm, eg, -, -, -, est, -, -, c12⟩ := id si
  have po := ss.1
  have sr := ss.2.1
  have p1 := po.1
  have ek : h 49 k - 1 = t := by omega
  have r12 := cap2_in (w t) (w q)
  refine b_X1_arrive_37 (by omega) kr.1 kr.2 ⟨by omega, by omega⟩ l0 (fun _ => by omega) (fun _ => by omega) (fun _ => by rw [ek]; exact (po.2.1 t t0 (by omega)).1.1) (fun _ => (po.2.1 q q0 (by omega)).1.1) (fun _ => by rw [ek, (est t t0 t1).1, (est q q0 q1).1]; exact r12) (fun z => ?_) (fun z => ?_)
  · rw [ek] at z
    refine ⟨rfl, frR.rf, ?_, fun _ => rfl, fun y => by omega⟩
    unfold upW; rw [if_pos z]; exact si
  · rw [ek] at z ⊢
    rw [(est t t0 t1).1, (est q q0 q1).1, cap_add]
    obtain ⟨y1, y2⟩ := SI_ways hl (v := w q) si t0 t1
    obtain ⟨H, eH⟩ : ∃ H, H = z_wr h (h 48 t) 6 (cap (w t + w q)) := ⟨_, rfl⟩
    rw [← eH] at y1 y2 ⊢
    obtain ⟨⟨n', ss'⟩, rm', eg', -, -, -, -, -, -, c12'⟩ := id y1
    have a1 := (po.2.1 t t0 (by omega)).2.1
    have e12 : H 33 12 = h 33 12 := by rw [eH, w_nj (by omega)]
    refine z_Kv.of (d2 := d - 1) (by omega) (c_addEdge (by omega) ss'.1 eg' rm' c12'.1 c12'.2 (by omega) hc ⟨t0, by omega⟩) ?_
    rintro out G' h' hl' ⟨o1, o2⟩
    refine ⟨o1, b_X1_arrive_91 ?_⟩
    obtain ⟨u1, u2⟩ := SI_edge (by rw [eH]; exact hl.wr (po.2.1 t t0 (by omega)).1.1 (by decide)) y1 o2
    refine ⟨rfl, y2.tr u2 (Int.le_refl _), ?_, fun y => absurd y z, fun _ => ⟨?_, ?_⟩⟩
    · unfold upW; rw [if_neg z]; exact u1
    · rw [o2.2.2.2.1, e12]
    · rw [← e12]; exact o2.2.2.2.2.2.2.1
theorem c_arrive (hd : 4 ≤ d) {s : bS} {w : Int → Nat} {S : zSt} {q c lv : Int} (si : SI two W V B G h s w) (oW : okT W) (oV : okT V) (kt : isC h 38 S.1) (ku : isC h 40 S.2) (oS : okP S) (oB : ¬ two → S.2 = B) (q0 : 0 ≤ q) (q1 : q < s.1) (hc : 0 ≤ c ∧ c < 1024) (l0 : z_in lv) (c2 : h 33 12 < 756000) :
    z_CY D M_X1_arrive d [(2, 33), (2, h 48 q), (0, c), (0, lv)] G h (arrQ two W V B s w q c lv S G h) := by
  obtain ⟨⟨n, ss⟩, rm, eg, ⟨kw, kv⟩, -, -, est, -, -, c12⟩ := id si
  have po := ss.1
  have sr := ss.2.1
  have p1 := po.1
  refine z_begin mo_X1_arrive rfl (nle rfl) (b_X1_arrive_0 (z_Ki.of (d2 := d - 1) (by omega) (a_X1_mixOfMade (by omega) kt ku oS) ?_))
  rintro out G' h' hl' ⟨r1, rfl, rfl⟩
  refine ⟨_, r1, b_X1_arrive_4 (z_Ki.of (d2 := d - 1) (by omega) (c_slotOf (by omega) ss kt ku oS) ?_)⟩
  rintro out G' h' hl' ⟨rfl, rfl, k, r2, sl⟩
  have kr := sl.1
  have hr := ss.2.2.2.1.2.1 k kr.1 kr.2
  refine ⟨_, r2, b_X1_arrive_12 kr.1 kr.2 ⟨by omega, by omega⟩ (fun z => ?_) (fun z => ?_)⟩
  · rcases sl.2 with y | ⟨y1, y2⟩
    · exact absurd y.1 z
    · have e : nxS s S = s := zif0 (by omega)
      have t1 : idx s S < s.1 := by omega
      refine (l_arr37 (by omega) hl' si q0 q1 kr y1 t1 y2 hc l0 c2).mono fun out G' h'' _ x => Or.inr ⟨fun u => by omega, ?_⟩
      rw [e]; exact x
  · have s0 : h' 49 k = 0 := Classical.byContradiction fun y => z y
    have ix : idx s S = -1 := by
      rcases sl.2 with y | ⟨y1, y2⟩
      · exact y.2.1
      · omega
    refine z_Ki.of (d2 := d - 1) (by omega) (c_addState (by omega) ss kt ku oS kw kv oW oV rm eg sl s0) ?_
    intro out G1 h1 hl1 qa
    by_cases s15 : s.1 < 1500
    · obtain ⟨u1, u2, u3, u4, u5⟩ := SI_add si s15 oB qa
      have e : nxS s S = adS s S := zif1 ix
      have e2 : idx (nxS s S) S = s.1 := by rw [e]; exact adS_idx sr.1 ix
      refine ⟨_, u3, b_X1_arrive_32 ⟨by omega, by omega⟩ (fun _ => ?_) (fun y => absurd (by decide) y)⟩
      have e48 := (u2.2.2.1 q q0 q1).1
      rw [← e48]
      refine (l_arr37 (by omega) hl1 u1 q0 (by show q < s.1 + 1; omega) kr sr.1 (by show s.1 < s.1 + 1; omega) u4 hc l0 (by omega)).mono fun out G' h'' _ x => Or.inr ⟨fun y => by omega, ?_⟩
      rw [e2, e]
      rw [u5] at x
      exact ⟨x.1, u2.tr x.2.1 (by show s.1 ≤ s.1 + 1; omega), x.2.2⟩
    · rcases qa with ⟨y1, y2, y3, y4⟩ | y
      · exact ⟨_, y2, b_X1_arrive_32 ⟨by omega, by omega⟩ (fun y => absurd rfl y) (fun _ => Or.inl ⟨ix, y1, rfl, y3, y4⟩)⟩
      · omega
end Arr
