/-! edges -/
theorem SS_k {G G' : zG} {h h' : zH} {n : Int} {s : bS} (ss : SS G h n s) (ex : ext G G') (e48 : ∀ j : Int, h' 48 j = h 48 j) (e49 : ∀ j : Int, h' 49 j = h 49 j) (e14 : h' 33 14 = h 33 14) (est : ∀ i : Int, 0 ≤ i → i < n → (∀ j : Int, j < 6 → h' (h 48 i) j = h (h 48 i) j) ∧ ∀ j : Int, h' (h (h 48 i) 0) j = h (h (h 48 i) 0) j) : SS G' h' n s := by
  obtain ⟨po, sr, q14, hs, ds, he⟩ := ss
  refine ⟨⟨po.1, fun i i0 i1 => ?_, fun i j i0 ij j1 => ?_, fun i i0 i1 => by rw [e48]; exact po.2.2.2 i i0 i1⟩, sr, e14.trans q14, ⟨?_, fun j j0 j1 => by rw [e49]; exact hs.2.1 j j0 j1, fun i i0 i1 => ?_⟩, ds, fun i i0 i1 => ?_⟩
  · obtain ⟨⟨x1, x2, x5, x6⟩, x3, x4⟩ := po.2.1 i i0 i1
    unfold stS
    rw [e48, (est i i0 i1).1 0 (by omega), (ex _ _ x2).2]
    exact ⟨⟨(ex _ _ x1).1, (ex _ _ x2).1, x5, x6⟩, x3, x4⟩
  · rw [e48, e48, (est i i0 (by omega)).1 0 (by omega), (est j (by omega) j1).1 0 (by omega)]
    exact po.2.2.1 i j i0 ij j1
  · rw [← hs.1]; exact zct_congr _ fun i _ _ => by rw [e49]
  · obtain ⟨t, t0, t1, t2, t3⟩ := hs.2.2 i i0 i1
    exact ⟨t, t0, t1, by rw [e49]; exact t2, fun u u0 u1 => by rw [e49]; exact t3 u u0 u1⟩
  · obtain ⟨q1, q2, q3⟩ := he i i0 i1
    have i2 : i < n := by omega
    obtain ⟨w1, w2⟩ := est i i0 i2
    unfold isS
    rw [e48, w1 0 (by omega), w1 1 (by omega), w1 2 (by omega), w1 3 (by omega), w1 4 (by omega), w1 5 (by omega), (ex _ _ (po.2.1 i i0 i2).1.2.1).2]
    exact ⟨⟨q1.1, fun j j0 j1 => by rw [w2]; exact q1.2.1 j j0 j1, fun j j0 j1 => by rw [w2]; exact q1.2.2.1 j j0 j1, q1.2.2.2⟩, q2, q3⟩
theorem pt_k {G G' : zG} {h h' : zH} {n : Int} (po : pool G h n) (ex : ext G G') (e48 : ∀ j : Int, h' 48 j = h 48 j) (est : ∀ i : Int, 0 ≤ i → i < n → h' (h 48 i) 0 = h (h 48 i) 0) : sI (ptS G' h') 1500 = sI (ptS G h) 1500 := by
  refine sI_c 1500 fun i i0 i1 => ?_
  unfold ptS
  rw [e48]
  by_cases z : i < n
  · rw [est i i0 z, (ex _ _ (po.2.1 i i0 z).1.2.1).2]
  · rw [po.2.2.2 i (by omega) (by omega)]; rfl
theorem rm_k {G : zG} {h h' : zH} {n : Int} (rm : rmS G h) (po : pool G h n) (e48 : ∀ j : Int, h' 48 j = h 48 j) (est : ∀ i : Int, 0 ≤ i → i < n → h' (h 48 i) 0 = h (h 48 i) 0) (e11 : h' 33 11 = h 33 11) : rmS G h' := by
  unfold rmS
  rw [pt_k po ext.rf e48 est, e11]; exact rm
def edQ (c t : Int) (G : zG) (h : zH) (G' : zG) (h' : zH) : Prop := ext G G' ∧ rmS G' h' ∧ edg G' h' ∧ h' 33 12 = h 33 12 + 1 ∧ h' 33 12 ≤ G'.2.2.2 (h' 33 11) ∧ (∀ j : Int, 0 ≤ j → j < h 33 12 → h' (h' 33 11) j = h (h 33 11) j) ∧ h' (h' 33 11) (h 33 12) = t * 1024 + c ∧ ∀ b j : Int, b < (G.1 : Int) → ¬ (b = 33 ∧ (j = 11 ∨ j = 12)) → ¬ b = h 33 11 → h' b j = h b j
section Edge
variable {D : zD} {d : Nat} {G G2 : zG} {h h0 h1 h2 h4 : zH} {Q : zO → zG → zH → Prop}
theorem c_copyOf (hd : 1 ≤ d) {a m : Int} (ta : z_is G a 50) (a0 : 0 < G.2.2.2 a) (a1 : G.2.2.2 a ≤ 2000000) (em : m = 2 * G.2.2.2 a) : z_CY D M_J7_copyOf_59c91 d [(2, a), (0, m)] G h (fun out G' h' => out = .inl (some (2, (G.1 : Int))) ∧ G' = z_al G 50 m.toNat ∧ h' = z_cp (z_nw h G.1 fun _ => 0) a 0 G.1 0 (G.2.2.2 a)) := by
  have ga : ¬ a = (G.1 : Int) := by have := ta.2.1; omega
  have l1 : (z_al G 50 m.toNat).2.2.2 a = G.2.2.2 a := al_ln ta
  have l2 : (z_al G 50 m.toNat).2.2.2 (G.1 : Int) = m := by rw [al_lnn]; omega
  refine z_begin mo_J7_copyOf_59c91 rfl (nle rfl) (b_J7_copyOf_59c91_0 ta ⟨by omega, by omega⟩ ⟨by omega, by omega⟩ (fun _ => by omega) (fun _ => by omega) (fun c => by omega) (fun _ => ?_))
  have e : (if m < (z_al G 50 m.toNat).2.2.2 a then m else (z_al G 50 m.toNat).2.2.2 a) = G.2.2.2 a := by rw [l1, if_neg (by omega)]
  refine b_J7_copyOf_59c91_17 hd (al_is ta) (by rw [l1]; exact ⟨by omega, by omega⟩) ⟨by omega, by omega⟩ al_new (by rw [e]; omega) (by rw [e, l1]; omega) (by rw [e, l2]; omega) ⟨rfl, rfl, by rw [e]⟩
theorem c_addEdge (hd : 2 ≤ d) {n c t : Int} (po : pool G h n) (eg : edg G h) (rm : rmS G h) (c0 : 0 ≤ h 33 12) (c1 : h 33 12 ≤ G.2.2.2 (h 33 11)) (c2 : h 33 12 < 756000) (hc : 0 ≤ c ∧ c < 1024) (ht : 0 ≤ t ∧ t < 1500) : z_CY D M_X1_addEdge d [(2, 33), (0, c), (0, t)] G h (fun out G' h' => out = .inl none ∧ edQ c t G h G' h') := by
  intro hl
  obtain ⟨g1, g2, g3, g4⟩ := id eg
  have l114 : (114 : Int) ≤ G.1 := by have := hl.1; have e : lay_t.length = 114 := rfl; omega
  have ev : z_ior (z_ishl t 10) c = t * 1024 + c := by
    rw [z_ishl_n ht.1 (by omega) (by omega) (by show t * 1024 < _; omega)]
    exact z_ior_add 10 ht.1 hc.1 (by show c < 1024; omega) (by show t * 1024 + c < _; omega)
  have n33 : ¬ h 33 11 = 33 := by omega
  refine z_begin mo_X1_addEdge rfl (nle rfl) (b_X1_addEdge_0 g1 ⟨by omega, by omega⟩ ⟨by omega, by omega⟩ (fun w => ?_) (fun w => ?_)) hl
  · refine b_X1_addEdge_30 g1 c0 w ⟨rfl, ?_⟩
    rw [ev]
    have f : ∀ b j : Int, ¬ (b = 33 ∧ j = 12) → ¬ b = h 33 11 → z_wr (z_wr h (h 33 11) (h 33 12) (t * 1024 + c)) 33 12 (h 33 12 + 1) b j = h b j := fun b j x y => by
      have : z_wr (z_wr h (h 33 11) (h 33 12) (t * 1024 + c)) 33 12 (h 33 12 + 1) b j = z_wr h (h 33 11) (h 33 12) (t * 1024 + c) b j := by
        show (if b = 33 ∧ j = 12 then _ else _) = _
        rw [if_neg x]
      rw [this, w_na y]
    have e11 := f 33 11 (by omega) (by omega)
    unfold edQ
    rw [e11]
    refine ⟨ext.rf, ?_, ?_, w_s, ?_, fun j _ j1 => ?_, ?_, fun b j _ x y => f b j (by omega) y⟩
    · refine rm_k rm po (fun j => f 48 j (by omega) (by omega)) (fun i i0 i1 => ?_) e11
      obtain ⟨⟨x1, x2, x5, x6⟩, x3, x4⟩ := po.2.1 i i0 i1
      exact f _ 0 (by omega) (z_isne x1 g1 (by decide))
    · unfold edg; rw [e11]; exact eg
    · rw [w_s]; omega
    · rw [w_na n33, w_nj (by omega)]
    · rw [w_na n33, w_s]
  · refine z_Ka.of (d2 := d - 1) (by omega) (c_copyOf (by omega) g1 (by omega) (by omega) rfl) ?_
    rintro out G' h' hl' ⟨r1, rfl, eh⟩
    have ga : ¬ h 33 11 = (G.1 : Int) := by have := g1.2.1; omega
    have ge : h 33 12 = G.2.2.2 (h 33 11) := by omega
    have l2 : (z_al G 50 (2 * G.2.2.2 (h 33 11)).toNat).2.2.2 (G.1 : Int) = 2 * G.2.2.2 (h 33 11) := by rw [al_lnn]; omega
    have o : ∀ b j : Int, b < (G.1 : Int) → h' b j = h b j := fun b j q => by rw [eh, c_na (by omega), nw_n (by omega)]
    have e11 : z_wr h' 33 11 (G.1 : Int) 33 11 = (G.1 : Int) := w_s
    have e12 : z_wr h' 33 11 (G.1 : Int) 33 12 = h 33 12 := by rw [w_nj (by omega)]; exact o 33 12 (by omega)
    refine ⟨_, r1, b_X1_addEdge_27 (b_X1_addEdge_30 (by rw [e11]; exact al_new) (by rw [e12]; exact c0) (by rw [e11, e12, l2]; omega) ⟨rfl, ?_⟩)⟩
    rw [ev, e11, e12]
    obtain ⟨H, eH⟩ : ∃ H, H = z_wr (z_wr (z_wr h' 33 11 (G.1 : Int)) G.1 (h 33 12) (t * 1024 + c)) 33 12 (h 33 12 + 1) := ⟨_, rfl⟩
    rw [← eH]
    have f : ∀ b j : Int, b < (G.1 : Int) → ¬ (b = 33 ∧ (j = 11 ∨ j = 12)) → H b j = h b j := fun b j q x => by
      rw [eH]
      have : z_wr (z_wr (z_wr h' 33 11 (G.1 : Int)) G.1 (h 33 12) (t * 1024 + c)) 33 12 (h 33 12 + 1) b j = z_wr (z_wr h' 33 11 (G.1 : Int)) G.1 (h 33 12) (t * 1024 + c) b j := by
        show (if b = 33 ∧ j = 12 then _ else _) = _
        rw [if_neg (by omega)]
      rw [this, w_na (by omega)]
      have : z_wr h' 33 11 (G.1 : Int) b j = h' b j := by
        show (if b = 33 ∧ j = 11 then _ else _) = _
        rw [if_neg (by omega)]
      rw [this]; exact o b j q
    have E11 : H 33 11 = (G.1 : Int) := by rw [eH, w_nj (by omega), w_na (by omega), w_s]
    have E12 : H 33 12 = h 33 12 + 1 := by rw [eH, w_s]
    have Er : ∀ j : Int, ¬ j = h 33 12 → H G.1 j = h' G.1 j := fun j q => by rw [eH, w_na (by omega), w_nj q, w_na (by omega)]
    have e48 : ∀ j : Int, H 48 j = h 48 j := fun j => f 48 j (by omega) (by omega)
    have est : ∀ i : Int, 0 ≤ i → i < n → H (h 48 i) 0 = h (h 48 i) 0 := fun i i0 i1 => by
      obtain ⟨⟨x1, x2, x5, x6⟩, x3, x4⟩ := po.2.1 i i0 i1
      exact f _ 0 x1.2.1 (by omega)
    unfold edQ
    rw [E11, E12]
    refine ⟨ext.al, ?_, ?_, rfl, by rw [l2]; omega, fun j j0 j1 => ?_, ?_, fun b j q x _ => f b j q x⟩
    · unfold rmS
      rw [pt_k po ext.al e48 est, E11, l2]
      obtain ⟨m1, m2⟩ := rm
      have y1 : ((z_al G 50 (2 * G.2.2.2 (h 33 11)).toNat).1 : Int) = G.1 + 1 := by show ((G.1 + 1 : Nat) : Int) = _; omega
      have y2 : ((z_al G 50 (2 * G.2.2.2 (h 33 11)).toNat).2.1 : Int) = G.2.1 + 2 * G.2.2.2 (h 33 11) := by show ((G.2.1 + (2 * G.2.2.2 (h 33 11)).toNat : Nat) : Int) = _; omega
      rw [y1, y2]
      constructor <;> omega
    · unfold edg
      rw [E11, l2]
      exact ⟨al_new, Or.inr l114, by omega, by omega⟩
    · rw [Er j (by omega), eh]
      rw [cp_in (by omega) (by omega), nw_n ga, show (0 : Int) + (j - 0) = j by omega]
    · rw [eH, w_na (by omega), w_s]
end Edge
