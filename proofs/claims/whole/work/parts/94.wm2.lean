section Wm3
variable {D : zD} {d : Nat} {G : zG} {h h0 h1 : zH} {Q : zO → zG → zH → Prop}
theorem sg_val {g : Int → Int} (gk : gOk g) {k : Int} (h : bB g k ≤ 127) : g k = bB g k := by
  have := gk k
  unfold bB at h ⊢
  rw [z_iand255] at h ⊢
  omega
def sgO (g : Int → Int) (N f : Int) (s : wS) (h h' : zH) : Prop := frB scP h h' ∧ (f < N ∧ ¬ (97 ≤ bB g f ∧ bB g f ≤ 122) ∧ (wSign (bB g f) s).1 = 0) ∧ ∃ f', f < f' ∧ mH g N f' h' ∧ wR g N f s = wR g N f' (wSign (bB g f) s).2
def sgT (g : Int → Int) (N f : Int) (s : wS) (out : zO) (h h' : zH) : Prop := out = .inr 99 ∧ frB wgP h h' ∧ ¬ (wR g N f s).1 = 0 ∧ h' 88 20 = (wR g N f s).1 ∧ h' 88 21 = (wR g N f s).2.1
theorem c_wrong {kd f : Int} : z_CY D M_X13_wrong d [(2, 88), (0, kd), (0, f)] G h (fun out G' h' => out = .inl (some (2, 99)) ∧ G' = G ∧ h' = z_wr (z_wr h 88 20 kd) 88 21 f) := z_begin mo_X13_wrong rfl (nle rfl) (b_X13_wrong_0 ⟨rfl, rfl, rfl⟩)
theorem sgT_w {g : Int → Int} {N f kd : Int} {s : wS} (b : wBad g N f s kd) (kn : ¬ kd = 0) : sgT g N f s (.inr 99) h (z_wr (z_wr h 88 20 kd) 88 21 f) :=
  ⟨rfl, (frB.rf.w ⟨rfl, by omega, by omega⟩).w ⟨rfl, by omega, by omega⟩, by rw [b.1]; exact kn, by rw [w_nj (by omega), w_s, b.1], by rw [w_s, b.2]⟩
/-- a wrong that is thrown out of a method without a handler -/
theorem k_wrong {M : zM} {q : Nat} {kd f : Int} (hd : 1 ≤ d) (K : z_Y D M d q [] [(2, 99)] G (z_wr (z_wr h 88 20 kd) 88 21 f) Q) : z_Ka D M_X13_wrong d [(2, 88), (0, kd), (0, f)] G h (fun r G' h' => z_Y D M d q [] [(2, r)] G' h' Q) := by
  refine z_Ka.of (d2 := d - 1) (by omega) c_wrong ?_
  rintro out G' h' _ ⟨r1, rfl, rfl⟩
  exact ⟨99, r1, K⟩
theorem hkd2 {x : Int} : hkd x = 2 ↔ (48 ≤ x ∧ x ≤ 57) := by
  unfold hkd
  by_cases l : 97 ≤ x ∧ x ≤ 122
  · rw [if_pos l]; omega
  · rw [if_neg l]
    by_cases dg : 48 ≤ x ∧ x ≤ 57
    · rw [if_pos dg]; omega
    · rw [if_neg dg]
      split
      · omega
      · split <;> omega
theorem hkd1 {x : Int} : hkd x = 1 ↔ (97 ≤ x ∧ x ≤ 122) := by
  unfold hkd
  by_cases l : 97 ≤ x ∧ x ≤ 122
  · rw [if_pos l]; omega
  · rw [if_neg l]
    split
    · omega
    · split
      · omega
      · split <;> omega
theorem hkd3 {x : Int} : hkd x = 3 ↔ (x = 123 ∨ x = 125 ∨ x = 59) := by
  unfold hkd
  by_cases l : 97 ≤ x ∧ x ≤ 122
  · rw [if_pos l]; omega
  · rw [if_neg l]
    by_cases dg : 48 ≤ x ∧ x ≤ 57
    · rw [if_pos dg]; omega
    · rw [if_neg dg]
      by_cases mk : ¬ zmk x = -1
      · rw [if_pos mk]
        refine ⟨fun w => absurd w (by decide), fun w => absurd ?_ mk⟩
        rcases w with rfl | rfl | rfl <;> decide
      · rw [if_neg mk]
        by_cases c : x = 123 ∨ x = 125 ∨ x = 59
        · rw [if_pos c]; exact ⟨fun _ => c, fun _ => rfl⟩
        · rw [if_neg c]; exact ⟨fun w => absurd w (by decide), fun w => absurd w c⟩
theorem zmk_ne {x : Int} (h : ¬ zmk x = -1) : x = 45 ∨ x = 58 ∨ x = 47 ∨ x = 46 := by
  unfold zmk at h
  by_cases a : x = 45
  · exact Or.inl a
  · rw [if_neg a] at h
    by_cases b : x = 58
    · exact Or.inr (Or.inl b)
    · rw [if_neg b] at h
      by_cases c : x = 47
      · exact Or.inr (Or.inr (Or.inl c))
      · rw [if_neg c] at h
        by_cases e : x = 46
        · exact Or.inr (Or.inr (Or.inr e))
        · rw [if_neg e] at h; exact absurd rfl h
theorem hkd4 {x : Int} : hkd x = 4 ↔ ¬ zmk x = -1 := by
  constructor
  · intro w
    unfold hkd at w
    split at w
    · omega
    · split at w
      · omega
      · split at w
        · assumption
        · split at w <;> omega
  · intro w
    rcases zmk_ne w with rfl | rfl | rfl | rfl <;> decide
theorem hkd_0 (x : Int) : ¬ hkd x = 0 := by
  unfold hkd
  split
  · decide
  · split
    · decide
    · split
      · decide
      · split <;> decide
theorem m_digit (hd : 4 ≤ d) {g : Int → Int} (gk : gOk g) {N f lo hi : Int} {s : wS} (N1 : N ≤ 1000) (m : mH g N f h) (eg : ∀ j, w8 (h 100 j) = g j) (l0 : 0 ≤ lo) (l1 : lo ≤ 9) (h0 : 0 ≤ hi) (h1 : hi ≤ 9) (du : ¬ s.1.1 = 0)
    (s1 : ∀ x : Int, 48 ≤ x ∧ x ≤ 57 → lo ≤ x - 48 ∧ x - 48 ≤ hi → (wSign x s).1 = 0) (s2 : ∀ x : Int, 48 ≤ x ∧ x ≤ 57 → ¬ (lo ≤ x - 48 ∧ x - 48 ≤ hi) → (wSign x s).1 = 2) (s3 : ∀ x : Int, ¬ (48 ≤ x ∧ x ≤ 57) → (wSign x s).1 = 1) :
    z_CY D M_X13_digit d [(2, 88), (0, lo), (0, hi)] G h (fun out G' h' => G' = G ∧ ((out = .inl (some (0, bB g f - 48)) ∧ (lo ≤ bB g f - 48 ∧ bB g f - 48 ≤ hi) ∧ sgO g N f s h h') ∨ sgT g N f s out h h')) := by
  obtain ⟨⟨e15, e16, f0, f1⟩, mm⟩ := id m
  have rg := bB_rg g f
  have ev : w8 (h 100 (h 88 16)) = g f := by rw [e16]; exact eg f
  have inv : z_in (w8 (h 100 (h 88 16)) - 48) := by have := gk f; rw [ev]; exact ⟨by omega, by omega⟩
  have dg : h 88 18 = 2 → f < N ∧ (48 ≤ bB g f ∧ bB g f ≤ 57) ∧ g f = bB g f := fun w => by
    obtain ⟨fl, ek⟩ := m.lt (by omega)
    have q := hkd2.1 (ek.symm.trans w)
    exact ⟨fl, q, sg_val gk (by omega)⟩
  refine z_begin mo_X13_digit rfl (nle rfl) (b_X13_digit_0 (by omega) m.h18 (fun _ => by omega) (fun w => by have := dg w; omega) (fun _ => inv) (fun _ => ⟨by omega, by omega⟩) (fun _ => ⟨by omega, by omega⟩) (fun _ => ⟨by have := inv.1; omega, by have := inv.2; omega⟩) (fun _ => ⟨by omega, by omega⟩) (fun _ => ⟨by omega, by omega⟩) (fun c c2 => ?_) (fun c c2 => ?_) (fun c => ?_))
  · obtain ⟨fl, q, eb⟩ := dg c
    rw [ev, eb] at c2 ⊢
    have nl : ¬ (97 ≤ bB g f ∧ bB g f ≤ 122) := by omega
    obtain ⟨e17, er⟩ := ok_sign m fl nl (s1 _ q c2)
    refine z_Kv.of (d2 := d - 1) (by omega) (m_scan (by omega) gk N1 (show 0 ≤ f + 1 by omega) (by omega) e15 e17 eg) ?_
    rintro out G' h' _ ⟨r1, rfl, fr, f', ff, m', es⟩
    exact ⟨r1, b_X13_digit_57 ⟨rfl, Or.inl ⟨rfl, c2, fr, ⟨fl, nl, s1 _ q c2⟩, f', by omega, m', er.trans (es _)⟩⟩⟩
  · obtain ⟨fl, q, eb⟩ := dg c
    rw [ev, eb] at c2
    rw [e16]
    refine k_wrong (by omega) (b_X13_digit_52 (by decide) ⟨rfl, Or.inr (sgT_w (bad_tok fl (m.nb fl) ?_ (by decide)) (by decide))⟩)
    unfold wTok
    rw [if_neg (by omega)]
    exact s2 _ q c2
  · rw [e16]
    refine k_wrong (by omega) (b_X13_digit_17 (by decide) ⟨rfl, Or.inr (sgT_w (bad_one f1 m.nb du fun fl nl => s3 _ fun q => c ?_) (by decide))⟩)
    rcases mm with w | w
    · omega
    · rw [w.2.2.2]; exact hkd2.2 q
theorem m_mark (hd : 4 ≤ d) {g : Int → Int} (gk : gOk g) {N f : Int} {s : wS} (N1 : N ≤ 1000) (m : mH g N f h) (eg : ∀ j, w8 (h 100 j) = g j) (du : s.1.1 = 3) :
    z_CY D M_X13_mark d [(2, 88)] G h (fun out G' h' => G' = G ∧ ((out = .inl (some (0, zmk (bB g f))) ∧ sgO g N f s h h') ∨ sgT g N f s out h h')) := by
  obtain ⟨⟨e15, e16, f0, f1⟩, mm⟩ := id m
  have rg := bB_rg g f
  have ev : w8 (h 100 (h 88 16)) = g f := by rw [e16]; exact eg f
  have es : ∀ x : Int, wSign x s = (if zmk x = -1 then (1, s) else (0, ((4, s.1.2.1, s.1.2.2.1, zmk x, s.1.2.2.2.2), s.2))) := fun x => by
    unfold wSign
    rw [if_neg (by omega), if_neg (by omega), if_neg (by omega), if_pos du]
  refine z_begin mo_X13_mark rfl (nle rfl) (b_X13_mark_0 m.h18 (fun _ => by omega) (fun w => by have := m.lt (by omega : ¬ h 88 18 = 0); omega) (fun c => ?_) (fun c => ?_))
  · obtain ⟨fl, ek⟩ := m.lt (by omega : ¬ h 88 18 = 0)
    have q := hkd4.1 (ek.symm.trans c)
    have qq := zmk_ne q
    have nl : ¬ (97 ≤ bB g f ∧ bB g f ≤ 122) := by omega
    have eb := sg_val gk (k := f) (by omega)
    have k0 : (wSign (bB g f) s).1 = 0 := by rw [es, if_neg q]
    obtain ⟨e17, er⟩ := ok_sign m fl nl k0
    rw [ev, eb]
    refine z_Kv.of (d2 := d - 1) (by omega) (m_scan (by omega) gk N1 (show 0 ≤ f + 1 by omega) (by omega) e15 e17 eg) ?_
    rintro out G' h' _ ⟨r1, rfl, fr, f', ff, m', es'⟩
    have good : sgO g N f s h h' := ⟨fr, ⟨fl, nl, k0⟩, f', by omega, m', er.trans (es' _)⟩
    refine ⟨r1, b_X13_mark_32 ⟨by omega, by omega⟩ (fun a b c => ⟨rfl, Or.inl ⟨?_, good⟩⟩) (fun a b c => ⟨rfl, Or.inl ⟨?_, good⟩⟩) (fun a b => ⟨rfl, Or.inl ⟨?_, good⟩⟩) (fun a => ⟨rfl, Or.inl ⟨?_, good⟩⟩)⟩
    · rw [show bB g f = 46 by omega]; rfl
    · rw [Classical.not_not.mp c]; rfl
    · rw [Classical.not_not.mp b]; rfl
    · rw [Classical.not_not.mp a]; rfl
  · rw [e16]
    refine k_wrong (by omega) (b_X13_mark_17 (by decide) ⟨rfl, Or.inr (sgT_w (bad_one f1 m.nb (by omega) fun fl nl => ?_) (by decide))⟩)
    rw [es]
    by_cases q : zmk (bB g f) = -1
    · rw [if_pos q]
    · refine absurd ?_ c
      rcases mm with w | w
      · omega
      · rw [w.2.2.2]; exact hkd4.2 q
/-- is the token this sign? -/
theorem isg {g : Int → Int} (gk : gOk g) {N f c : Int} (m : mH g N f h) (eg : ∀ j, w8 (h 100 j) = g j) (hc : c = 123 ∨ c = 125 ∨ c = 59) : (h 88 18 = 3 ∧ w8 (h 100 (h 88 16)) = c) ↔ (f < N ∧ bB g f = c) := by
  obtain ⟨⟨e15, e16, f0, f1⟩, mm⟩ := id m
  have ev : w8 (h 100 (h 88 16)) = g f := by rw [e16]; exact eg f
  rw [ev, sg_eq gk (by omega) (by omega)]
  constructor
  · rintro ⟨a, b⟩
    exact ⟨(m.lt (by omega)).1, b⟩
  · rintro ⟨a, b⟩
    refine ⟨?_, b⟩
    rcases mm with w | w
    · omega
    · rw [w.2.2.2]; exact hkd3.2 (by omega)
theorem m_need (hd : 4 ≤ d) {g : Int → Int} (gk : gOk g) {N f : Int} {s : wS} (N1 : N ≤ 1000) (m : mH g N f h) (eg : ∀ j, w8 (h 100 j) = g j) (du : s.1.1 = 4) :
    z_CY D M_X13_needSign d [(2, 88), (0, 59)] G h (fun out G' h' => G' = G ∧ ((out = .inl none ∧ bB g f = 59 ∧ sgO g N f s h h') ∨ sgT g N f s out h h')) := by
  obtain ⟨⟨e15, e16, f0, f1⟩, mm⟩ := id m
  have es : ∀ x : Int, wSign x s = (if x = 59 then (0, ((0, s.1.2), (s.2.1.1 + 1, fun i => if i = s.2.1.1 then zco s.1.2.1 s.1.2.2.1 s.1.2.2.2.1 else s.2.1.2 i), s.2.2)) else (1, s)) := fun x => by
    unfold wSign
    rw [if_neg (by omega), if_neg (by omega), if_neg (by omega), if_neg (by omega), if_pos du]
  have ig := isg gk (c := 59) m eg (by omega)
  refine z_begin mo_X13_needSign rfl (nle rfl) (b_X13_needSign_0 (by omega) ⟨by omega, by omega⟩ m.h18 (fun w => by have := m.lt (by omega : ¬ h 88 18 = 0); omega) (fun c => ?_) (fun c => ?_))
  · obtain ⟨fl, q⟩ := ig.1 c
    have nl : ¬ (97 ≤ bB g f ∧ bB g f ≤ 122) := by omega
    have k0 : (wSign (bB g f) s).1 = 0 := by rw [es, if_pos q]
    obtain ⟨e17, er⟩ := ok_sign m fl nl k0
    refine z_Kv.of (d2 := d - 1) (by omega) (m_scan (by omega) gk N1 (show 0 ≤ f + 1 by omega) (by omega) e15 e17 eg) ?_
    rintro out G' h' _ ⟨r1, rfl, fr, f', ff, m', es'⟩
    exact ⟨r1, b_X13_needSign_22 ⟨rfl, Or.inl ⟨rfl, q, fr, ⟨fl, nl, k0⟩, f', by omega, m', er.trans (es' _)⟩⟩⟩
  · rw [e16]
    refine k_wrong (by omega) (b_X13_needSign_17 (by decide) ⟨rfl, Or.inr (sgT_w (bad_one f1 m.nb (by omega) fun fl nl => ?_) (by decide))⟩)
    rw [es, if_neg (fun q => c (ig.2 ⟨fl, q⟩))]
/-! the word in hand -/
def sst (i : Int) : Int := z_list [1, 6, 11, 17, 22, 27, 32, 39, 44, 51, 57, 61, 66, 71, 76, 83] i
theorem sst_k : ∀ i : Fin 15, zixo 15 32 (sst i.val) = sst (i.val + 1) - 1 ∧ sst (i.val + 1) - 1 - sst i.val = ((z_sl.getD i.val 0 : Nat) : Int) ∧ (1 ≤ sst i.val ∧ sst i.val < 83) ∧ (3 ≤ z_sl.getD i.val 0 ∧ z_sl.getD i.val 0 ≤ 6) ∧ sst i.val + ((z_sl.getD i.val 0 : Nat) : Int) < 83 ∧ ∀ j : Fin 6, j.val < z_sl.getD i.val 0 → z_sby 15 (sst i.val + (j.val : Int)) = z_sby i.val (j.val : Int) := by decide +kernel
theorem sst_i {n : Int} (n1 : 1 ≤ n) (n2 : n ≤ 15) : zixo 15 32 (sst (n - 1)) = sst n - 1 ∧ sst n - 1 - sst (n - 1) = ((z_sl.getD (n - 1).toNat 0 : Nat) : Int) ∧ (1 ≤ sst (n - 1) ∧ sst (n - 1) < 83) ∧ (3 ≤ ((z_sl.getD (n - 1).toNat 0 : Nat) : Int) ∧ ((z_sl.getD (n - 1).toNat 0 : Nat) : Int) ≤ 6) ∧ sst (n - 1) + ((z_sl.getD (n - 1).toNat 0 : Nat) : Int) < 83 ∧ ∀ j : Int, 0 ≤ j → j < ((z_sl.getD (n - 1).toNat 0 : Nat) : Int) → z_sby 15 (sst (n - 1) + j) = z_sby (n - 1).toNat j := by
  have q := sst_k ⟨(n - 1).toNat, by omega⟩
  have e1 : (((n - 1).toNat : Nat) : Int) = n - 1 := by omega
  simp only [e1, show n - 1 + 1 = n by omega] at q
  obtain ⟨a, b, c, e, f, k⟩ := q
  refine ⟨a, b, c, ⟨by omega, by omega⟩, f, fun j j0 j1 => ?_⟩
  have z := k ⟨j.toNat, by omega⟩ (by show j.toNat < _; omega)
  have e2 : ((j.toNat : Nat) : Int) = j := by omega
  simp only [e2] at z
  exact z
theorem l_sah59 (hd : 5 ≤ d) {g : Int → Int} {n f e : Int} (n1 : 1 ≤ n) (n2 : n ≤ 15) (e1000 : e ≤ 1000) (f0 : 0 ≤ f) (e16 : h 88 16 = f) (eg : ∀ j, w8 (h 100 j) = g j) (gk : gOk g) (el : ((z_sl.getD (n - 1).toNat 0 : Nat) : Int) = e - f) (kk : ∀ b : Int, b = z_b (spl g f e n) → z_Y D M_X13_stepAtHand d 110 [(0, 2, 88), (1, 0, n), (3, 0, sst n - 1), (4, 0, b)] [] G h Q) : ∀ (m : Nat) (j : Int), e - f = j + m → 0 ≤ j → z_Y D M_X13_stepAtHand d 59 [(0, 2, 88), (1, 0, n), (2, 0, sst (n - 1)), (3, 0, sst n - 1), (4, 0, z_b (∀ q : Int, 0 ≤ q → q < j → z_sby (n - 1).toNat q = g (f + q))), (5, 0, j)] [] G h Q := by
  obtain ⟨t1, t2, t3, t4, t5, t6⟩ := sst_i n1 n2
  have w15 : ((z_sl.getD 15 0 : Nat) : Int) = 83 := by decide
  intro m
  induction m with
  | zero =>
    intro j ej j0
    refine b_X13_stepAtHand_59 hd ⟨by omega, by omega⟩ ⟨by omega, by omega⟩ (fun c => by omega) (fun c => by omega) (fun c => by omega) (fun c => by omega) (fun c => by omega) (fun c => by omega) (fun c => by omega) (fun _ => kk _ ?_) (fun c => by omega) (fun c => by omega) (fun c => by omega)
    by_cases w : spl g f e n
    · rw [z_b1 w, z_b1 (fun q q0 q1 => w.2 q q0 (by omega))]
    · rw [z_b0 w, z_b0 (fun z => w ⟨el, fun q q0 q1 => z q q0 (by omega)⟩)]
  | succ m ih =>
    intro j ej j0
    have sb := sby_rg (i := 15) (by decide) (j := sst (n - 1) + j) (by omega) (by omega)
    have ev : w8 (h 100 (h 88 16 + j)) = g (f + j) := by rw [e16]; exact eg (f + j)
    have t := t6 j j0 (by omega)
    refine b_X13_stepAtHand_59 hd ⟨by omega, by omega⟩ ⟨by omega, by omega⟩ (fun _ => zb_in _) (fun _ _ => by omega) (fun _ _ => by omega) (fun _ _ => by omega) (fun _ _ => by omega) (fun _ _ => ⟨by omega, by omega⟩) (fun _ _ => w8_in _) (fun c => by omega) (fun _ c => kk _ ?_) (fun _ c c2 => b_X13_stepAtHand_102 ?_) (fun _ c c2 => b_X13_stepAtHand_102 ?_)
    · rw [c, z_b0]
      intro w
      exact zb_eq c fun q q0 q1 => w.2 q q0 (by omega)
    · rw [ev, t] at c2
      have q := ih (j + 1) (by omega) (by omega)
      rw [z_b0 (fun w => c2 (w j j0 (by omega)))] at q
      exact q
    · rw [ev, t] at c2
      have q := ih (j + 1) (by omega) (by omega)
      rw [z_b1] at q
      · exact q
      · intro q' a b
        by_cases z : q' = j
        · rw [z]; exact Classical.not_not.mp c2
        · exact zb_ne c q' a (by omega)
theorem l_sah14 (hd : 5 ≤ d) {g : Int → Int} {f e : Int} (e1000 : e ≤ 1000) (f0 : 0 ≤ f) (fe : f ≤ e) (e16 : h 88 16 = f) (e17 : h 88 17 = e) (eg : ∀ j, w8 (h 100 j) = g j) (gk : gOk g) : ∀ (m : Nat) (n : Int), n + m = 16 → 1 ≤ n → z_Y D M_X13_stepAtHand d 14 [(0, 2, 88), (1, 0, n), (2, 0, sst (n - 1))] [] G h (fun out G' h' => out = .inl (some (0, if wNo g f e m n = -1 then 0 else wNo g f e m n)) ∧ G' = G ∧ h' = h) := by
  have w15 : ((z_sl.getD 15 0 : Nat) : Int) = 83 := by decide
  intro m
  induction m with
  | zero =>
    intro n en n1
    obtain rfl : n = 16 := by omega
    have e83 : sst (16 - 1) = 83 := by decide
    refine b_X13_stepAtHand_14 hd (by rw [e83]; exact ⟨by omega, by omega⟩) (by rw [w15]; exact ⟨by omega, by omega⟩) (fun c => by rw [w15, e83] at c; omega) (fun c => by rw [w15, e83] at c; omega) (fun c => by rw [w15, e83] at c; omega) (fun c => by rw [w15, e83] at c; omega) (fun _ => ⟨?_, rfl, rfl⟩) (fun c => by rw [w15, e83] at c; omega) (fun c => by rw [w15, e83] at c; omega)
    rw [if_pos (show wNo g f e 0 16 = -1 from rfl)]
  | succ m ih =>
    intro n en n1
    obtain ⟨t1, t2, t3, t4, t5, t6⟩ := sst_i n1 (show n ≤ 15 by omega)
    have no : ¬ spl g f e n → z_Y D M_X13_stepAtHand d 14 [(0, 2, 88), (1, 0, n + 1), (2, 0, sst n - 1 + 1)] [] G h (fun out G' h' => out = .inl (some (0, if wNo g f e (m + 1) n = -1 then 0 else wNo g f e (m + 1) n)) ∧ G' = G ∧ h' = h) := fun w => by
      have q := ih (n + 1) (by omega) (by omega)
      have e2 : wNo g f e (m + 1) n = wNo g f e m (n + 1) := by
        conv => lhs; unfold wNo
        rw [zif0 w]
      rw [e2, show sst n - 1 + 1 = sst (n + 1 - 1) by rw [show n + 1 - 1 = n by omega]; omega]
      exact q
    have last : ∀ b : Int, b = z_b (spl g f e n) → z_Y D M_X13_stepAtHand d 110 [(0, 2, 88), (1, 0, n), (3, 0, sst n - 1), (4, 0, b)] [] G h (fun out G' h' => out = .inl (some (0, if wNo g f e (m + 1) n = -1 then 0 else wNo g f e (m + 1) n)) ∧ G' = G ∧ h' = h) := fun b eb => by
      subst eb
      refine b_X13_stepAtHand_110 (zb_in _) (fun c => no (zb_eq c)) (fun c => ⟨?_, rfl, rfl⟩)
      have e2 : wNo g f e (m + 1) n = n := by
        conv => lhs; unfold wNo
        rw [zif1 (zb_ne c)]
      rw [e2, if_neg (by omega)]
    refine b_X13_stepAtHand_14 hd ⟨by omega, by omega⟩ (by rw [w15]; exact ⟨by omega, by omega⟩) (fun _ => by omega) (fun _ => by omega) (fun _ => by rw [t1]; exact ⟨by omega, by omega⟩) (fun _ => by rw [e16, e17]; exact ⟨by omega, by omega⟩) (fun c => by rw [w15] at c; omega) (fun _ c => ?_) (fun _ c => ?_)
    · rw [t1] at c ⊢
      rw [e16, e17] at c
      refine b_X13_stepAtHand_54 (b_X13_stepAtHand_59 hd ⟨by omega, by omega⟩ ⟨by omega, by omega⟩ (fun _ => ⟨by omega, by omega⟩) (fun _ c => absurd rfl c) (fun _ c => absurd rfl c) (fun _ c => absurd rfl c) (fun _ c => absurd rfl c) (fun _ c => absurd rfl c) (fun _ c => absurd rfl c) (fun c => by omega) (fun _ _ => last 0 ?_) (fun _ c => absurd rfl c) (fun _ c => absurd rfl c))
      rw [z_b0 (fun w => c (by rw [t2]; exact w.1))]
    · rw [t1] at c ⊢
      rw [e16, e17] at c
      have q := l_sah59 (D := D) (G := G) (Q := fun out G' h' => out = .inl (some (0, if wNo g f e (m + 1) n = -1 then 0 else wNo g f e (m + 1) n)) ∧ G' = G ∧ h' = h) hd n1 (by omega) e1000 f0 e16 eg gk (show ((z_sl.getD (n - 1).toNat 0 : Nat) : Int) = e - f by omega) last (e - f).toNat 0 (by omega) (by omega)
      rw [z_b1 (fun q a b => by omega)] at q
      exact b_X13_stepAtHand_54 q
noncomputable def sah (g : Int → Int) (N f : Int) : Int := if f < N ∧ 97 ≤ bB g f ∧ bB g f ≤ 122 then (if wNo g f (tEnd g N f) 15 1 = -1 then 0 else wNo g f (tEnd g N f) 15 1) else 0
theorem m_sah (hd : 5 ≤ d) {g : Int → Int} (gk : gOk g) {N f : Int} (N1 : N ≤ 1000) (m : mH g N f h) (eg : ∀ j, w8 (h 100 j) = g j) : z_Ei D M_X13_stepAtHand d [(2, 88)] G h (sah g N f) h := by
  obtain ⟨⟨e15, e16, f0, f1⟩, mm⟩ := id m
  refine z_begin mo_X13_stepAtHand rfl (nle rfl) (b_X13_stepAtHand_0 m.h18 (fun c => ?_) (fun c => ⟨?_, rfl, rfl⟩))
  · obtain ⟨fl, ek⟩ := m.lt (by omega : ¬ h 88 18 = 0)
    have l := hkd1.1 (ek.symm.trans c)
    have te := tEnd_rg (g := g) fl
    have e17 : h 88 17 = tEnd g N f := by
      rcases mm with w | w
      · omega
      · exact w.2.2.1
    have q := l_sah14 (D := D) (d := d) (G := G) (h := h) hd (g := g) (by omega) f0 (by omega) e16 e17 eg gk 15 1 (by omega) (by omega)
    unfold sah
    rw [if_pos ⟨fl, l⟩]
    exact q
  · unfold sah
    rw [if_neg (fun w => c ?_)]
    rcases mm with z | z
    · omega
    · rw [z.2.2.2]; exact hkd1.2 w.2
end Wm3
