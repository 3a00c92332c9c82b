section Wread
variable {D : zD} {d : Nat} {G : zG} {h h0 h1 : zH} {Q : zO → zG → zH → Prop}
/-! the class's reader of ways -/
def cW (s : wS) (h : zH) : Prop := (h 7 3 = s.1.1 ∧ h 7 8 = s.2.2.1) ∧ ((1 ≤ s.1.1 ∧ s.1.1 ≤ 4) → h 7 4 = s.1.2.1 ∧ h 7 5 = s.1.2.2.1 ∧ h 7 6 = s.1.2.2.2.1) ∧ (s.1.1 = 6 → h 7 7 = s.1.2.2.2.2) ∧ isW h 8 s.2.1 ∧ ∀ i : Int, 0 ≤ i → i < s.2.2.1 → h 10 i = s.2.2.2.1 i ∧ h 11 i = s.2.2.2.2 i
def cwP (a j : Int) : Prop := (a = 7 ∧ 3 ≤ j) ∨ (8 ≤ a ∧ a ≤ 11)
def cwQ (G : zG) (h : zH) (r : Int × wS) : zO → zG → zH → Prop := fun out G' h' => out = .inl (some (0, r.1)) ∧ G' = G ∧ frB cwP h h' ∧ (r.1 = 0 → cW r.2 h')
theorem cwQ_n {k : Int} {s : wS} (hk : ¬ k = 0) : cwQ G h (k, s) (.inl (some (0, k))) G h := ⟨rfl, rfl, frB.rf, fun w => absurd w hk⟩
theorem isW_w {W : zWy} {i v : Int} (k : isW h 8 W) : isW (z_wr h 7 i v) 8 W := ⟨by rw [w_na (by omega)]; exact k.1, fun j a b => by rw [w_na (by omega)]; exact k.2 j a b⟩
theorem c_takeWord (hd : 2 ≤ d) {w : Int} {s : wS} (i : wInv s) (k : cW s h) (hw : w = -1 ∨ (1 ≤ w ∧ w ≤ 15)) : z_CY D M_X10_takeWord d [(2, 7), (0, w)] G h (cwQ G h (wWord w s)) := by
  obtain ⟨i1, i2, i3, i4, i5⟩ := i
  obtain ⟨⟨k1, k2⟩, k3, k4, k5, k6⟩ := k
  have e81 := k5.1
  have l0 := i2.1
  have l1 := i2.2.1
  unfold wWord
  refine z_begin mo_X10_takeWord rfl (nle rfl) (b_X10_takeWord_0 hd (by rw [k1]; exact ⟨by omega, by omega⟩) (fun _ => ⟨by omega, by omega⟩) (fun _ _ _ => ⟨by omega, by omega⟩) (fun _ _ _ _ => zfm_in w) (fun c => ?_) (fun c c2 c3 c4 c5 => ?_) (fun c c2 c3 c4 c5 => ?_) (fun c c2 c3 c4 => ?_) (fun c c2 c3 => ?_) (fun c c2 => ?_))
  · rw [if_pos (Or.inl (by omega))]; exact cwQ_n (by decide)
  · rw [if_neg (by omega), if_neg c3, if_neg (by omega)]
    refine ⟨rfl, rfl, (((frB.rf.w (Or.inl ⟨rfl, by omega⟩)).w (Or.inl ⟨rfl, by omega⟩)).w (Or.inl ⟨rfl, by omega⟩)).w (Or.inl ⟨rfl, by omega⟩), fun _ => ⟨⟨?_, ?_⟩, fun _ => ⟨?_, ?_, ?_⟩, fun q => ?_, isW_w (isW_w (isW_w (isW_w k5))), fun j a b => ?_⟩⟩
    · rw [w_s]; dsimp only; rw [if_neg c5]
    · rw [w_nj (by omega), w_nj (by omega), w_nj (by omega), w_nj (by omega)]; exact k2
    · rw [w_nj (by omega), w_nj (by omega), w_nj (by omega), w_s]
    · rw [w_nj (by omega), w_nj (by omega), w_s]
    · rw [w_nj (by omega), w_s]
    · dsimp only at q; rw [if_neg c5] at q; omega
    · rw [w_na (by omega), w_na (by omega), w_na (by omega), w_na (by omega), w_na (by omega), w_na (by omega), w_na (by omega), w_na (by omega)]; exact k6 j a b
  · rw [if_neg (by omega), if_neg c3, if_neg (by omega)]
    refine ⟨rfl, rfl, (((frB.rf.w (Or.inl ⟨rfl, by omega⟩)).w (Or.inl ⟨rfl, by omega⟩)).w (Or.inl ⟨rfl, by omega⟩)).w (Or.inl ⟨rfl, by omega⟩), fun _ => ⟨⟨?_, ?_⟩, fun _ => ⟨?_, ?_, ?_⟩, fun q => ?_, isW_w (isW_w (isW_w (isW_w k5))), fun j a b => ?_⟩⟩
    · rw [w_s]; dsimp only; rw [if_pos (Classical.not_not.mp c5)]
    · rw [w_nj (by omega), w_nj (by omega), w_nj (by omega), w_nj (by omega)]; exact k2
    · rw [w_nj (by omega), w_nj (by omega), w_nj (by omega), w_s]
    · rw [w_nj (by omega), w_nj (by omega), w_s]
    · rw [w_nj (by omega), w_s]
    · dsimp only at q; rw [if_pos (Classical.not_not.mp c5)] at q; omega
    · rw [w_na (by omega), w_na (by omega), w_na (by omega), w_na (by omega), w_na (by omega), w_na (by omega), w_na (by omega), w_na (by omega)]; exact k6 j a b
  · rw [if_neg (by omega), if_neg c3, if_pos (by omega)]; exact cwQ_n (by decide)
  · rw [if_neg (by omega), if_pos (Classical.not_not.mp c3)]
    refine ⟨rfl, rfl, frB.rf.w (Or.inl ⟨rfl, by omega⟩), fun _ => ⟨⟨?_, ?_⟩, fun q => ?_, fun q => ?_, isW_w k5, fun j a b => ?_⟩⟩
    · rw [w_s]
    · rw [w_nj (by omega)]; exact k2
    · dsimp only at q; omega
    · dsimp only at q; omega
    · rw [w_na (by omega), w_na (by omega)]; exact k6 j a b
  · rw [if_pos (Or.inr (Classical.not_not.mp c2))]; exact cwQ_n (by decide)
/-- a reader whose due alone changes, with some of its numbers -/
theorem cW_set {s s' : wS} (k : cW s h) (f : frB (fun a j => a = 7 ∧ 3 ≤ j ∧ j ≤ 7) h h1) (e1 : h1 7 3 = s'.1.1) (e2 : (1 ≤ s'.1.1 ∧ s'.1.1 ≤ 4) → h1 7 4 = s'.1.2.1 ∧ h1 7 5 = s'.1.2.2.1 ∧ h1 7 6 = s'.1.2.2.2.1) (e3 : s'.1.1 = 6 → h1 7 7 = s'.1.2.2.2.2) (e4 : s'.2 = s.2) : cW s' h1 := by
  obtain ⟨⟨k1, k2⟩, k3, k4, k5, k6⟩ := k
  refine ⟨⟨e1, by rw [e4, f 7 8 (by omega)]; exact k2⟩, e2, e3, by rw [e4]; exact isW_B k5 f (fun j q => by omega) (fun j q => by omega), fun i a b => ?_⟩
  rw [e4] at b ⊢
  rw [f 10 i (by omega), f 11 i (by omega)]
  exact k6 i a b
theorem frB7 {P : Int → Int → Prop} (f : frB (fun a j => a = 7 ∧ 3 ≤ j ∧ j ≤ 7) h h1) : frB cwP h h1 := f.imp fun a j q => Or.inl ⟨q.1, q.2.1⟩
theorem c_takeColumn (hd : 3 ≤ d) {x : Int} {s : wS} (i : wInv s) (k : cW s h) (x0 : 0 ≤ x) (x1 : x ≤ 255) (du : s.1.1 = 1 ∨ s.1.1 = 2) : z_CY D M_X10_takeColumn d [(2, 7), (0, x)] G h (cwQ G h (wSign x s)) := by
  obtain ⟨i1, i2, i3, i4, i5⟩ := id i
  obtain ⟨⟨k1, k2⟩, k3, k4, k5, k6⟩ := id k
  have z := i3 (by omega)
  have y := k3 (by omega)
  have es : wSign x s = (if 48 ≤ x ∧ x ≤ 57 then (if x - 48 ≤ 5 then (if s.1.1 = 1 then (0, ((if zfm s.1.2.1 = 2 then 3 else if zfm s.1.2.1 = 3 then 2 else 4, s.1.2.1, x - 48, s.1.2.2.2.1, s.1.2.2.2.2), s.2)) else (0, ((4, s.1.2.1, s.1.2.2.1, x - 48, s.1.2.2.2.2), s.2))) else (2, s)) else (1, s)) := by
    unfold wSign
    rw [if_neg (by omega)]
    rcases du with q | q
    · rw [if_pos q, if_pos q]
    · have n1 : ¬ s.1.1 = 1 := by omega
      rw [if_neg n1, if_pos q]
      simp only [n1, if_false]
  rw [es]
  refine z_begin mo_X10_takeColumn rfl (nle rfl) (b_X10_takeColumn_0 (by omega) ⟨by omega, by omega⟩ (fun _ => ⟨by omega, by omega⟩) (fun _ _ => by rw [k1]; exact ⟨by omega, by omega⟩) (fun c c2 c3 => ?_) (fun c c2 c3 => ?_) (fun c c2 => ?_) (fun c => ?_))
  · rw [if_pos c, if_pos c2, if_pos (by omega)]
    have q4 : z_wr h 7 5 (x - 48) 7 4 = s.1.2.1 := by rw [w_nj (by omega)]; exact y.1
    have q : z_CY D M_X10_dueBehindFirstN (d - 1) [(2, 7)] G (z_wr h 7 5 (x - 48)) (fun out G' h' => out = .inl (some (0, if zfm s.1.2.1 = 2 then 3 else if zfm s.1.2.1 = 3 then 2 else 4)) ∧ G' = G ∧ h' = z_wr h 7 5 (x - 48)) := by
      refine z_begin mo_X10_dueBehindFirstN rfl (nle rfl) (b_X10_dueBehindFirstN_0 (by omega) (by rw [q4]; exact ⟨by omega, by omega⟩) (zfm_in _) (fun c => ⟨?_, rfl, rfl⟩) (fun c c2 => ⟨?_, rfl, rfl⟩) (fun c c2 => ⟨?_, rfl, rfl⟩))
      · rw [q4] at c; rw [if_pos c]
      · rw [q4] at c c2; rw [if_neg c, if_pos c2]
      · rw [q4] at c c2; rw [if_neg c, if_neg c2]
    refine z_Ki.of (d2 := d - 1) (by omega) q ?_
    rintro out G' h' _ ⟨r1, rfl, rfl⟩
    have f : frB (fun a j => a = 7 ∧ 3 ≤ j ∧ j ≤ 7) h (z_wr (z_wr h 7 5 (x - 48)) 7 3 (if zfm s.1.2.1 = 2 then 3 else if zfm s.1.2.1 = 3 then 2 else 4)) := (frB.rf.w ⟨rfl, by omega, by omega⟩).w ⟨rfl, by omega, by omega⟩
    refine ⟨_, r1, b_X10_takeColumn_51 ⟨rfl, rfl, frB7 (P := cwP) f, fun _ => cW_set k f (by rw [w_s]) (fun _ => ⟨by rw [w_nj (by omega), w_nj (by omega)]; exact y.1, by rw [w_nj (by omega), w_s], by rw [w_nj (by omega), w_nj (by omega)]; exact y.2.2⟩) (fun q => ?_) rfl⟩⟩
    dsimp only at q
    split at q <;> (try split at q) <;> omega
  · rw [if_pos c, if_pos c2, if_neg (by omega)]
    have f : frB (fun a j => a = 7 ∧ 3 ≤ j ∧ j ≤ 7) h (z_wr (z_wr h 7 6 (x - 48)) 7 3 4) := (frB.rf.w ⟨rfl, by omega, by omega⟩).w ⟨rfl, by omega, by omega⟩
    exact ⟨rfl, rfl, frB7 (P := cwP) f, fun _ => cW_set k f (by rw [w_s]) (fun _ => ⟨by rw [w_nj (by omega), w_nj (by omega)]; exact y.1, by rw [w_nj (by omega), w_nj (by omega)]; exact y.2.1, by rw [w_nj (by omega), w_s]⟩) (fun q => by dsimp only at q; omega) rfl⟩
  · rw [if_pos c, if_neg c2]; exact cwQ_n (by decide)
  · rw [if_neg c]; exact cwQ_n (by decide)
theorem c_takeMark (hd : 2 ≤ d) {x : Int} {s : wS} (i : wInv s) (k : cW s h) (x0 : 0 ≤ x) (x1 : x ≤ 255) (du : s.1.1 = 3) : z_CY D M_X10_takeMark d [(2, 7), (0, x)] G h (cwQ G h (wSign x s)) := by
  obtain ⟨⟨k1, k2⟩, k3, k4, k5, k6⟩ := id k
  have y := k3 (by omega)
  have es : wSign x s = (if zmk x = -1 then (1, s) else (0, ((4, s.1.2.1, s.1.2.2.1, zmk x, s.1.2.2.2.2), s.2))) := by
    unfold wSign
    rw [if_neg (by omega), if_neg (by omega), if_neg (by omega), if_pos du]
  rw [es]
  refine z_begin mo_X10_takeMark rfl (nle rfl) (b_X10_takeMark_0 hd ⟨by omega, by omega⟩ (zmk_in x) (fun c => ?_) (fun c => ?_))
  · rw [if_neg c]
    have f : frB (fun a j => a = 7 ∧ 3 ≤ j ∧ j ≤ 7) h (z_wr (z_wr h 7 6 (zmk x)) 7 3 4) := (frB.rf.w ⟨rfl, by omega, by omega⟩).w ⟨rfl, by omega, by omega⟩
    exact ⟨rfl, rfl, frB7 (P := cwP) f, fun _ => cW_set k f (by rw [w_s]) (fun _ => ⟨by rw [w_nj (by omega), w_nj (by omega)]; exact y.1, by rw [w_nj (by omega), w_nj (by omega)]; exact y.2.1, by rw [w_nj (by omega), w_s]⟩) (fun q => by dsimp only at q; omega) rfl⟩
  · rw [if_pos (Classical.not_not.mp c)]; exact cwQ_n (by decide)
theorem c_takeTimes (hd : 2 ≤ d) {x : Int} {s : wS} (k : cW s h) (x0 : 0 ≤ x) (x1 : x ≤ 255) (du : s.1.1 = 5) : z_CY D M_X10_takeTimes d [(2, 7), (0, x)] G h (cwQ G h (wSign x s)) := by
  have es : wSign x s = (if 48 ≤ x ∧ x ≤ 57 then (if x - 48 < 1 ∨ 6 < x - 48 then (2, s) else (0, ((6, s.1.2.1, s.1.2.2.1, s.1.2.2.2.1, x - 48), s.2))) else (1, s)) := by
    unfold wSign
    rw [if_neg (by omega), if_neg (by omega), if_neg (by omega), if_neg (by omega), if_neg (by omega), if_pos du]
  rw [es]
  refine z_begin mo_X10_takeTimes rfl (nle rfl) (b_X10_takeTimes_0 hd ⟨by omega, by omega⟩ (fun _ => ⟨by omega, by omega⟩) (fun c c2 => ?_) (fun c c2 c3 => ?_) (fun c c2 c3 => ?_) (fun c => ?_))
  · rw [if_pos c, if_pos (Or.inl c2)]
    exact ⟨rfl, rfl, frB.rf.w (Or.inl ⟨rfl, by omega⟩), fun w => absurd (show (2 : Int) = 0 from w) (by decide)⟩
  · rw [if_pos c, if_neg (by omega)]
    have f : frB (fun a j => a = 7 ∧ 3 ≤ j ∧ j ≤ 7) h (z_wr (z_wr h 7 7 (x - 48)) 7 3 6) := (frB.rf.w ⟨rfl, by omega, by omega⟩).w ⟨rfl, by omega, by omega⟩
    exact ⟨rfl, rfl, frB7 (P := cwP) f, fun _ => cW_set k f (by rw [w_s]) (fun q => by dsimp only at q; omega) (fun _ => by rw [w_nj (by omega), w_s]) rfl⟩
  · rw [if_pos c, if_pos (by omega)]
    exact ⟨rfl, rfl, frB.rf.w (Or.inl ⟨rfl, by omega⟩), fun w => absurd (show (2 : Int) = 0 from w) (by decide)⟩
  · rw [if_neg c]; exact cwQ_n (by decide)
theorem c_endStep (hd : 2 ≤ d) {s : wS} (i : wInv s) (k : cW s h) (du : s.1.1 = 4) : z_CY D M_X10_endStep d [(2, 7)] G h (cwQ G h (wSign 59 s)) := by
  intro hl
  obtain ⟨i1, i2, i3, i4, i5⟩ := id i
  obtain ⟨⟨k1, k2⟩, k3, k4, k5, k6⟩ := id k
  have z := i3 (by omega)
  have y := k3 (by omega)
  have es : wSign 59 s = (0, ((0, s.1.2), (s.2.1.1 + 1, fun i => if i = s.2.1.1 then zco s.1.2.1 s.1.2.2.1 s.1.2.2.2.1 else s.2.1.2 i), s.2.2)) := by
    unfold wSign
    rw [if_neg (by omega), if_neg (by omega), if_neg (by omega), if_neg (by omega), if_pos du, if_pos rfl]
  rw [es]
  refine z_begin mo_X10_endStep rfl (nle rfl) (b_X10_endStep_0 hd (by rw [y.1]; omega) (by rw [y.2.1]; omega) (by rw [y.2.2]; omega) ?_) hl
  rw [y.1, y.2.1, y.2.2]
  refine z_Ki.of (d2 := d - 1) (by omega) (c_wadd (hl.i 8 (by decide) rfl) k5 i2 (by omega)) ?_
  rintro out G' h' _ ⟨r1, rfl, f, kw⟩
  refine ⟨_, r1, b_X10_endStep_22 ⟨rfl, rfl, (f.imp fun a j q => Or.inr (by omega)).w (Or.inl ⟨rfl, by omega⟩), fun _ => ⟨⟨by rw [w_s], by rw [w_nj (by omega), f 7 8 (by omega)]; exact k2⟩, fun q => by dsimp only at q; omega, fun q => by dsimp only at q; omega, isW_w kw, fun j a b => ?_⟩⟩⟩
  rw [w_na (by omega), w_na (by omega), f 10 j (by omega), f 11 j (by omega)]
  exact k6 j a b
theorem c_openRepeat {s : wS} (i : wInv s) (k : cW s h) (du : s.1.1 = 6) : z_CY D M_X10_openRepeat d [(2, 7)] G h (cwQ G h (wSign 123 s)) := by
  obtain ⟨i1, i2, i3, i4, i5⟩ := id i
  obtain ⟨⟨k1, k2⟩, k3, k4, k5, k6⟩ := id k
  have es : wSign 123 s = (if s.2.2.1 = 3 then (3, s) else (0, ((0, s.1.2), s.2.1, (s.2.2.1 + 1, (fun i => if i = s.2.2.1 then s.2.1.1 else s.2.2.2.1 i), (fun i => if i = s.2.2.1 then s.1.2.2.2.2 else s.2.2.2.2 i))))) := by
    unfold wSign
    rw [if_neg (by omega), if_neg (by omega), if_neg (by omega), if_neg (by omega), if_neg (by omega), if_neg (by omega), if_pos rfl]
  rw [es]
  refine z_begin mo_X10_openRepeat rfl (nle rfl) (b_X10_openRepeat_0 (by rw [k2]; exact ⟨by omega, by omega⟩) (fun _ => by omega) (fun _ => by omega) (fun c => ?_) (fun c => ?_))
  · rw [if_neg (by omega)]
    have k7 := k4 du
    have kw : isW (z_wr (z_wr (z_wr (z_wr h 10 (h 7 8) (h 8 1)) 11 (h 7 8) (h 7 7)) 7 8 ((h 7 8) + 1)) 7 3 0) 8 s.2.1 := by
      refine isW_w (isW_w ?_)
      exact ⟨by rw [w_na (by omega), w_na (by omega)]; exact k5.1, fun j a b => by rw [w_na (by omega), w_na (by omega)]; exact k5.2 j a b⟩
    refine ⟨rfl, rfl, (((frB.rf.w (Or.inr ⟨by omega, by omega⟩)).w (Or.inr ⟨by omega, by omega⟩)).w (Or.inl ⟨rfl, by omega⟩)).w (Or.inl ⟨rfl, by omega⟩), fun _ => ⟨⟨by rw [w_s], by rw [w_nj (by omega), w_s, k2]⟩, fun q => by dsimp only at q; omega, fun q => by dsimp only at q; omega, kw, fun j a b => ?_⟩⟩
    dsimp only at b ⊢
    rw [w_na (by omega), w_na (by omega), w_na (by omega), k2, k5.1, k7]
    rw [w_na (by omega : ¬ (11 : Int) = 7), w_na (by omega : ¬ (11 : Int) = 7)]
    by_cases e : j = s.2.2.1
    · rw [e, w_s, w_s, if_pos rfl, if_pos rfl]; exact ⟨rfl, rfl⟩
    · rw [w_nj e, w_nj e, if_neg e, if_neg e, w_na (by omega)]; exact k6 j a (by omega)
  · rw [if_pos (by omega)]; exact cwQ_n (by decide)
end Wread
