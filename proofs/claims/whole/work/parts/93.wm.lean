section Wm
variable {D : zD} {M M2 : zM} {d d2 pc q : Nat} {L : List (Nat × zV)} {rest av : List zV} {G : zG} {h h0 h1 : zH} {Q Q2 : zO → zG → zH → Prop}
theorem z_KT.of (hd : d2 + 1 ≤ d) (k : z_CY D M2 d2 av G h Q2) (hq : ∀ o G1 h1, lay G1 h1 → Q2 o G1 h1 → (∃ r, o = .inl r ∧ z_Y D M d q L (r.toList ++ rest) G1 h1 Q) ∨ ∃ a, o = .inr a ∧ z_YT D M d pc L rest G1 h1 a Q) : z_KT D M M2 d pc q L rest av G h Q := ⟨d2, hd, k.mono hq⟩
end Wm
section Wm2
variable {D : zD} {d : Nat} {G : zG} {h h0 h1 : zH} {Q : zO → zG → zH → Prop}
/-! the model's reader of ways: g are its signed bytes, N of them -/
def gOk (g : Int → Int) : Prop := ∀ k, -128 ≤ g k ∧ g k ≤ 127
theorem gOk_w8 (f : Int → Int) : gOk (fun k => w8 (f k)) := fun k => by show -128 ≤ w8 (f k) ∧ w8 (f k) ≤ 127; unfold w8; omega
theorem sg_eq {g : Int → Int} (gk : gOk g) {k c : Int} (c0 : 0 ≤ c) (c1 : c ≤ 127) : g k = c ↔ bB g k = c := by
  have := gk k
  unfold bB
  rw [z_iand255]
  omega
def hkd (x : Int) : Int := if 97 ≤ x ∧ x ≤ 122 then 1 else if 48 ≤ x ∧ x ≤ 57 then 2 else if ¬ zmk x = -1 then 4 else if x = 123 ∨ x = 125 ∨ x = 59 then 3 else 5
def bl (g : Int → Int) (p : Int) : Prop := bB g p = 32 ∨ bB g p = 10
def mH (g : Int → Int) (N f : Int) (h : zH) : Prop := (h 88 15 = N ∧ h 88 16 = f ∧ 0 ≤ f ∧ f ≤ N) ∧ ((f = N ∧ h 88 18 = 0 ∧ h 88 17 = N) ∨ (f < N ∧ ¬ bl g f ∧ h 88 17 = tEnd g N f ∧ h 88 18 = hkd (bB g f)))
def scP (a j : Int) : Prop := a = 88 ∧ 16 ≤ j ∧ j ≤ 18
def scQ (g : Int → Int) (N p : Int) (G : zG) (h : zH) : zO → zG → zH → Prop := fun out G' h' => out = .inl none ∧ G' = G ∧ frB scP h h' ∧ ∃ f, p ≤ f ∧ mH g N f h' ∧ ∀ s, wR g N p s = wR g N f s
theorem l_scan103 (hd : 2 ≤ d) {g : Int → Int} {N : Int} (N1 : N ≤ 1000) : ∀ (m : Nat) (k : Int) (h : zH), N - k ≤ m → 0 ≤ k → k ≤ N → h 88 15 = N → h 88 17 = k → (∀ j, w8 (h 100 j) = g j) → frB scP h0 h →
    z_Y D M_X13_scan d 103 [(0, 2, 88)] [] G h (fun out G' h' => out = .inl none ∧ G' = G ∧ frB scP h0 h' ∧ h' 88 17 = lEnd g N m k ∧ h' 88 18 = 1 ∧ h' 88 16 = h 88 16) := by
  intro m
  induction m with
  | zero =>
    intro k h e k0 k1 e15 e17 eg f
    have ez : zby h (h 88 15) (h 88 17) = 0 := by unfold zby; rw [if_pos (by omega)]
    refine b_X13_scan_103 hd (by rw [e17]; exact ⟨by omega, by omega⟩) (by rw [e15]; exact ⟨by omega, by omega⟩) (by omega) (by omega) (by rw [ez]; exact ⟨by omega, by omega⟩) (fun c => by rw [ez] at c; omega) (fun _ => ⟨rfl, rfl, f.w ⟨rfl, by omega, by omega⟩, by rw [w_nj (by omega)]; exact e17, by rw [w_s], by rw [w_nj (by omega)]⟩)
  | succ m ih =>
    intro k h e k0 k1 e15 e17 eg f
    by_cases kN : k = N
    · have ez : zby h (h 88 15) (h 88 17) = 0 := by unfold zby; rw [if_pos (by omega)]
      have el : lEnd g N (m + 1) k = k := by unfold lEnd; rw [if_neg (by omega)]
      rw [el]
      refine b_X13_scan_103 hd (by rw [e17]; exact ⟨by omega, by omega⟩) (by rw [e15]; exact ⟨by omega, by omega⟩) (by omega) (by omega) (by rw [ez]; exact ⟨by omega, by omega⟩) (fun c => by rw [ez] at c; omega) (fun _ => ⟨rfl, rfl, f.w ⟨rfl, by omega, by omega⟩, by rw [w_nj (by omega)]; exact e17, by rw [w_s], by rw [w_nj (by omega)]⟩)
    · have ez : zby h (h 88 15) (h 88 17) = bB g k := by unfold zby zb8 bB; rw [if_neg (by omega), e17, eg]
      have rg := bB_rg g k
      refine b_X13_scan_103 hd (by rw [e17]; exact ⟨by omega, by omega⟩) (by rw [e15]; exact ⟨by omega, by omega⟩) (by omega) (by omega) (by rw [ez]; exact ⟨by omega, by omega⟩) (fun c => ?_) (fun c => ?_)
      · rw [ez] at c
        have el : lEnd g N (m + 1) k = lEnd g N m (k + 1) := by
          conv => lhs; unfold lEnd
          rw [if_pos ⟨by omega, c⟩]
        rw [el, e17]
        have q := ih (k + 1) (z_wr h 88 17 (k + 1)) (by omega) (by omega) (by omega) (by rw [w_nj (by omega)]; exact e15) (by rw [w_s]) (fun j => by rw [w_na (by omega)]; exact eg j) (f.w ⟨rfl, by omega, by omega⟩)
        rw [w_nj (show ¬ (16 : Int) = 17 by omega)] at q
        exact q
      · rw [ez] at c
        have el : lEnd g N (m + 1) k = k := by unfold lEnd; rw [if_neg (fun w => c w.2)]
        rw [el]
        exact ⟨rfl, rfl, f.w ⟨rfl, by omega, by omega⟩, by rw [w_nj (by omega)]; exact e17, by rw [w_s], by rw [w_nj (by omega)]⟩
theorem l_scan52 (hd : 2 ≤ d) {g : Int → Int} {N p : Int} (N1 : N ≤ 1000) (p0 : 0 ≤ p) (p1 : p ≤ N) (e15 : h 88 15 = N) (e17 : h 88 17 = p) (eg : ∀ j, w8 (h 100 j) = g j) (nb : p < N → ¬ bl g p) (f : frB scP h0 h) :
    z_Y D M_X13_scan d 52 [(0, 2, 88)] [] G h (fun out G' h' => out = .inl none ∧ G' = G ∧ frB scP h0 h' ∧ mH g N p h') := by
  have e15' : z_wr h 88 16 (h 88 17) 88 15 = N := by rw [w_nj (by omega)]; exact e15
  have f1 : frB scP h0 (z_wr h 88 16 (h 88 17)) := f.w ⟨rfl, by omega, by omega⟩
  by_cases pN : p = N
  · have ez : zby (z_wr h 88 16 (h 88 17)) (z_wr h 88 16 (h 88 17) 88 15) (h 88 17) = 0 := by unfold zby; rw [if_pos (by omega)]
    refine b_X13_scan_52 hd (by rw [e17]; exact ⟨by omega, by omega⟩) (by rw [e15']; exact ⟨by omega, by omega⟩) (by omega) (by omega) (by rw [e15]; exact ⟨by omega, by omega⟩) (fun c => by omega) (fun c => by omega) (fun c => by omega) (fun c => by omega) (fun c => by omega) (fun c => by omega) (fun c => by omega) (fun c => by omega) (fun _ => ⟨rfl, rfl, f1.w ⟨rfl, by omega, by omega⟩, ⟨by rw [w_nj (by omega)]; exact e15', by rw [w_nj (by omega), w_s]; exact e17, p0, p1⟩, Or.inl ⟨pN, by rw [w_s], by rw [w_nj (by omega), w_nj (by omega)]; omega⟩⟩)
  · have pl : p < N := by omega
    have ez : zby (z_wr h 88 16 (h 88 17)) (z_wr h 88 16 (h 88 17) 88 15) (h 88 17) = bB g p := by unfold zby zb8 bB; rw [if_neg (by omega), e17, w_na (by omega), eg]
    have rg := bB_rg g p
    -- a sign, a digit, a mark, or none
    have one : ∀ kd : Int, ¬ (97 ≤ bB g p ∧ bB g p ≤ 122) → kd = hkd (bB g p) → (fun (out : zO) (G' : zG) (h' : zH) => out = .inl none ∧ G' = G ∧ frB scP h0 h' ∧ mH g N p h') (.inl none) G (z_wr (z_wr (z_wr h 88 16 (h 88 17)) 88 17 ((h 88 17) + 1)) 88 18 kd) := by
      intro kd nl ek
      have et : tEnd g N p = p + 1 := by unfold tEnd; rw [if_neg nl]
      exact ⟨rfl, rfl, (f1.w ⟨rfl, by omega, by omega⟩).w ⟨rfl, by omega, by omega⟩, ⟨by rw [w_nj (by omega), w_nj (by omega)]; exact e15', by rw [w_nj (by omega), w_nj (by omega), w_s]; exact e17, p0, p1⟩, Or.inr ⟨pl, nb pl, by rw [w_nj (by omega), w_s, et]; omega, by rw [w_s, ek]⟩⟩
    refine b_X13_scan_52 hd (by rw [e17]; exact ⟨by omega, by omega⟩) (by rw [e15']; exact ⟨by omega, by omega⟩) (by omega) (by omega) (by rw [e15]; exact ⟨by omega, by omega⟩) (fun _ => by rw [ez]; exact ⟨by omega, by omega⟩) (fun _ c => ?_) (fun _ c c2 => ?_) (fun _ c c2 c3 => ?_) (fun _ c c2 c3 c4 => ?_) (fun _ c c2 c3 c4 c5 => ?_) (fun _ c c2 c3 c4 c5 c6 => ?_) (fun _ c c2 c3 c4 c5 c6 => ?_) (fun c => by omega)
    · rw [ez] at c
      have et : tEnd g N p = lEnd g N (N - p).toNat (p + 1) := by unfold tEnd; rw [if_pos c]
      have q := l_scan103 (D := D) (G := G) (h0 := h0) hd (g := g) N1 (N - p).toNat (p + 1) (z_wr (z_wr h 88 16 (h 88 17)) 88 17 ((h 88 17) + 1)) (by omega) (by omega) (by omega) (by rw [w_nj (by omega)]; exact e15') (by rw [w_s]; omega) (fun j => by rw [w_na (by omega), w_na (by omega)]; exact eg j) (f1.w ⟨rfl, by omega, by omega⟩)
      refine q.mono fun out G' h' _ qq => ?_
      obtain ⟨r1, rfl, f2, b17, b18, b16⟩ := qq
      have k15 : h' 88 15 = N := by
        rw [f2 88 15 (by unfold scP; omega)]
        rw [← f1 88 15 (by unfold scP; omega)]; exact e15'
      exact ⟨r1, rfl, f2, ⟨k15, by rw [b16, w_nj (by omega), w_s]; exact e17, p0, p1⟩, Or.inr ⟨pl, nb pl, by rw [b17, et], by rw [b18, hkd, if_pos c]⟩⟩
    · rw [ez] at c c2
      exact one 2 c (by rw [hkd, if_neg c, if_pos c2])
    · rw [ez] at c c2 c3
      exact one 4 c (by rw [hkd, if_neg c, if_neg c2, if_pos c3])
    · rw [ez] at c c2 c3 c4
      exact one 3 c (by rw [hkd, if_neg c, if_neg c2, if_neg c3, if_pos (Or.inl c4)])
    · rw [ez] at c c2 c3 c4 c5
      exact one 3 c (by rw [hkd, if_neg c, if_neg c2, if_neg c3, if_pos (Or.inr (Or.inl c5))])
    · rw [ez] at c c2 c3 c4 c5 c6
      exact one 5 c (by rw [hkd, if_neg c, if_neg c2, if_neg c3, if_neg (by omega)])
    · rw [ez] at c c2 c3 c4 c5 c6
      exact one 3 c (by rw [hkd, if_neg c, if_neg c2, if_neg c3, if_pos (by omega)])
theorem l_scan0 (hd : 2 ≤ d) {g : Int → Int} (gk : gOk g) {N q : Int} (N1 : N ≤ 1000) : ∀ (m : Nat) (p : Int) (h : zH), N - p ≤ m → 0 ≤ p → p ≤ N → q ≤ p → h 88 15 = N → h 88 17 = p → (∀ j, w8 (h 100 j) = g j) → (∀ s, wR g N q s = wR g N p s) → frB scP h0 h →
    z_Y D M_X13_scan d 0 [(0, 2, 88)] [] G h (scQ g N q G h0) := by
  intro m
  induction m with
  | zero =>
    intro p h e p0 p1 qp e15 e17 eg es f
    refine b_X13_scan_0 (by rw [e17]; exact ⟨by omega, by omega⟩) (by rw [e15]; exact ⟨by omega, by omega⟩) (fun c => by omega) (fun c => by omega) (fun c => by omega) (fun _ => ?_) (fun c => by omega) (fun c => by omega) (fun c => by omega)
    exact (l_scan52 hd N1 p0 p1 e15 e17 eg (fun c => by omega) f).mono fun out G' h' _ qq => ⟨qq.1, qq.2.1, qq.2.2.1, p, qp, qq.2.2.2, es⟩
  | succ m ih =>
    intro p h e p0 p1 qp e15 e17 eg es f
    have s1 := sg_eq gk (k := p) (c := 32) (by omega) (by omega)
    have s2 := sg_eq gk (k := p) (c := 10) (by omega) (by omega)
    have ev : w8 (h 100 (h 88 17)) = g p := by rw [e17]; exact eg p
    have go : p < N → bl g p → z_Y D M_X13_scan d 39 [(0, 2, 88)] [] G h (scQ g N q G h0) := fun pl b => by
      refine b_X13_scan_39 ?_
      rw [e17]
      exact ih (p + 1) _ (by omega) (by omega) (by omega) (by omega) (by rw [w_nj (by omega)]; exact e15) (by rw [w_s]) (fun j => by rw [w_na (by omega)]; exact eg j) (fun s => (es s).trans (wR_blank pl b)) (f.w ⟨rfl, by omega, by omega⟩)
    have st : (p < N → ¬ bl g p) → z_Y D M_X13_scan d 52 [(0, 2, 88)] [] G h (scQ g N q G h0) := fun nb => (l_scan52 hd N1 p0 p1 e15 e17 eg nb f).mono fun out G' h' _ qq => ⟨qq.1, qq.2.1, qq.2.2.1, p, qp, qq.2.2.2, es⟩
    refine b_X13_scan_0 (by rw [e17]; exact ⟨by omega, by omega⟩) (by rw [e15]; exact ⟨by omega, by omega⟩) (fun c => by omega) (fun c => by omega) (fun _ => w8_in _) (fun c => st fun w => by omega) (fun c c2 => ?_) (fun c c2 c3 => ?_) (fun c c2 c3 => ?_)
    · rw [ev] at c2; exact go (by omega) (Or.inl (s1.1 c2))
    · rw [ev] at c2 c3
      exact st fun _ w => w.elim (fun w => c2 (s1.2 w)) (fun w => c3 (s2.2 w))
    · rw [ev] at c3; exact go (by omega) (Or.inr (s2.1 (Classical.not_not.mp c3)))
theorem m_scan (hd : 2 ≤ d) {g : Int → Int} (gk : gOk g) {N p : Int} (N1 : N ≤ 1000) (p0 : 0 ≤ p) (p1 : p ≤ N) (e15 : h 88 15 = N) (e17 : h 88 17 = p) (eg : ∀ j, w8 (h 100 j) = g j) : z_CY D M_X13_scan d [(2, 88)] G h (scQ g N p G h) :=
  z_begin mo_X13_scan rfl (nle rfl) (l_scan0 hd gk N1 (N - p).toNat p h (by omega) p0 p1 (Int.le_refl _) e15 e17 eg (fun _ => rfl) frB.rf)
/-- a token that doesn't do: the fault it makes -/
def wBad (g : Int → Int) (N f : Int) (s : wS) (kd : Int) : Prop := (wR g N f s).1 = kd ∧ (wR g N f s).2.1 = f
theorem bad_end {g : Int → Int} {N f : Int} {s : wS} (e : f = N) (du : ¬ s.1.1 = 0 ∨ 0 < s.2.2.1) : wBad g N f s 1 := by
  unfold wBad
  rw [wR_end (by omega), if_pos du]
  exact ⟨rfl, e.symm⟩
theorem bad_tok {g : Int → Int} {N f : Int} {s : wS} {kd : Int} (e : f < N) (nb : ¬ bl g f) (k : (wTok g N f s).1 = kd) (kn : ¬ kd = 0) : wBad g N f s kd := by
  unfold wBad
  rw [wR_bad e nb (by rw [k]; exact kn)]
  exact ⟨k, rfl⟩
/-- a reader in the midst of a step, or behind a repeat's word, wants a sign -/
theorem bad_one {g : Int → Int} {N f : Int} {s : wS} (f1 : f ≤ N) (nb : f < N → ¬ bl g f) (du : ¬ s.1.1 = 0) (k : f < N → ¬ (97 ≤ bB g f ∧ bB g f ≤ 122) → (wSign (bB g f) s).1 = 1) : wBad g N f s 1 := by
  by_cases e : f = N
  · exact bad_end e (Or.inl du)
  · have fl : f < N := by omega
    refine bad_tok fl (nb fl) ?_ (by decide)
    unfold wTok
    by_cases l : 97 ≤ bB g f ∧ bB g f ≤ 122
    · rw [if_pos l]
      unfold wWord
      rw [if_pos (Or.inl du)]
    · rw [if_neg l]; exact k fl l
theorem mH.nb {g : Int → Int} {N f : Int} (m : mH g N f h) : f < N → ¬ bl g f := fun w => by
  rcases m.2 with q | q
  · omega
  · exact q.2.1
/-- a sign that does: the scan behind it -/
theorem ok_sign {g : Int → Int} {N f : Int} {s : wS} (m : mH g N f h) (fl : f < N) (nl : ¬ (97 ≤ bB g f ∧ bB g f ≤ 122)) (k : (wSign (bB g f) s).1 = 0) : h 88 17 = f + 1 ∧ wR g N f s = wR g N (f + 1) (wSign (bB g f) s).2 := by
  have et : tEnd g N f = f + 1 := by unfold tEnd; rw [if_neg nl]
  have ek : wTok g N f s = wSign (bB g f) s := by unfold wTok; rw [if_neg nl]
  rcases m.2 with q | q
  · omega
  · refine ⟨by rw [q.2.2.1, et], ?_⟩
    rw [wR_tok fl q.2.1 (by rw [ek]; exact k), ek, et]
theorem hkd_in (x : Int) : z_in (hkd x) := by
  unfold hkd
  split <;> (try split) <;> (try split) <;> (try split) <;> exact ⟨by decide, by decide⟩
theorem mH.h18 {g : Int → Int} {N f : Int} (m : mH g N f h) : z_in (h 88 18) := by
  rcases m.2 with q | q
  · rw [q.2.1]; exact ⟨by decide, by decide⟩
  · rw [q.2.2.2]; exact hkd_in _
theorem mH.lt {g : Int → Int} {N f : Int} (m : mH g N f h) (n0 : ¬ h 88 18 = 0) : f < N ∧ h 88 18 = hkd (bB g f) := by
  rcases m.2 with q | q
  · exact absurd q.2.1 n0
  · exact ⟨q.1, q.2.2.2⟩
def wgP (a j : Int) : Prop := a = 88 ∧ 16 ≤ j ∧ j ≤ 21
/-- what comes of a sign that is wanted: its value and the next token; or the fault -/
def sgQ (g : Int → Int) (N f : Int) (s : wS) (v : Int → Int → Prop) (G : zG) (h : zH) : zO → zG → zH → Prop := fun out G' h' => G' = G ∧ ((frB scP h h' ∧ ∃ x f', (∃ r, out = .inl r ∧ ((v x x ∧ r = some (0, x)) ∨ (¬ v x x ∧ r = none))) ∧ f < N ∧ ¬ (97 ≤ bB g f ∧ bB g f ≤ 122) ∧ (wSign (bB g f) s).1 = 0 ∧ f < f' ∧ mH g N f' h' ∧ wR g N f s = wR g N f' (wSign (bB g f) s).2) ∨ (out = .inr 99 ∧ frB wgP h h' ∧ ∃ kd, ¬ kd = 0 ∧ wBad g N f s kd ∧ h' 88 20 = kd ∧ h' 88 21 = f))
end Wm2
