/-! reading a way's text: a machine that both sides follow. State: (due, number, a, b, often), the way so far, (depth, where the bodies begin, how often) -/
abbrev wS : Type := (Int × Int × Int × Int × Int) × zWy × (Int × (Int → Int) × (Int → Int))
def wClose (s : wS) : Int × wS :=
  if s.2.2.2.1 (s.2.2.1 - 1) + (s.2.1.1 - s.2.2.2.1 (s.2.2.1 - 1)) * s.2.2.2.2 (s.2.2.1 - 1) ≤ 12
  then (0, (s.1, (s.2.2.2.1 (s.2.2.1 - 1) + (s.2.1.1 - s.2.2.2.1 (s.2.2.1 - 1)) * s.2.2.2.2 (s.2.2.1 - 1), fun i => if i < s.2.1.1 then s.2.1.2 i else s.2.1.2 (s.2.2.2.1 (s.2.2.1 - 1) + (i - s.2.2.2.1 (s.2.2.1 - 1)) % (s.2.1.1 - s.2.2.2.1 (s.2.2.1 - 1)))), (s.2.2.1 - 1, s.2.2.2)))
  else (3, s)
def wSign (x : Int) (s : wS) : Int × wS :=
  if s.1.1 = 0 then (if x = 125 ∧ 0 < s.2.2.1 then wClose s else (1, s))
  else if s.1.1 = 1 then (if 48 ≤ x ∧ x ≤ 57 then (if x - 48 ≤ 5 then (0, ((if zfm s.1.2.1 = 2 then 3 else if zfm s.1.2.1 = 3 then 2 else 4, s.1.2.1, x - 48, s.1.2.2.2.1, s.1.2.2.2.2), s.2)) else (2, s)) else (1, s))
  else if s.1.1 = 2 then (if 48 ≤ x ∧ x ≤ 57 then (if x - 48 ≤ 5 then (0, ((4, s.1.2.1, s.1.2.2.1, x - 48, s.1.2.2.2.2), s.2)) else (2, s)) else (1, s))
  else if s.1.1 = 3 then (if zmk x = -1 then (1, s) else (0, ((4, s.1.2.1, s.1.2.2.1, zmk x, s.1.2.2.2.2), s.2)))
  else if s.1.1 = 4 then (if x = 59 then (0, ((0, s.1.2), (s.2.1.1 + 1, fun i => if i = s.2.1.1 then zco s.1.2.1 s.1.2.2.1 s.1.2.2.2.1 else s.2.1.2 i), s.2.2)) else (1, s))
  else if s.1.1 = 5 then (if 48 ≤ x ∧ x ≤ 57 then (if x - 48 < 1 ∨ 6 < x - 48 then (2, s) else (0, ((6, s.1.2.1, s.1.2.2.1, s.1.2.2.2.1, x - 48), s.2))) else (1, s))
  else (if x = 123 then (if s.2.2.1 = 3 then (3, s) else (0, ((0, s.1.2), s.2.1, (s.2.2.1 + 1, (fun i => if i = s.2.2.1 then s.2.1.1 else s.2.2.2.1 i), (fun i => if i = s.2.2.1 then s.1.2.2.2.2 else s.2.2.2.2 i))))) else (1, s))
def wWord (w : Int) (s : wS) : Int × wS :=
  if ¬ s.1.1 = 0 ∨ w = -1 then (1, s)
  else if w = 15 then (0, ((5, s.1.2), s.2))
  else if s.2.1.1 = 12 then (3, s)
  else (0, ((if zfm w = 0 then 4 else 1, w, 0, 0, s.1.2.2.2.2), s.2))
def wInv (s : wS) : Prop := (0 ≤ s.1.1 ∧ s.1.1 ≤ 6 ∧ 0 ≤ s.2.2.1 ∧ s.2.2.1 ≤ 3) ∧ okW s.2.1 ∧ ((1 ≤ s.1.1 ∧ s.1.1 ≤ 4) → (1 ≤ s.1.2.1 ∧ s.1.2.1 ≤ 14) ∧ s.2.1.1 ≤ 11 ∧ (0 ≤ s.1.2.2.1 ∧ s.1.2.2.1 ≤ 5) ∧ 0 ≤ s.1.2.2.2.1 ∧ s.1.2.2.2.1 ≤ 5) ∧ (s.1.1 = 6 → 1 ≤ s.1.2.2.2.2 ∧ s.1.2.2.2.2 ≤ 6) ∧ ∀ i : Int, 0 ≤ i → i < s.2.2.1 → (0 ≤ s.2.2.2.1 i ∧ s.2.2.2.1 i ≤ s.2.1.1) ∧ 1 ≤ s.2.2.2.2 i ∧ s.2.2.2.2 i ≤ 6
def w0 : wS := ((0, 0, 0, 0, 0), (0, fun _ => 0), (0, (fun _ => 0), (fun _ => 0)))
theorem w0_inv : wInv w0 := ⟨⟨by decide, by decide, by decide, by decide⟩, ⟨by decide, by decide, fun i a b => by have b : i < 0 := b; omega⟩, fun q => by have q : (1 : Int) ≤ 0 ∧ (0 : Int) ≤ 4 := q; omega, fun q => by have q : (0 : Int) = 6 := q; omega, fun i a b => by have b : i < 0 := b; omega⟩
theorem zmk_r3 (x : Int) : -1 ≤ zmk x ∧ zmk x ≤ 3 := by
  unfold zmk
  split <;> (try split) <;> (try split) <;> (try split) <;> omega
theorem zfm_r3 (n : Int) : 0 ≤ zfm n ∧ zfm n ≤ 3 := by
  unfold zfm
  split
  · next q =>
    have : n = 1 ∨ n = 2 ∨ n = 3 ∨ n = 4 ∨ n = 5 ∨ n = 6 ∨ n = 7 ∨ n = 8 ∨ n = 9 ∨ n = 10 ∨ n = 11 ∨ n = 12 ∨ n = 13 ∨ n = 14 := by omega
    rcases this with rfl | rfl | rfl | rfl | rfl | rfl | rfl | rfl | rfl | rfl | rfl | rfl | rfl | rfl <;> decide
  · omega
theorem wWord_inv {w : Int} {s : wS} (i : wInv s) (hw : w = -1 ∨ (1 ≤ w ∧ w ≤ 15)) (k : (wWord w s).1 = 0) : wInv (wWord w s).2 := by
  obtain ⟨i1, i2, i3, i4, i5⟩ := i
  unfold wWord at k ⊢
  by_cases c1 : ¬ s.1.1 = 0 ∨ w = -1
  · rw [if_pos c1] at k; cases k
  rw [if_neg c1] at k ⊢
  by_cases c2 : w = 15
  · rw [if_pos c2]
    exact ⟨⟨by dsimp only; omega, by dsimp only; omega, i1.2.2⟩, i2, fun q => by dsimp only at q; omega, fun q => by dsimp only at q; omega, i5⟩
  rw [if_neg c2] at k ⊢
  by_cases c3 : s.2.1.1 = 12
  · rw [if_pos c3] at k; cases k
  rw [if_neg c3]
  have l := i2.2.1
  refine ⟨⟨?_, ?_, i1.2.2⟩, i2, fun _ => ⟨⟨by dsimp only; omega, by dsimp only; omega⟩, by dsimp only; omega, ⟨by dsimp only; omega, by dsimp only; omega⟩, by dsimp only; omega, by dsimp only; omega⟩, fun q => ?_, i5⟩
  · dsimp only; split <;> omega
  · dsimp only; split <;> omega
  · dsimp only at q; split at q <;> omega
theorem mul_b {f L t : Int} (h0 : 0 ≤ f) (h1 : f ≤ L) (h2 : L ≤ 12) (t1 : 1 ≤ t) (t2 : t ≤ 6) : L - f ≤ (L - f) * t ∧ (L - f) * t ≤ 72 ∧ 0 ≤ (L - f) * t := by
  have a := Int.mul_le_mul_of_nonneg_left t1 (show 0 ≤ L - f by omega)
  have b := Int.mul_le_mul (show L - f ≤ 12 by omega) t2 (by omega) (by omega)
  omega
theorem wSign_inv {x : Int} {s : wS} (i : wInv s) (k : (wSign x s).1 = 0) : wInv (wSign x s).2 := by
  obtain ⟨i1, i2, i3, i4, i5⟩ := id i
  unfold wSign at k ⊢
  by_cases c0 : s.1.1 = 0
  · rw [if_pos c0] at k ⊢
    by_cases q : x = 125 ∧ 0 < s.2.2.1
    · rw [if_pos q] at k ⊢
      unfold wClose at k ⊢
      have z := i5 (s.2.2.1 - 1) (by omega) (by omega)
      have mb := mul_b z.1.1 z.1.2 i2.2.1 z.2.1 z.2.2
      by_cases w : s.2.2.2.1 (s.2.2.1 - 1) + (s.2.1.1 - s.2.2.2.1 (s.2.2.1 - 1)) * s.2.2.2.2 (s.2.2.1 - 1) ≤ 12
      · rw [if_pos w] at k ⊢
        refine ⟨⟨i1.1, i1.2.1, by dsimp only; omega, by dsimp only; omega⟩, ⟨by dsimp only; omega, by dsimp only; omega, fun j j0 j1 => ?_⟩, fun q => by dsimp only at q; omega, fun q => by dsimp only at q; omega, fun j j0 j1 => ?_⟩
        · dsimp only at j1 ⊢
          split
          · exact i2.2.2 j j0 (by omega)
          · by_cases e : s.2.1.1 - s.2.2.2.1 (s.2.2.1 - 1) = 0
            · rw [e] at j1; omega
            · have m0 := Int.emod_nonneg (j - s.2.2.2.1 (s.2.2.1 - 1)) e
              have m1 := Int.emod_lt_of_pos (j - s.2.2.2.1 (s.2.2.1 - 1)) (show 0 < s.2.1.1 - s.2.2.2.1 (s.2.2.1 - 1) by omega)
              exact i2.2.2 _ (by omega) (by omega)
        · dsimp only at j1 ⊢
          have := i5 j j0 (by omega)
          exact ⟨⟨this.1.1, by omega⟩, this.2⟩
      · rw [if_neg w] at k; cases k
    · rw [if_neg q] at k; cases k
  rw [if_neg c0] at k ⊢
  by_cases c1 : s.1.1 = 1
  · rw [if_pos c1] at k ⊢
    by_cases q : 48 ≤ x ∧ x ≤ 57
    · rw [if_pos q] at k ⊢
      by_cases q2 : x - 48 ≤ 5
      · rw [if_pos q2] at k ⊢
        have z := i3 (by omega)
        refine ⟨⟨?_, ?_, i1.2.2⟩, i2, fun _ => ⟨z.1, z.2.1, ⟨by dsimp only; omega, by dsimp only; omega⟩, z.2.2.2⟩, fun q => ?_, i5⟩
        · dsimp only; split <;> (try split) <;> omega
        · dsimp only; split <;> (try split) <;> omega
        · dsimp only at q; split at q <;> (try split at q) <;> omega
      · rw [if_neg q2] at k; cases k
    · rw [if_neg q] at k; cases k
  rw [if_neg c1] at k ⊢
  by_cases c2 : s.1.1 = 2
  · rw [if_pos c2] at k ⊢
    by_cases q : 48 ≤ x ∧ x ≤ 57
    · rw [if_pos q] at k ⊢
      by_cases q2 : x - 48 ≤ 5
      · rw [if_pos q2] at k ⊢
        have z := i3 (by omega)
        exact ⟨⟨by dsimp only; omega, by dsimp only; omega, i1.2.2⟩, i2, fun _ => ⟨z.1, z.2.1, z.2.2.1, by dsimp only; omega, by dsimp only; omega⟩, fun q => by dsimp only at q; omega, i5⟩
      · rw [if_neg q2] at k; cases k
    · rw [if_neg q] at k; cases k
  rw [if_neg c2] at k ⊢
  by_cases c3 : s.1.1 = 3
  · rw [if_pos c3] at k ⊢
    have r := zmk_r3 x
    by_cases q : zmk x = -1
    · rw [if_pos q] at k; cases k
    · rw [if_neg q] at k ⊢
      have z := i3 (by omega)
      exact ⟨⟨by dsimp only; omega, by dsimp only; omega, i1.2.2⟩, i2, fun _ => ⟨z.1, z.2.1, z.2.2.1, by dsimp only; omega, by dsimp only; omega⟩, fun q => by dsimp only at q; omega, i5⟩
  rw [if_neg c3] at k ⊢
  by_cases c4 : s.1.1 = 4
  · rw [if_pos c4] at k ⊢
    by_cases q : x = 59
    · rw [if_pos q] at k ⊢
      have z := i3 (by omega)
      have l0 := i2.1
      refine ⟨⟨by dsimp only; omega, by dsimp only; omega, i1.2.2⟩, ⟨by dsimp only; omega, by dsimp only; omega, fun j j0 j1 => ?_⟩, fun q => by dsimp only at q; omega, fun q => by dsimp only at q; omega, fun j j0 j1 => ?_⟩
      · dsimp only at j1 ⊢
        split
        · unfold zco; omega
        · exact i2.2.2 j j0 (by omega)
      · dsimp only at j1 ⊢
        have := i5 j j0 j1
        exact ⟨⟨this.1.1, by omega⟩, this.2⟩
    · rw [if_neg q] at k; cases k
  rw [if_neg c4] at k ⊢
  by_cases c5 : s.1.1 = 5
  · rw [if_pos c5] at k ⊢
    by_cases q : 48 ≤ x ∧ x ≤ 57
    · rw [if_pos q] at k ⊢
      by_cases q2 : x - 48 < 1 ∨ 6 < x - 48
      · rw [if_pos q2] at k; cases k
      · rw [if_neg q2] at k ⊢
        exact ⟨⟨by dsimp only; omega, by dsimp only; omega, i1.2.2⟩, i2, fun q => by dsimp only at q; omega, fun _ => ⟨by dsimp only; omega, by dsimp only; omega⟩, i5⟩
    · rw [if_neg q] at k; cases k
  rw [if_neg c5] at k ⊢
  by_cases q : x = 123
  · rw [if_pos q] at k ⊢
    by_cases q2 : s.2.2.1 = 3
    · rw [if_pos q2] at k; cases k
    · rw [if_neg q2] at k ⊢
      have z := i4 (by omega)
      refine ⟨⟨by dsimp only; omega, by dsimp only; omega, by dsimp only; omega, by dsimp only; omega⟩, i2, fun q => by dsimp only at q; omega, fun q => by dsimp only at q; omega, fun j j0 j1 => ?_⟩
      dsimp only at j1 ⊢
      have l0 := i2.1
      by_cases e : j = s.2.2.1
      · rw [if_pos e, if_pos e]; omega
      · rw [if_neg e, if_neg e]; exact i5 j j0 (by omega)
  · rw [if_neg q] at k; cases k
/-! the tokens: signed bytes g, N of them -/
def bB (g : Int → Int) (k : Int) : Int := z_iand (g k) 255
theorem bB_rg (g : Int → Int) (k : Int) : 0 ≤ bB g k ∧ bB g k ≤ 255 := by unfold bB; rw [z_iand255]; omega
def isLt (x : Int) : Prop := 97 ≤ x ∧ x ≤ 122
def lEnd (g : Int → Int) (N : Int) : Nat → Int → Int
  | 0, k => k
  | m + 1, k => if k < N ∧ 97 ≤ bB g k ∧ bB g k ≤ 122 then lEnd g N m (k + 1) else k
def tEnd (g : Int → Int) (N p : Int) : Int := if 97 ≤ bB g p ∧ bB g p ≤ 122 then lEnd g N (N - p).toNat (p + 1) else p + 1
def spl (g : Int → Int) (p e i : Int) : Prop := ((z_sl.getD (i - 1).toNat 0 : Nat) : Int) = e - p ∧ ∀ j : Int, 0 ≤ j → j < e - p → z_sby (i - 1).toNat j = g (p + j)
noncomputable def wNo (g : Int → Int) (p e : Int) : Nat → Int → Int
  | 0, _ => -1
  | m + 1, i => zif (spl g p e i) i (wNo g p e m (i + 1))
noncomputable def wTok (g : Int → Int) (N p : Int) (s : wS) : Int × wS := if 97 ≤ bB g p ∧ bB g p ≤ 122 then wWord (wNo g p (tEnd g N p) 15 1) s else wSign (bB g p) s
noncomputable def wRun (g : Int → Int) (N : Int) : Nat → Int → wS → Int × Int × wS
  | 0, _, s => if ¬ s.1.1 = 0 ∨ 0 < s.2.2.1 then (1, N, s) else (0, -1, s)
  | m + 1, p, s => if N ≤ p then (if ¬ s.1.1 = 0 ∨ 0 < s.2.2.1 then (1, N, s) else (0, -1, s)) else if bB g p = 32 ∨ bB g p = 10 then wRun g N m (p + 1) s else if (wTok g N p s).1 = 0 then wRun g N m (tEnd g N p) (wTok g N p s).2 else ((wTok g N p s).1, p, s)
theorem wNo_rg {g : Int → Int} {p e : Int} : ∀ (m : Nat) (i : Int), 1 ≤ i → i + m ≤ 16 → wNo g p e m i = -1 ∨ (1 ≤ wNo g p e m i ∧ wNo g p e m i ≤ 15) := by
  intro m
  induction m with
  | zero => intro i _ _; exact Or.inl rfl
  | succ m ih =>
    intro i i0 i1
    unfold wNo
    by_cases q : spl g p e i
    · rw [zif1 q]; exact Or.inr (by omega)
    · rw [zif0 q]; exact ih (i + 1) (by omega) (by omega)
theorem wTok_inv {g : Int → Int} {N p : Int} {s : wS} (i : wInv s) (k : (wTok g N p s).1 = 0) : wInv (wTok g N p s).2 := by
  unfold wTok at k ⊢
  split at k
  · next q => rw [if_pos q]; exact wWord_inv i (wNo_rg 15 1 (by omega) (by omega)) k
  · next q => rw [if_neg q]; exact wSign_inv i k
theorem lEnd_rg {g : Int → Int} {N : Int} : ∀ (m : Nat) (k : Int), k ≤ N → k ≤ lEnd g N m k ∧ lEnd g N m k ≤ N := by
  intro m
  induction m with
  | zero => intro k h; exact ⟨Int.le_refl _, h⟩
  | succ m ih =>
    intro k h
    unfold lEnd
    split
    · have := ih (k + 1) (by omega); omega
    · omega
theorem tEnd_rg {g : Int → Int} {N p : Int} (h : p < N) : p < tEnd g N p ∧ tEnd g N p ≤ N := by
  unfold tEnd
  split
  · have := lEnd_rg (g := g) (N := N) (N - p).toNat (p + 1) (by omega); omega
  · omega
theorem ifk {p : Prop} [Decidable p] {a b : Int × wS} (ha : 0 ≤ a.1 ∧ a.1 ≤ 3) (hb : 0 ≤ b.1 ∧ b.1 ≤ 3) : 0 ≤ (if p then a else b).1 ∧ (if p then a else b).1 ≤ 3 := by split <;> assumption
theorem lfk {k : Int} {s : wS} (h0 : 0 ≤ k) (h1 : k ≤ 3) : 0 ≤ ((k, s) : Int × wS).1 ∧ ((k, s) : Int × wS).1 ≤ 3 := ⟨h0, h1⟩
theorem wClose_k (s : wS) : 0 ≤ (wClose s).1 ∧ (wClose s).1 ≤ 3 := ifk (lfk (by decide) (by decide)) (lfk (by decide) (by decide))
theorem wWord_k (w : Int) (s : wS) : 0 ≤ (wWord w s).1 ∧ (wWord w s).1 ≤ 3 := ifk (lfk (by decide) (by decide)) (ifk (lfk (by decide) (by decide)) (ifk (lfk (by decide) (by decide)) (lfk (by decide) (by decide))))
theorem wSign_k (x : Int) (s : wS) : 0 ≤ (wSign x s).1 ∧ (wSign x s).1 ≤ 3 :=
  ifk (ifk (wClose_k s) (lfk (by decide) (by decide))) (ifk (ifk (ifk (lfk (by decide) (by decide)) (lfk (by decide) (by decide))) (lfk (by decide) (by decide))) (ifk (ifk (ifk (lfk (by decide) (by decide)) (lfk (by decide) (by decide))) (lfk (by decide) (by decide))) (ifk (ifk (lfk (by decide) (by decide)) (lfk (by decide) (by decide))) (ifk (ifk (lfk (by decide) (by decide)) (lfk (by decide) (by decide))) (ifk (ifk (ifk (lfk (by decide) (by decide)) (lfk (by decide) (by decide))) (lfk (by decide) (by decide))) (ifk (ifk (lfk (by decide) (by decide)) (lfk (by decide) (by decide))) (lfk (by decide) (by decide))))))))
theorem wKind_rg {g : Int → Int} {N p : Int} {s : wS} : 0 ≤ (wTok g N p s).1 ∧ (wTok g N p s).1 ≤ 3 := by
  unfold wTok
  split
  · exact wWord_k _ _
  · exact wSign_k _ _
theorem wRun_f {g : Int → Int} {N : Int} : ∀ (m m' : Nat) (p : Int) (s : wS), N - p ≤ m → N - p ≤ m' → wRun g N m p s = wRun g N m' p s := by
  intro m
  induction m with
  | zero =>
    intro m' p s h h'
    cases m' with
    | zero => rfl
    | succ m' =>
      conv => rhs; unfold wRun
      rw [if_pos (by omega)]
      rfl
  | succ m ih =>
    intro m' p s h h'
    cases m' with
    | zero =>
      conv => lhs; unfold wRun
      rw [if_pos (by omega)]
      rfl
    | succ m' =>
      unfold wRun
      by_cases c : N ≤ p
      · rw [if_pos c, if_pos c]
      · rw [if_neg c, if_neg c]
        have t := tEnd_rg (g := g) (show p < N by omega)
        rw [ih m' (p + 1) s (by omega) (by omega), ih m' (tEnd g N p) (wTok g N p s).2 (by omega) (by omega)]
/-- the run from a place on -/
noncomputable def wR (g : Int → Int) (N p : Int) (s : wS) : Int × Int × wS := wRun g N (N - p).toNat p s
theorem wR_end {g : Int → Int} {N p : Int} {s : wS} (h : N ≤ p) : wR g N p s = if ¬ s.1.1 = 0 ∨ 0 < s.2.2.1 then (1, N, s) else (0, -1, s) := by
  unfold wR
  rw [show (N - p).toNat = 0 by omega]
  rfl
theorem wR_blank {g : Int → Int} {N p : Int} {s : wS} (h : p < N) (b : bB g p = 32 ∨ bB g p = 10) : wR g N p s = wR g N (p + 1) s := by
  unfold wR
  rw [show (N - p).toNat = (N - (p + 1)).toNat + 1 by omega]
  conv => lhs; unfold wRun
  rw [if_neg (by omega), if_pos b]
theorem wR_tok {g : Int → Int} {N p : Int} {s : wS} (h : p < N) (b : ¬ (bB g p = 32 ∨ bB g p = 10)) (k : (wTok g N p s).1 = 0) : wR g N p s = wR g N (tEnd g N p) (wTok g N p s).2 := by
  unfold wR
  have t := tEnd_rg (g := g) h
  rw [show (N - p).toNat = (N - (p + 1)).toNat + 1 by omega]
  conv => lhs; unfold wRun
  rw [if_neg (by omega), if_neg b, if_pos k]
  exact wRun_f _ _ _ _ (by omega) (by omega)
theorem wR_bad {g : Int → Int} {N p : Int} {s : wS} (h : p < N) (b : ¬ (bB g p = 32 ∨ bB g p = 10)) (k : ¬ (wTok g N p s).1 = 0) : wR g N p s = ((wTok g N p s).1, p, s) := by
  unfold wR
  rw [show (N - p).toNat = (N - (p + 1)).toNat + 1 by omega]
  conv => lhs; unfold wRun
  rw [if_neg (by omega), if_neg b, if_neg k]
theorem wRun_ok {g : Int → Int} {N : Int} : ∀ (m : Nat) (p : Int) (s : wS), wInv s → wInv (wRun g N m p s).2.2 := by
  intro m
  induction m with
  | zero =>
    intro p s i
    unfold wRun
    split <;> exact i
  | succ m ih =>
    intro p s i
    unfold wRun
    split
    · split <;> exact i
    · split
      · exact ih _ _ i
      · split
        · next k => exact ih _ _ (wTok_inv i k)
        · exact i
