/-! reading a table's text: one function for both sides. State: row, column, width (of the first row, once it is through), cell, its bytes, the cells so far -/
abbrev tS : Type := Int × Int × Int × Int × Int × (Int → Int → Int)
def tPut (s : tS) : Int → Int → Int := fun r c => if r = s.1 ∧ c = s.2.1 then s.2.2.2.1 else s.2.2.2.2.2 r c
def tGood (x n : Int) : Prop := (97 ≤ x ∧ x ≤ 122) ∨ (48 ≤ x ∧ x ≤ 57) ∨ ¬ zmk x = -1 ∨ (x = 63 ∧ n = 0)
noncomputable def tKind (x : Int) (s : tS) : Int :=
  if x = 44 then (if 0 < s.1 ∧ s.2.1 + 1 = s.2.2.1 then 3 else if s.2.1 + 1 = 6 then 4 else 0)
  else if x = 59 then (if 0 < s.1 ∧ s.2.1 + 1 < s.2.2.1 then 3 else if s.1 + 1 = 12 then 4 else 0)
  else zif (s.2.2.2.1 = -1 ∨ ¬ tGood x s.2.2.2.2.1) 1 (if s.2.2.2.2.1 = 7 then 2 else 0)
def tNext (x : Int) (s : tS) : tS :=
  if x = 44 then (s.1, s.2.1 + 1, s.2.2.1, 0, 0, tPut s)
  else if x = 59 then (s.1 + 1, 0, if s.1 = 0 then s.2.1 + 1 else s.2.2.1, 0, 0, tPut s)
  else (s.1, s.2.1, s.2.2.1, if x = 63 then -1 else s.2.2.2.1 * 256 + x, s.2.2.2.2.1 + 1, s.2.2.2.2.2)
noncomputable def tRun (b : Int → Int) : Nat → Int → tS → Int × Int × tS
  | 0, k, s => if 0 < s.1 ∧ s.2.1 + 1 < s.2.2.1 then (3, k, s) else (0, -1, s)
  | m + 1, k, s => if tKind (b k) s = 0 then tRun b m (k + 1) (tNext (b k) s) else (tKind (b k) s, k, s)
def tTab (s : tS) : zTb := (s.1 + 1, if s.1 = 0 then s.2.1 + 1 else s.2.2.1, tPut s)
def t0 : tS := (0, 0, 0, 0, 0, fun _ _ => 0)
def tInv (s : tS) : Prop := (0 ≤ s.1 ∧ s.1 ≤ 11 ∧ 0 ≤ s.2.1 ∧ s.2.1 ≤ 5 ∧ (0 < s.1 → 1 ≤ s.2.2.1 ∧ s.2.2.1 ≤ 6 ∧ s.2.1 + 1 ≤ s.2.2.1)) ∧
  ((s.2.2.2.1 = -1 ∧ s.2.2.2.2.1 = 1) ∨ (0 ≤ s.2.2.2.2.1 ∧ s.2.2.2.2.1 ≤ 7 ∧ 0 ≤ s.2.2.2.1 ∧ s.2.2.2.1 < 256 ^ s.2.2.2.2.1.toNat)) ∧
  ∀ r c : Int, (-1 ≤ s.2.2.2.2.2 r c ∧ s.2.2.2.2.2 r c < 72057594037927936) ∧ (¬ s.2.2.2.2.2 r c = 0 → (0 ≤ r ∧ r < s.1 ∧ 0 ≤ c ∧ c < s.2.2.1) ∨ (r = s.1 ∧ 0 ≤ c ∧ c < s.2.1))
theorem t0_inv : tInv t0 := by
  refine ⟨⟨by decide, by decide, by decide, by decide, fun h => absurd h (by decide)⟩, Or.inr ⟨by decide, by decide, by decide, by decide⟩, fun r c => ⟨⟨by show (-1 : Int) ≤ 0; omega, by show (0 : Int) < _; omega⟩, fun w => absurd rfl w⟩⟩
theorem t256 {n : Int} (h0 : 0 ≤ n) (h1 : n ≤ 7) : (256 : Int) ^ n.toNat ≤ 72057594037927936 := by
  have : n = 0 ∨ n = 1 ∨ n = 2 ∨ n = 3 ∨ n = 4 ∨ n = 5 ∨ n = 6 ∨ n = 7 := by omega
  rcases this with rfl | rfl | rfl | rfl | rfl | rfl | rfl | rfl <;> decide
theorem tInv_v {s : tS} (i : tInv s) : -1 ≤ s.2.2.2.1 ∧ s.2.2.2.1 < 72057594037927936 ∧ (¬ s.2.2.2.1 = -1 → 0 ≤ s.2.2.2.1 ∧ 0 ≤ s.2.2.2.2.1 ∧ s.2.2.2.2.1 ≤ 7 ∧ s.2.2.2.1 < 256 ^ s.2.2.2.2.1.toNat) := by
  rcases i.2.1 with q | q
  · exact ⟨by omega, by omega, fun w => absurd q.1 w⟩
  · have := t256 q.1 q.2.1
    exact ⟨by omega, by omega, fun _ => ⟨q.2.2.1, q.1, q.2.1, q.2.2.2⟩⟩
theorem tPut_rg {s : tS} (i : tInv s) (r c : Int) : -1 ≤ tPut s r c ∧ tPut s r c < 72057594037927936 := by
  unfold tPut
  split
  · have := tInv_v i; omega
  · exact (i.2.2 r c).1
theorem tPut_nz {s : tS} (i : tInv s) {r c : Int} (w : ¬ tPut s r c = 0) : (0 ≤ r ∧ r < s.1 ∧ 0 ≤ c ∧ c < s.2.2.1) ∨ (r = s.1 ∧ 0 ≤ c ∧ c < s.2.1 + 1) := by
  unfold tPut at w
  by_cases e : r = s.1 ∧ c = s.2.1
  · have := i.1
    exact Or.inr ⟨e.1, by omega, by omega⟩
  · rw [if_neg e] at w
    rcases (i.2.2 r c).2 w with q | q
    · exact Or.inl q
    · exact Or.inr ⟨q.1, q.2.1, by omega⟩
theorem lsb8 {v x n : Int} (n0 : 0 ≤ n) (n1 : n ≤ 6) (v0 : 0 ≤ v) (v1 : v < 256 ^ n.toNat) (x0 : 0 ≤ x) (x1 : x ≤ 255) : z_lor (z_lshl v 8) x = v * 256 + x ∧ v * 256 + x < 256 ^ (n + 1).toNat := by
  have e : (256 : Int) ^ (n + 1).toNat = 256 ^ n.toNat * 256 := by rw [show (n + 1).toNat = n.toNat + 1 by omega, Int.pow_succ]
  have e6 : (256 : Int) ^ n.toNat ≤ 281474976710656 := by
    have : n = 0 ∨ n = 1 ∨ n = 2 ∨ n = 3 ∨ n = 4 ∨ n = 5 ∨ n = 6 := by omega
    rcases this with rfl | rfl | rfl | rfl | rfl | rfl | rfl <;> decide
  refine ⟨?_, by rw [e]; omega⟩
  have s1 : z_lshl v 8 = v * 2 ^ 8 := z_lshl_n v0 (by omega) (by omega) (by show v * 2 ^ 8 < _; omega)
  rw [s1, z_lor_add 8 v0 x0 (by show x < 256; omega) (by show v * 256 + x < _; omega)]
  show v * 256 + x = _
  rfl
theorem tKind_rg {x : Int} {s : tS} : tKind x s = 0 ∨ tKind x s = 1 ∨ tKind x s = 2 ∨ tKind x s = 3 ∨ tKind x s = 4 := by
  unfold tKind
  split
  · split <;> (try split) <;> omega
  · split
    · split <;> (try split) <;> omega
    · by_cases q : s.2.2.2.1 = -1 ∨ ¬ tGood x s.2.2.2.2.1
      · rw [zif1 q]; omega
      · rw [zif0 q]; split <;> omega
theorem tNext_inv {s : tS} {x : Int} (i : tInv s) (x0 : 0 ≤ x) (x1 : x ≤ 255) (k : tKind x s = 0) : tInv (tNext x s) := by
  obtain ⟨i1, i2, i3⟩ := id i
  unfold tKind at k
  unfold tNext
  by_cases c1 : x = 44
  · rw [if_pos c1] at k ⊢
    by_cases q : 0 < s.1 ∧ s.2.1 + 1 = s.2.2.1
    · rw [if_pos q] at k; omega
    rw [if_neg q] at k
    by_cases q2 : s.2.1 + 1 = 6
    · rw [if_pos q2] at k; omega
    refine ⟨⟨by dsimp only; omega, by dsimp only; omega, by dsimp only; omega, by dsimp only; omega, fun w => by dsimp only at w ⊢; omega⟩, Or.inr ⟨by dsimp only; omega, by dsimp only; omega, by dsimp only; omega, by dsimp only; decide⟩, fun r c => ⟨tPut_rg i r c, fun w => ?_⟩⟩
    dsimp only at w ⊢
    exact tPut_nz i w
  rw [if_neg c1] at k ⊢
  by_cases c2 : x = 59
  · rw [if_pos c2] at k ⊢
    by_cases q : 0 < s.1 ∧ s.2.1 + 1 < s.2.2.1
    · rw [if_pos q] at k; omega
    rw [if_neg q] at k
    by_cases q2 : s.1 + 1 = 12
    · rw [if_pos q2] at k; omega
    refine ⟨⟨by dsimp only; omega, by dsimp only; omega, by dsimp only; omega, by dsimp only; omega, fun w => ?_⟩, Or.inr ⟨by dsimp only; omega, by dsimp only; omega, by dsimp only; omega, by dsimp only; decide⟩, fun r c => ⟨tPut_rg i r c, fun w => ?_⟩⟩
    · dsimp only at w ⊢
      split
      · omega
      · have := i1.2.2.2.2 (by omega); omega
    · dsimp only at w ⊢
      left
      split
      · rcases tPut_nz i w with z | z <;> omega
      · have := i1.2.2.2.2 (by omega)
        rcases tPut_nz i w with z | z <;> omega
  rw [if_neg c2] at k ⊢
  by_cases q : s.2.2.2.1 = -1 ∨ ¬ tGood x s.2.2.2.2.1
  · rw [zif1 q] at k; omega
  rw [zif0 q] at k
  by_cases q2 : s.2.2.2.2.1 = 7
  · rw [if_pos q2] at k; omega
  have g : tGood x s.2.2.2.2.1 := Classical.byContradiction fun w => q (Or.inr w)
  obtain ⟨v0, n0, n7, v1⟩ := (tInv_v i).2.2 (fun w => q (Or.inl w))
  refine ⟨i1, ?_, i3⟩
  dsimp only
  by_cases c3 : x = 63
  · rw [if_pos c3]
    left
    refine ⟨rfl, ?_⟩
    unfold tGood at g
    have z : zmk 63 = -1 := by decide
    rw [c3, z] at g
    omega
  · rw [if_neg c3]
    right
    exact ⟨by omega, by omega, by omega, (lsb8 n0 (by omega) v0 v1 x0 x1).2⟩
theorem tTab_ok {s : tS} (i : tInv s) (q : ¬ (0 < s.1 ∧ s.2.1 + 1 < s.2.2.1)) : okT (tTab s) := by
  obtain ⟨i1, i2, i3⟩ := id i
  refine ⟨⟨by show 1 ≤ s.1 + 1; omega, by show s.1 + 1 ≤ 12; omega, ?_, ?_⟩, fun r c _ _ _ _ => tPut_rg i r c⟩
  · show 1 ≤ (if s.1 = 0 then s.2.1 + 1 else s.2.2.1)
    split
    · omega
    · have := i1.2.2.2.2 (by omega); omega
  · show (if s.1 = 0 then s.2.1 + 1 else s.2.2.1) ≤ 6
    split
    · omega
    · have := i1.2.2.2.2 (by omega); omega
theorem tRun_ok {b : Int → Int} (hb : ∀ k, 0 ≤ b k ∧ b k ≤ 255) : ∀ (m : Nat) (k : Int) (s : tS), tInv s → (tRun b m k s).1 = 0 → okT (tTab (tRun b m k s).2.2) := by
  intro m
  induction m with
  | zero =>
    intro k s i e
    unfold tRun at e ⊢
    by_cases q : 0 < s.1 ∧ s.2.1 + 1 < s.2.2.1
    · rw [if_pos q] at e; cases e
    · rw [if_neg q]; exact tTab_ok i q
  | succ m ih =>
    intro k s i e
    unfold tRun at e ⊢
    by_cases q : tKind (b k) s = 0
    · rw [if_pos q] at e ⊢; exact ih _ _ (tNext_inv i (hb k).1 (hb k).2 q) e
    · rw [if_neg q] at e; exact absurd e q
