/-! the search, as both sides do it: pairs of tables, found breadth first -/
abbrev zSt : Type := zTb × zTb
def teq (T U : zTb) : Prop := T.1 = U.1 ∧ T.2.1 = U.2.1 ∧ ∀ r c : Int, 0 ≤ r → r < T.1 → 0 ≤ c → c < T.2.1 → T.2.2 r c = U.2.2 r c
theorem teq.rf {T : zTb} : teq T T := ⟨rfl, rfl, fun _ _ _ _ _ _ => rfl⟩
theorem teq.sy {T U : zTb} (k : teq T U) : teq U T := ⟨k.1.symm, k.2.1.symm, fun r c a b e f => (k.2.2 r c a (by rw [k.1]; exact b) e (by rw [k.2.1]; exact f)).symm⟩
theorem teq.tr {T U V : zTb} (k : teq T U) (k2 : teq U V) : teq T V := ⟨k.1.trans k2.1, k.2.1.trans k2.2.1, fun r c a b e f => (k.2.2 r c a b e f).trans (k2.2.2 r c a (by rw [← k.1]; exact b) e (by rw [← k.2.1]; exact f))⟩
def seqS (P Q : zSt) : Prop := teq P.1 Q.1 ∧ teq P.2 Q.2
theorem seqS.rf {P : zSt} : seqS P P := ⟨teq.rf, teq.rf⟩
theorem seqS.sy {P Q : zSt} (k : seqS P Q) : seqS Q P := ⟨k.1.sy, k.2.sy⟩
theorem seqS.tr {P Q R : zSt} (k : seqS P Q) (k2 : seqS Q R) : seqS P R := ⟨k.1.tr k2.1, k.2.tr k2.2⟩
noncomputable def nx (two : Prop) (n a b : Int) (P : zSt) : Option zSt := match sMake n a b P.1 with
  | none => none
  | some T => zif two (match sMake n a b P.2 with
    | none => none
    | some U => some (T, U)) (some (T, P.2))
def cN (e : Int) : Int := 1 + e / 36
def cA (e : Int) : Int := e / 6 % 6
def cB (e : Int) : Int := e % 6
def cod (e : Int) : Int := zco (cN e) (cA e) (cB e)
noncomputable def nxe (two : Prop) (e : Int) (P : zSt) : Option zSt := nx two (cN e) (cA e) (cB e) P
def okP (P : zSt) : Prop := okT P.1 ∧ okT P.2
theorem nx_ok {two : Prop} {n a b : Int} {P Q : zSt} (o : okP P) (e : nx two n a b P = some Q) : okP Q := by
  unfold nx at e
  cases e1 : sMake n a b P.1 with
  | none => rw [e1] at e; cases e
  | some T =>
    rw [e1] at e
    dsimp only at e
    have o1 := (sMake_ok o.1 e1).1
    by_cases w : two
    · rw [zif1 w] at e
      cases e2 : sMake n a b P.2 with
      | none => rw [e2] at e; cases e
      | some U => rw [e2] at e; cases e; exact ⟨o1, (sMake_ok o.2 e2).1⟩
    · rw [zif0 w] at e; cases e; exact ⟨o1, o.2⟩
/-- states found: how many, and which -/
abbrev bS : Type := Int × (Int → zSt)
def inS (s : bS) (P : zSt) (i : Int) : Prop := i < s.1 ∧ seqS (s.2 i) P
noncomputable def idx (s : bS) (P : zSt) : Int := zif (∃ i : Int, 0 ≤ i ∧ inS s P i) (zls (inS s P)) (-1)
theorem idx_rg (s : bS) (P : zSt) : (idx s P = -1 ∧ ∀ i : Int, 0 ≤ i → ¬ inS s P i) ∨ (0 ≤ idx s P ∧ inS s P (idx s P) ∧ ∀ i : Int, 0 ≤ i → i < idx s P → ¬ inS s P i) := by
  by_cases w : ∃ i : Int, 0 ≤ i ∧ inS s P i
  · right
    obtain ⟨i, i0, hi⟩ := w
    obtain ⟨t, t1, t2⟩ := lst_ex (p := inS s P) (i.toNat + 1) i (by omega) i0 hi
    have e : idx s P = t := by unfold idx; rw [zif1 ⟨i, i0, hi⟩, zls_eq t2]
    rw [e]; exact ⟨t2.1, t2.2.1, t2.2.2⟩
  · left
    refine ⟨by unfold idx; rw [zif0 w], fun i i0 hi => w ⟨i, i0, hi⟩⟩
def exS (s s' : bS) : Prop := s.1 ≤ s'.1 ∧ ∀ i : Int, 0 ≤ i → i < s.1 → s'.2 i = s.2 i
theorem exS.rf {s : bS} : exS s s := ⟨Int.le_refl _, fun _ _ _ => rfl⟩
theorem exS.tr {s s1 s2 : bS} (a : exS s s1) (b : exS s1 s2) : exS s s2 := ⟨Int.le_trans a.1 b.1, fun i i0 i1 => (b.2 i i0 (Int.lt_of_lt_of_le i1 a.1)).trans (a.2 i i0 i1)⟩
theorem idx_eq {s : bS} {P : zSt} {i : Int} (i0 : 0 ≤ i) (h : inS s P i) (hl : ∀ j : Int, 0 ≤ j → j < i → ¬ inS s P j) : idx s P = i := by
  rcases idx_rg s P with q | q
  · exact absurd h (q.2 i i0)
  · rcases Int.lt_trichotomy (idx s P) i with z | z | z
    · exact absurd q.2.1 (hl _ q.1 z)
    · exact z
    · exact absurd h (q.2.2 i i0 z)
theorem idx_ex {s s' : bS} {P : zSt} (x : exS s s') (h : 0 ≤ idx s P) : idx s' P = idx s P := by
  rcases idx_rg s P with q | q
  · omega
  · have q1 := q.2.1.1
    refine idx_eq q.1 ⟨Int.lt_of_lt_of_le q1 x.1, by rw [x.2 _ q.1 q1]; exact q.2.1.2⟩ fun j j0 j1 w => q.2.2 j j0 j1 ⟨by omega, ?_⟩
    rw [← x.2 j j0 (by omega)]; exact w.2
theorem idx_c {s : bS} {P Q : zSt} (k : seqS P Q) : idx s P = idx s Q := by
  rcases idx_rg s P with q | q
  · rcases idx_rg s Q with z | z
    · rw [q.1, z.1]
    · exact absurd ⟨z.2.1.1, z.2.1.2.tr k.sy⟩ (q.2 _ z.1)
  · exact (idx_eq q.1 ⟨q.2.1.1, q.2.1.2.tr k⟩ fun j j0 j1 w => q.2.2 j j0 j1 ⟨w.1, w.2.tr k.sy⟩).symm
def adS (s : bS) (P : zSt) : bS := (s.1 + 1, fun i => if i = s.1 then P else s.2 i)
theorem adS_ex {s : bS} {P : zSt} : exS s (adS s P) := ⟨by show s.1 ≤ s.1 + 1; omega, fun i _ i1 => by show (if i = s.1 then P else s.2 i) = _; rw [if_neg (by omega)]⟩
theorem adS_idx {s : bS} {P : zSt} (s0 : 0 ≤ s.1) (h : idx s P = -1) : idx (adS s P) P = s.1 := by
  rcases idx_rg s P with q | q
  · refine idx_eq s0 ⟨by show s.1 < s.1 + 1; omega, ?_⟩ fun j j0 j1 w => q.2 j j0 ⟨j1, ?_⟩
    · show seqS (if s.1 = s.1 then P else s.2 s.1) P
      rw [if_pos rfl]; exact seqS.rf
    · have := w.2
      rw [show (adS s P).2 j = s.2 j from if_neg (by omega)] at this
      exact this
  · omega
/-- all steps of a state, from the e-th on: 1 when it is through, 0 when there is no room -/
noncomputable def bX (two : Prop) (P : zSt) : Nat → Int → bS → Int × bS
  | 0, _, s => (1, s)
  | m + 1, e, s => match nxe two e P with
    | none => bX two P m (e + 1) s
    | some Q => zif (idx s Q = -1) (if s.1 = 1500 then (0, s) else bX two P m (e + 1) (adS s Q)) (bX two P m (e + 1) s)
theorem bX_n {two : Prop} {P : zSt} {m : Nat} {e : Int} {s : bS} (h : nxe two e P = none) : bX two P (m + 1) e s = bX two P m (e + 1) s := by rw [bX, h]
theorem bX_o {two : Prop} {P Q : zSt} {m : Nat} {e : Int} {s : bS} (h : nxe two e P = some Q) (k : ¬ idx s Q = -1) : bX two P (m + 1) e s = bX two P m (e + 1) s := by rw [bX, h]; exact zif0 k
theorem bX_a {two : Prop} {P Q : zSt} {m : Nat} {e : Int} {s : bS} (h : nxe two e P = some Q) (k : idx s Q = -1) (l : ¬ s.1 = 1500) : bX two P (m + 1) e s = bX two P m (e + 1) (adS s Q) := by rw [bX, h]; show zif _ _ _ = _; rw [zif1 k, if_neg l]
theorem bX_f {two : Prop} {P Q : zSt} {m : Nat} {e : Int} {s : bS} (h : nxe two e P = some Q) (k : idx s Q = -1) (l : s.1 = 1500) : bX two P (m + 1) e s = (0, s) := by rw [bX, h]; show zif _ _ _ = _; rw [zif1 k, if_pos l]
theorem bX_skip {two : Prop} {P : zSt} {s : bS} : ∀ (k m : Nat) (e : Int), (∀ j : Int, e ≤ j → j < e + k → nxe two j P = none) → bX two P (k + m) e s = bX two P m (e + k) s := by
  intro k
  induction k with
  | zero => intro m e _; rw [Nat.zero_add]; congr 1; omega
  | succ k ih =>
    intro m e h
    rw [show k + 1 + m = (k + m) + 1 by omega, bX_n (h e (Int.le_refl _) (by omega)), ih m (e + 1) fun j a b => h j (by omega) (by omega)]
    congr 1; omega
/-- a state's steps that lead to the next level: code and state -/
noncomputable def edI (two : Prop) (P : zSt) (lv : Int) (s : bS) (e : Int) : List (Int × Int) := match nxe two e P with
  | none => []
  | some Q => if lv ≤ idx s Q then [(cod e, idx s Q)] else []
noncomputable def edP (two : Prop) (P : zSt) (lv : Int) (s : bS) : Nat → List (Int × Int)
  | 0 => []
  | e + 1 => edP two P lv s e ++ edI two P lv s e
theorem edP_s {two : Prop} {P : zSt} {lv : Int} {s : bS} {e : Int} (h : 0 ≤ e) : edP two P lv s (e + 1).toNat = edP two P lv s e.toNat ++ edI two P lv s e := by
  rw [show (e + 1).toNat = e.toNat + 1 by omega, edP, show ((e.toNat : Nat) : Int) = e by omega]
/-- all that was reached so far is there -/
def edK (two : Prop) (P : zSt) (s : bS) (e : Int) : Prop := ∀ j : Int, 0 ≤ j → j < e → ∀ Q, nxe two j P = some Q → 0 ≤ idx s Q
theorem edP_ex {two : Prop} {P : zSt} {lv : Int} {s s' : bS} (x : exS s s') : ∀ e : Nat, edK two P s e → edP two P lv s' e = edP two P lv s e := by
  intro e
  induction e with
  | zero => intro _; rfl
  | succ e ih =>
    intro k
    rw [edP, edP, ih fun j a b => k j a (by omega)]
    congr 1
    unfold edI
    cases h : nxe two (e : Int) P with
    | none => rfl
    | some Q =>
      dsimp only
      rw [idx_ex x (k e (by omega) (by omega) Q h)]
theorem edK_ex {two : Prop} {P : zSt} {s s' : bS} {e : Int} (x : exS s s') (k : edK two P s e) : edK two P s' e := fun j a b Q h => by rw [idx_ex x (k j a b Q h)]; exact k j a b Q h
theorem edK_s {two : Prop} {P : zSt} {s : bS} {e : Int} (k : edK two P s e) (h : ∀ Q, nxe two e P = some Q → 0 ≤ idx s Q) : edK two P s (e + 1) := fun j a b Q hq => by
  by_cases z : j = e
  · subst z; exact h Q hq
  · exact k j a (by omega) Q hq
/-- the states of a level, spread -/
noncomputable def bL (two : Prop) : Nat → Int → bS → Int × bS
  | 0, _, s => (1, s)
  | m + 1, i, s => if (bX two (s.2 i) 504 0 s).1 = 0 then bX two (s.2 i) 504 0 s else bL two m (i + 1) (bX two (s.2 i) 504 0 s).2
theorem bX_p {two : Prop} {P : zSt} : ∀ (m : Nat) (e : Int) (s : bS), s.1 ≤ 1500 → exS s (bX two P m e s).2 ∧ (bX two P m e s).2.1 ≤ 1500 ∧ ((bX two P m e s).1 = 0 ∨ (bX two P m e s).1 = 1) := by
  intro m
  induction m with
  | zero => intro e s l; exact ⟨exS.rf, l, Or.inr rfl⟩
  | succ m ih =>
    intro e s l
    cases h : nxe two e P with
    | none => rw [bX_n h]; exact ih (e + 1) s l
    | some Q =>
      by_cases k : idx s Q = -1
      · by_cases z : s.1 = 1500
        · rw [bX_f h k z]; exact ⟨exS.rf, l, Or.inl rfl⟩
        · rw [bX_a h k z]
          have q := ih (e + 1) (adS s Q) (by show s.1 + 1 ≤ 1500; omega)
          exact ⟨adS_ex.tr q.1, q.2⟩
      · rw [bX_o h k]; exact ih (e + 1) s l
theorem bX_ok {two : Prop} {P : zSt} (oP : okP P) : ∀ (m : Nat) (e : Int) (s : bS), (∀ i : Int, 0 ≤ i → i < s.1 → okP (s.2 i)) → ∀ i : Int, 0 ≤ i → i < (bX two P m e s).2.1 → okP ((bX two P m e s).2.2 i) := by
  intro m
  induction m with
  | zero => intro e s o; exact o
  | succ m ih =>
    intro e s o
    cases h : nxe two e P with
    | none => rw [bX_n h]; exact ih (e + 1) s o
    | some Q =>
      by_cases k : idx s Q = -1
      · by_cases z : s.1 = 1500
        · rw [bX_f h k z]; exact o
        · rw [bX_a h k z]
          refine ih (e + 1) (adS s Q) fun i i0 i1 => ?_
          have i1 : i < s.1 + 1 := i1
          show okP (if i = s.1 then Q else s.2 i)
          split
          · exact nx_ok oP h
          · exact o i i0 (by omega)
      · rw [bX_o h k]; exact ih (e + 1) s o
theorem bX_K {two : Prop} {P : zSt} : ∀ (m : Nat) (e : Int) (s : bS), 0 ≤ s.1 → s.1 ≤ 1500 → edK two P s e → (bX two P m e s).1 = 1 → edK two P (bX two P m e s).2 (e + m) := by
  intro m
  induction m with
  | zero =>
    intro e s s0 l k _
    show edK two P s (e + ((0 : Nat) : Int))
    rw [show e + ((0 : Nat) : Int) = e by omega]; exact k
  | succ m ih =>
    intro e s s0 l k f
    rw [show e + ((m + 1 : Nat) : Int) = e + 1 + (m : Int) by omega]
    cases h : nxe two e P with
    | none =>
      rw [bX_n h] at f ⊢
      exact ih (e + 1) s s0 l (edK_s k fun Q hq => by rw [h] at hq; cases hq) f
    | some Q =>
      by_cases z : idx s Q = -1
      · by_cases y : s.1 = 1500
        · rw [bX_f h z y] at f; cases f
        · rw [bX_a h z y] at f ⊢
          refine ih (e + 1) (adS s Q) (by show 0 ≤ s.1 + 1; omega) (by show s.1 + 1 ≤ 1500; omega) (edK_s (edK_ex adS_ex k) fun Q' hq => ?_) f
          rw [h] at hq; cases hq
          rw [adS_idx s0 z]; exact s0
      · rw [bX_o h z] at f ⊢
        refine ih (e + 1) s s0 l (edK_s k fun Q' hq => ?_) f
        rw [h] at hq; cases hq
        rcases idx_rg s Q with w | w
        · exact absurd w.1 z
        · exact w.1
/-! ways: lists of codes; the shortest, all of them in order; how many there are, and the first sixty -/
/-- the ways from a state to an end, r steps away: Ed tells each level's steps -/
def pth (Ed : Nat → Int → List (Int × Int)) (E : Int → Bool) : Nat → Int → List (List Int)
  | 0, t => if E t then [[]] else []
  | r + 1, t => (Ed r t).flatMap fun ct => (pth Ed E r ct.2).map fun p => ct.1 :: p
/-- how many ways lead on -/
def sml (g : Int → Nat) (l : List (Int × Int)) : Nat := (l.map fun ct => g ct.2).sum
theorem pth_len (Ed : Nat → Int → List (Int × Int)) (E : Int → Bool) (r : Nat) (t : Int) : (pth Ed E (r + 1) t).length = sml (fun x => (pth Ed E r x).length) (Ed r t) := by
  show ((Ed r t).flatMap fun ct => (pth Ed E r ct.2).map fun p => ct.1 :: p).length = ((Ed r t).map fun ct => (pth Ed E r ct.2).length).sum
  rw [List.length_flatMap]
  congr 1
  refine List.map_congr_left fun ct _ => ?_
  rw [List.length_map]
/-- ways counted from the start on: each edge adds what its state has -/
def wA (s : Int) : List (Int × Int) → (Int → Nat) → Int → Nat
  | [], W => W
  | ct :: l, W => wA s l fun x => if x = ct.2 then W x + W s else W x
def sm (f : Int → Nat) : Nat → Int → Nat
  | 0, _ => 0
  | m + 1, i => f i + sm f m (i + 1)
theorem sm_c {f g : Int → Nat} : ∀ (m : Nat) (i : Int), (∀ j : Int, i ≤ j → j < i + m → f j = g j) → sm f m i = sm g m i := by
  intro m
  induction m with
  | zero => intro i _; rfl
  | succ m ih =>
    intro i h
    rw [sm, sm, h i (Int.le_refl _) (by omega), ih (i + 1) fun j a b => h j (by omega) (by omega)]
theorem sm_u {W g : Int → Nat} {t : Int} {v : Nat} : ∀ (m : Nat) (i : Int), i ≤ t → t < i + m → sm (fun x => (if x = t then W x + v else W x) * g x) m i = sm (fun x => W x * g x) m i + v * g t := by
  intro m
  induction m with
  | zero => intro i a b; omega
  | succ m ih =>
    intro i a b
    rw [sm, sm]
    by_cases z : i = t
    · subst z
      rw [if_pos rfl, sm_c (g := fun x => W x * g x) m (i + 1) fun j a b => by rw [if_neg (by omega)]]
      rw [Nat.add_mul]; omega
    · rw [if_neg z, ih (i + 1) (by omega) (by omega)]; omega
theorem wA_s {s : Int} : ∀ (l : List (Int × Int)) (W : Int → Nat), (∀ ct ∈ l, ¬ ct.2 = s) → wA s l W s = W s := by
  intro l
  induction l with
  | nil => intro W _; rfl
  | cons ct l ih =>
    intro W h
    rw [wA, ih _ fun x hx => h x (List.mem_cons_of_mem _ hx), if_neg (fun e => h ct List.mem_cons_self e.symm)]
theorem wA_o {s x : Int} : ∀ (l : List (Int × Int)) (W : Int → Nat), (∀ ct ∈ l, ¬ ct.2 = x) → wA s l W x = W x := by
  intro l
  induction l with
  | nil => intro W _; rfl
  | cons ct l ih =>
    intro W h
    rw [wA, ih _ fun y hy => h y (List.mem_cons_of_mem _ hy), if_neg (fun e => h ct List.mem_cons_self e.symm)]
theorem wA_ap {s : Int} : ∀ (l l2 : List (Int × Int)) (W : Int → Nat), wA s (l ++ l2) W = wA s l2 (wA s l W) := by
  intro l
  induction l with
  | nil => intro l2 W; rfl
  | cons ct l ih => intro l2 W; exact ih l2 _
/-- what the edges of one state bring to the next level -/
theorem wA_sum {s lo : Int} {m : Nat} {g : Int → Nat} (hs : ¬ (lo ≤ s ∧ s < lo + m)) : ∀ (l : List (Int × Int)) (W : Int → Nat), (∀ ct ∈ l, lo ≤ ct.2 ∧ ct.2 < lo + m) → sm (fun x => wA s l W x * g x) m lo = sm (fun x => W x * g x) m lo + W s * sml g l := by
  intro l
  induction l with
  | nil => intro W _; show _ = _ + W s * 0; rw [Nat.mul_zero]; rfl
  | cons ct l ih =>
    intro W h
    have hc := h ct List.mem_cons_self
    rw [wA, ih _ fun x hx => h x (List.mem_cons_of_mem _ hx), sm_u m lo hc.1 hc.2, if_neg (by intro e; omega)]
    unfold sml
    rw [List.map_cons, List.sum_cons, Nat.mul_add]
    omega
/-- the edges of the states i .. i + m - 1 -/
def wB (ed : Int → List (Int × Int)) : Nat → Int → (Int → Nat) → Int → Nat
  | 0, _, W => W
  | m + 1, i, W => wB ed m (i + 1) (wA i (ed i) W)
theorem wB_o {ed : Int → List (Int × Int)} {x : Int} : ∀ (m : Nat) (i : Int) (W : Int → Nat), (∀ j : Int, i ≤ j → j < i + m → ∀ ct ∈ ed j, ¬ ct.2 = x) → wB ed m i W x = W x := by
  intro m
  induction m with
  | zero => intro i W _; rfl
  | succ m ih =>
    intro i W h
    rw [wB, ih (i + 1) _ fun j a b => h j (by omega) (by omega), wA_o _ _ (h i (Int.le_refl _) (by omega))]
theorem wB_sum {ed : Int → List (Int × Int)} {lo : Int} {k : Nat} {g : Int → Nat} : ∀ (m : Nat) (i : Int) (W : Int → Nat), i + m ≤ lo → (∀ j : Int, i ≤ j → j < i + m → ∀ ct ∈ ed j, lo ≤ ct.2 ∧ ct.2 < lo + k) → sm (fun x => wB ed m i W x * g x) k lo = sm (fun x => W x * g x) k lo + sm (fun x => W x * sml g (ed x)) m i := by
  intro m
  induction m with
  | zero => intro i W _ _; rfl
  | succ m ih =>
    intro i W hi h
    have h0 := h i (Int.le_refl _) (by omega)
    rw [wB, ih (i + 1) _ (by omega) fun j a b => h j (by omega) (by omega), wA_sum (by omega) (ed i) W h0]
    have e : sm (fun x => wA i (ed i) W x * sml g (ed x)) m (i + 1) = sm (fun x => W x * sml g (ed x)) m (i + 1) := sm_c m (i + 1) fun j a b => by
      rw [wA_o (ed i) W fun ct hc e => by have := h0 ct hc; omega]
    rw [e, sm]
    omega
/-! capped numbers -/
def cap (n : Nat) : Int := if (n : Int) < 1000000 then n else 1000000
theorem cap_rg (n : Nat) : 0 ≤ cap n ∧ cap n ≤ 1000000 := by unfold cap; split <;> omega
theorem cap_add (a b : Nat) : (if cap a + cap b < 1000000 then cap a + cap b else 1000000) = cap (a + b) := by
  unfold cap
  split <;> split <;> split <;> split <;> omega
theorem cap_add' (a b : Nat) : (if 1000000 < cap a + cap b then 1000000 else cap a + cap b) = cap (a + b) := by
  unfold cap
  split <;> split <;> split <;> split <;> omega
theorem cap_z (a : Nat) : cap a = 0 ↔ a = 0 := by unfold cap; split <;> omega
