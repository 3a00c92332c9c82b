/-! the first sixty ways, found level by level -/
theorem take_fm {α β : Type} {f : α → List β} : ∀ (n : Nat) (l : List α), (∀ x ∈ l, ¬ f x = []) → ((l.take n).flatMap f).take n = (l.flatMap f).take n := by
  intro n l
  induction l generalizing n with
  | nil => intro _; simp
  | cons x l ih =>
    intro h
    cases n with
    | zero => simp
    | succ n =>
      rw [List.take_succ_cons, List.flatMap_cons, List.flatMap_cons, List.take_append, List.take_append]
      congr 1
      have hx : 1 ≤ (f x).length := by
        have := h x List.mem_cons_self
        cases hf : f x with
        | nil => exact absurd hf this
        | cons a b => simp
      have ih' := ih n fun y hy => h y (List.mem_cons_of_mem _ hy)
      have e : ∀ L : List β, L.take (n + 1 - (f x).length) = (L.take n).take (n + 1 - (f x).length) := fun L => by rw [List.take_take, Nat.min_eq_left (by omega)]
      rw [e, e (l.flatMap f), ih']
/-- a way as one number -/
def enc : Int → List Int → Int
  | p, [] => p
  | p, c :: l => enc (p * 1024 + c) l
/-- a level of beginnings goes on -/
def grw (ed : Int → List (Int × Int)) (E : Int → Bool) (X : List (Int × Int)) : List (Int × Int) := X.flatMap fun ps => ((ed ps.2).filter fun ct => E ct.2).map fun ct => (ps.1 * 1024 + ct.1, ct.2)
def enX (Ed : Nat → Int → List (Int × Int)) (E : Int → Bool) (r : Nat) (X : List (Int × Int)) : List Int := X.flatMap fun ps => (pth Ed E r ps.2).map (enc ps.1)
theorem fm_f {α β : Type} {f : α → List β} {p : α → Bool} : ∀ l : List α, (∀ x ∈ l, p x = false → f x = []) → (l.filter p).flatMap f = l.flatMap f := by
  intro l
  induction l with
  | nil => intro _; rfl
  | cons x l ih =>
    intro h
    have ih' := ih fun y hy => h y (List.mem_cons_of_mem _ hy)
    cases hp : p x with
    | true => rw [List.filter_cons_of_pos hp, List.flatMap_cons, List.flatMap_cons, ih']
    | false => rw [List.filter_cons_of_neg (by rw [hp]; decide), List.flatMap_cons, ih', h x List.mem_cons_self hp, List.nil_append]
theorem enX_g {Ed : Nat → Int → List (Int × Int)} {E : Int → Bool} {r : Nat} {F : Int → Bool} (hF : ∀ t, F t = true ↔ ¬ pth Ed E r t = []) (X : List (Int × Int)) : enX Ed E r (grw (Ed r) F X) = enX Ed E (r + 1) X := by
  unfold enX grw
  rw [List.flatMap_assoc]
  congr 1
  funext ps
  rw [List.flatMap_map]
  show ((Ed r ps.2).filter fun ct => F ct.2).flatMap (fun ct => (pth Ed E r ct.2).map (enc (ps.1 * 1024 + ct.1))) = _
  have hn : ∀ ct ∈ Ed r ps.2, F ct.2 = false → (pth Ed E r ct.2).map (enc (ps.1 * 1024 + ct.1)) = [] := by
    intro ct _ h
    have : pth Ed E r ct.2 = [] := by
      refine Classical.byContradiction fun w => ?_
      have := (hF ct.2).2 w
      rw [h] at this; cases this
    rw [this]; rfl
  refine (fm_f (p := fun ct : Int × Int => F ct.2) (f := fun ct : Int × Int => (pth Ed E r ct.2).map (enc (ps.1 * 1024 + ct.1))) (Ed r ps.2) hn).trans ?_
  · show _ = ((Ed r ps.2).flatMap fun ct => (pth Ed E r ct.2).map fun p => ct.1 :: p).map (enc ps.1)
    rw [List.map_flatMap]
    congr 1
    funext ct
    rw [List.map_map]
    rfl
theorem enX_t {Ed : Nat → Int → List (Int × Int)} {E : Int → Bool} {r : Nat} {F : Int → Bool} (hF : ∀ t, F t = true ↔ ¬ pth Ed E r t = []) {X : List (Int × Int)} : (enX Ed E r ((grw (Ed r) F X).take 60)).take 60 = (enX Ed E (r + 1) X).take 60 := by
  rw [← enX_g hF]
  unfold enX
  refine take_fm 60 _ fun ps hp => ?_
  unfold grw at hp
  obtain ⟨qs, _, hq⟩ := List.mem_flatMap.mp hp
  obtain ⟨ct, hc, rfl⟩ := List.mem_map.mp hq
  have hc := (List.mem_filter.mp hc).2
  have := (hF ct.2).1 hc
  intro e
  exact this (List.map_eq_nil_iff.mp e)
/-- the beginnings, level by level -/
def tld (Ed : Nat → Int → List (Int × Int)) (F : Nat → Int → Bool) : Nat → List (Int × Int) → List (Int × Int)
  | 0, X => X
  | r + 1, X => tld Ed F r ((grw (Ed r) (F r) X).take 60)
theorem tld_ok {Ed : Nat → Int → List (Int × Int)} {E : Int → Bool} {F : Nat → Int → Bool} : ∀ (r : Nat) (X : List (Int × Int)), (∀ r' : Nat, r' < r → ∀ t, F r' t = true ↔ ¬ pth Ed E r' t = []) → (enX Ed E 0 (tld Ed F r X)).take 60 = (enX Ed E r X).take 60 := by
  intro r
  induction r with
  | zero => intro X _; rfl
  | succ r ih =>
    intro X h
    rw [tld, ih _ fun r' a b => h r' (by omega) b, enX_t (h r (by omega))]
/-- at the end the beginnings are the ways -/
theorem enX_0 {Ed : Nat → Int → List (Int × Int)} {E : Int → Bool} {X : List (Int × Int)} (h : ∀ ps ∈ X, E ps.2 = true) : enX Ed E 0 X = X.map fun ps => ps.1 := by
  unfold enX
  induction X with
  | nil => rfl
  | cons ps X ih =>
    rw [List.flatMap_cons, List.map_cons, ih fun q hq => h q (List.mem_cons_of_mem _ hq)]
    have : pth Ed E 0 ps.2 = [[]] := by show (if E ps.2 then [[]] else []) = _; rw [if_pos (h ps List.mem_cons_self)]
    rw [this]
    rfl
/-! the levels of a search -/
/-- one more level: 0 no room, 1 through -/
noncomputable def bF (two : Prop) (E : zSt → Prop) : Nat → Int → Int → bS → Int × bS × (Int → Int)
  | 0, l, lf, s => (zif (∃ i : Int, 0 ≤ i ∧ i < s.1 ∧ E (s.2 i)) l (-1), s, fun k => if k = l then lf else s.1)
  | m + 1, l, lf, s => zif (∃ i : Int, 0 ≤ i ∧ i < s.1 ∧ E (s.2 i)) (l, s, fun k => if k = l then lf else s.1)
      (if (bL two (s.1 - lf).toNat lf s).1 = 0 then (-3, (bL two (s.1 - lf).toNat lf s).2, fun k => if k = l then lf else s.1)
       else ((bF two E m (l + 1) s.1 (bL two (s.1 - lf).toNat lf s).2).1, (bF two E m (l + 1) s.1 (bL two (s.1 - lf).toNat lf s).2).2.1, fun k => if k = l then lf else (bF two E m (l + 1) s.1 (bL two (s.1 - lf).toNat lf s).2).2.2 k))
noncomputable def zB (p : Prop) : Bool := @decide p (Classical.propDecidable p)
theorem zB1 {p : Prop} : zB p = true ↔ p := by unfold zB; exact @decide_eq_true_iff p (Classical.propDecidable p)
noncomputable def eD (two : Prop) (s : bS) (lvl : Int → Int) (L : Int) (r : Nat) (t : Int) : List (Int × Int) := edP two (s.2 t) (lvl (L - r)) s 504
noncomputable def eE (E : zSt → Prop) (s : bS) (t : Int) : Bool := zB (E (s.2 t))
/-- what a search leaves: its answer, how many states, ends, ways; the ways told -/
noncomputable def fR (two : Prop) (E : zSt → Prop) (most : Nat) (P : zSt) : Int × Int × Int × Int × List (List Int) :=
  ((bF two E most 0 0 (1, fun _ => P)).1, (bF two E most 0 0 (1, fun _ => P)).2.1.1, zct (fun i => E ((bF two E most 0 0 (1, fun _ => P)).2.1.2 i)) (bF two E most 0 0 (1, fun _ => P)).2.1.1.toNat,
   if 0 ≤ (bF two E most 0 0 (1, fun _ => P)).1 then cap (pth (eD two (bF two E most 0 0 (1, fun _ => P)).2.1 (bF two E most 0 0 (1, fun _ => P)).2.2 (bF two E most 0 0 (1, fun _ => P)).1) (eE E (bF two E most 0 0 (1, fun _ => P)).2.1) (bF two E most 0 0 (1, fun _ => P)).1.toNat 0).length else 0,
   if 0 ≤ (bF two E most 0 0 (1, fun _ => P)).1 then (pth (eD two (bF two E most 0 0 (1, fun _ => P)).2.1 (bF two E most 0 0 (1, fun _ => P)).2.2 (bF two E most 0 0 (1, fun _ => P)).1) (eE E (bF two E most 0 0 (1, fun _ => P)).2.1) (bF two E most 0 0 (1, fun _ => P)).1.toNat 0).take 60 else [])
