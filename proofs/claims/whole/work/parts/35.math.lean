/-! tables as rows, columns and a function; what the class's tables are; stores into them -/
abbrev zTb : Type := Int × Int × (Int → Int → Int)
def isC (h : zH) (t : Int) (T : zTb) : Prop := h t 1 = T.1 ∧ h t 2 = T.2.1 ∧ ∀ r c : Int, 0 ≤ r → r < T.1 → 0 ≤ c → c < T.2.1 → h (t + 1) (r * T.2.1 + c) = T.2.2 r c
def okT (T : zTb) : Prop := (1 ≤ T.1 ∧ T.1 ≤ 12 ∧ 1 ≤ T.2.1 ∧ T.2.1 ≤ 6) ∧ ∀ r c : Int, 0 ≤ r → r < T.1 → 0 ≤ c → c < T.2.1 → -1 ≤ T.2.2 r c ∧ T.2.2 r c < 72057594037927936
/-- no ANY in it -/
def noA (T : zTb) : Prop := ∀ r c : Int, 0 ≤ r → r < T.1 → 0 ≤ c → c < T.2.1 → 0 ≤ T.2.2 r c
/-- as isC, of the cells that P names alone -/
def isP (h : zH) (t : Int) (T : zTb) (P : Int → Int → Prop) : Prop := h t 1 = T.1 ∧ h t 2 = T.2.1 ∧ ∀ r c : Int, 0 ≤ r → r < T.1 → 0 ≤ c → c < T.2.1 → P r c → h (t + 1) (r * T.2.1 + c) = T.2.2 r c
theorem isP.all {h : zH} {t : Int} {T : zTb} {P : Int → Int → Prop} (k : isP h t T P) (hp : ∀ r c : Int, 0 ≤ r → r < T.1 → 0 ≤ c → c < T.2.1 → P r c) : isC h t T := ⟨k.1, k.2.1, fun r c h1 h2 h3 h4 => k.2.2 r c h1 h2 h3 h4 (hp r c h1 h2 h3 h4)⟩
theorem isP.imp {h : zH} {t : Int} {T : zTb} {P P' : Int → Int → Prop} (k : isP h t T P) (hp : ∀ r c : Int, 0 ≤ r → r < T.1 → 0 ≤ c → c < T.2.1 → P' r c → P r c) : isP h t T P' := ⟨k.1, k.2.1, fun r c h1 h2 h3 h4 p => k.2.2 r c h1 h2 h3 h4 (hp r c h1 h2 h3 h4 p)⟩
theorem isC.P {h : zH} {t : Int} {T : zTb} (k : isC h t T) (P : Int → Int → Prop) : isP h t T P := ⟨k.1, k.2.1, fun r c h1 h2 h3 h4 _ => k.2.2 r c h1 h2 h3 h4⟩
theorem isC_okS {h : zH} {t : Int} {T : zTb} (k : isC h t T) (o : okT T) : okS h t := by
  unfold okS
  rw [k.1, k.2.1]; exact o.1
/-- a place of a row of cells is a row and a column -/
theorem ix_of {R C i : Int} (hC : 0 < C) (h0 : 0 ≤ i) (h1 : i < R * C) : ∃ r c : Int, 0 ≤ r ∧ r < R ∧ 0 ≤ c ∧ c < C ∧ i = r * C + c := by
  refine ⟨i / C, i % C, Int.ediv_nonneg h0 (by omega), Int.ediv_lt_of_lt_mul hC h1, Int.emod_nonneg _ (by omega), Int.emod_lt_of_pos _ hC, ?_⟩
  have := Int.mul_ediv_add_emod i C
  rw [Int.mul_comm] at this
  omega
theorem isC_okC {h : zH} {t : Int} {T : zTb} (k : isC h t T) (o : okT T) : okC h t := by
  intro i h0 h1
  rw [k.1, k.2.1] at h1
  obtain ⟨r, c, a1, a2, a3, a4, rfl⟩ := ix_of (by have := o.1; omega) h0 h1
  rw [k.2.2 r c a1 a2 a3 a4]
  exact o.2 r c a1 a2 a3 a4
theorem isC_keep {h h' : zH} {t : Int} {T : zTb} (k : isC h t T) (h1 : ∀ j, h' t j = h t j) (h2 : ∀ j, h' (t + 1) j = h (t + 1) j) : isC h' t T := ⟨by rw [h1]; exact k.1, by rw [h1]; exact k.2.1, fun r c a1 a2 a3 a4 => by rw [h2]; exact k.2.2 r c a1 a2 a3 a4⟩
theorem isP_put {h : zH} {t : Int} {T : zTb} {P : Int → Int → Prop} (k : isP h t T P) {r c v : Int} (h3 : 0 ≤ c) (h4 : c < T.2.1) (hv : v = T.2.2 r c) : isP (z_wr h (t + 1) (r * T.2.1 + c) v) t T (fun r' c' => P r' c' ∨ (r' = r ∧ c' = c)) := by
  have n0 : ¬ t = t + 1 := by omega
  refine ⟨by rw [w_na n0]; exact k.1, by rw [w_na n0]; exact k.2.1, fun r' c' a1 a2 a3 a4 p => ?_⟩
  by_cases e : r' = r ∧ c' = c
  · obtain ⟨rfl, rfl⟩ := e
    rw [w_s, hv]
  · rw [w_nj (fun q => e (ix_inj a3 a4 h3 h4 q))]
    rcases p with p | p
    · exact k.2.2 r' c' a1 a2 a3 a4 p
    · exact absurd p e
/-- the first n cells of a row, out of another table -/
theorem isP_cp {h : zH} {t u : Int} {T U : zTb} {P : Int → Int → Prop} (k : isP h t T P) (ku : isC h u U) {r q n : Int} (hn : n ≤ T.2.1) (hq : 0 ≤ q ∧ q < U.1) (hnu : n ≤ U.2.1) (hv : ∀ c : Int, 0 ≤ c → c < n → U.2.2 q c = T.2.2 r c) : isP (z_cp h (u + 1) (q * U.2.1) (t + 1) (r * T.2.1) n) t T (fun r' c' => P r' c' ∨ (r' = r ∧ c' < n)) := by
  have n0 : ¬ t = t + 1 := by omega
  refine ⟨by rw [c_na n0]; exact k.1, by rw [c_na n0]; exact k.2.1, fun r' c' a1 a2 a3 a4 p => ?_⟩
  unfold z_cp
  by_cases e : r' = r ∧ c' < n
  · obtain ⟨rfl, e⟩ := e
    rw [if_pos ⟨rfl, by omega, by omega⟩, show q * U.2.1 + (r' * T.2.1 + c' - r' * T.2.1) = q * U.2.1 + c' by omega, ku.2.2 q c' hq.1 hq.2 a3 (by omega)]
    exact hv c' a3 e
  · rw [if_neg]
    · rcases p with p | p
      · exact k.2.2 r' c' a1 a2 a3 a4 p
      · exact absurd p e
    · rintro ⟨-, b1, b2⟩
      have e2 : r' * T.2.1 + c' = r * T.2.1 + (r' * T.2.1 + c' - r * T.2.1) := by omega
      obtain ⟨e3, e4⟩ := ix_inj a3 a4 (by omega) (by omega) e2
      exact e ⟨e3, by omega⟩
/-- what a step may touch: the table o and the stepper's own rows -/
def frS (o : Int) (h h' : zH) : Prop := ∀ a j : Int, ¬ a = o → ¬ a = o + 1 → ¬ (13 ≤ a ∧ a ≤ 18) → h' a j = h a j
theorem frS.rf {o : Int} {h : zH} : frS o h h := fun _ _ _ _ _ => rfl
theorem frS.tr {o : Int} {h h1 h2 : zH} (a : frS o h h1) (b : frS o h1 h2) : frS o h h2 := fun x j n1 n2 n3 => (b x j n1 n2 n3).trans (a x j n1 n2 n3)
theorem frS.w {o : Int} {h h1 : zH} (a : frS o h h1) {b i v : Int} (hb : b = o ∨ b = o + 1 ∨ (13 ≤ b ∧ b ≤ 18)) : frS o h (z_wr h1 b i v) := fun x j n1 n2 n3 => by
  rw [w_na (fun e => by subst e; rcases hb with e | e | e; exact n1 e; exact n2 e; exact n3 e)]
  exact a x j n1 n2 n3
theorem frS.c {o : Int} {h h1 : zH} (a : frS o h h1) {u sp b dp n : Int} (hb : b = o ∨ b = o + 1 ∨ (13 ≤ b ∧ b ≤ 18)) : frS o h (z_cp h1 u sp b dp n) := fun x j n1 n2 n3 => by
  rw [c_na (fun e => by subst e; rcases hb with e | e | e; exact n1 e; exact n2 e; exact n3 e)]
  exact a x j n1 n2 n3
/-- in and out of a step, apart -/
def apS (G : zG) (i o : Int) : Prop := z_is G i 3 ∧ z_is G o 3 ∧ ¬ i = o ∧ ¬ i = o + 1 ∧ ¬ i + 1 = o ∧ ¬ (13 ≤ i ∧ i ≤ 18) ∧ ¬ (13 ≤ i + 1 ∧ i + 1 ≤ 18) ∧ ¬ (13 ≤ o ∧ o ≤ 18) ∧ ¬ (13 ≤ o + 1 ∧ o + 1 ≤ 18)
theorem lay.ap {G : zG} {h : zH} (hl : lay G h) {i o : Int} (ti : z_is G i 3) (to : z_is G o 3) (hne : ¬ i = o) : apS G i o := by
  have scr : ∀ a : Int, (13 ≤ a ∧ a ≤ 18) → z_is G a 50 := by
    intro a ha
    have : a = 13 ∨ a = 14 ∨ a = 15 ∨ a = 16 ∨ a = 17 ∨ a = 18 := by omega
    rcases this with rfl | rfl | rfl | rfl | rfl | rfl
    · exact hl.i 13 (by decide) rfl
    · exact hl.i 14 (by decide) rfl
    · exact hl.i 15 (by decide) rfl
    · exact hl.i 16 (by decide) rfl
    · exact hl.i 17 (by decide) rfl
    · exact hl.i 18 (by decide) rfl
  exact ⟨ti, to, hne, z_isne ti (hl.ti to) (by decide), fun e => z_isne (hl.ti ti) to (by decide) e, fun q => z_isne ti (scr _ q) (by decide) rfl, fun q => z_isne (hl.ti ti) (scr _ q) (by decide) rfl, fun q => z_isne to (scr _ q) (by decide) rfl, fun q => z_isne (hl.ti to) (scr _ q) (by decide) rfl⟩
theorem isC_fr {G : zG} {i o : Int} {h h' : zH} {T : zTb} (ap : apS G i o) (k : isC h i T) (f : frS o h h') : isC h' i T := by
  obtain ⟨-, -, a1, a2, a3, a4, a5, -⟩ := ap
  exact isC_keep k (fun j => f i j a1 a2 a4) (fun j => f (i + 1) j a3 (by omega) a5)
/-- what comes of a step done from i into o -/
def pC (G : zG) (o : Int) (h : zH) (res : Option zTb) : zO → zG → zH → Prop := fun out G' h' => G' = G ∧ frS o h h' ∧ match res with
  | some T => out = .inl (some (0, 1)) ∧ isC h' o T
  | none => out = .inl (some (0, 0))
noncomputable def zif {α : Type} (p : Prop) (a b : α) : α := @ite α p (Classical.propDecidable p) a b
theorem zif1 {α : Type} {p : Prop} {a b : α} (h : p) : zif p a b = a := by simp [zif, h]
theorem zif0 {α : Type} {p : Prop} {a b : α} (h : ¬ p) : zif p a b = b := by simp [zif, h]
/-! the steps -/
noncomputable def sTurn (T : zTb) : Option zTb := zif (T.1 ≤ 6) (some (T.2.1, T.1, fun r c => T.2.2 c r)) none
noncomputable def sDrop (a : Int) (T : zTb) : Option zTb := zif (2 ≤ T.2.1) (some (T.1, T.2.1 - 1, fun r c => if c < a then T.2.2 r c else T.2.2 r (c + 1))) none
def zmp (b v : Int) : Int := zbh (zlen v).toNat v (zmb b)
def spA (b v : Int) : Int := if zmp b v = -1 then v else v / 256 ^ (zmp b v + 1).toNat
def spB (b v : Int) : Int := if zmp b v = -1 then 0 else v % 256 ^ (zmp b v).toNat
noncomputable def sSplit (a b : Int) (T : zTb) : Option zTb := zif (T.2.1 ≤ 5 ∧ ∃ r : Int, 0 ≤ r ∧ r < T.1 ∧ ¬ zmp b (T.2.2 r a) = -1) (some (T.1, T.2.1 + 1, fun r c => if c < a then T.2.2 r c else if c = a then spA b (T.2.2 r a) else if c = a + 1 then spB b (T.2.2 r a) else T.2.2 r (c - 1))) none
def zfl (f : Int → Int) : Nat → Int
  | 0 => f 0
  | n + 1 => if f (n + 1) = 0 then zfl f n else f (n + 1)
noncomputable def sFill (a : Int) (T : zTb) : Option zTb := zif (∃ r : Int, 1 ≤ r ∧ r < T.1 ∧ T.2.2 r a = 0 ∧ ¬ zfl (fun r => T.2.2 r a) (r - 1).toNat = 0) (some (T.1, T.2.1, fun r c => if c = a then zfl (fun r => T.2.2 r a) r.toNat else T.2.2 r c)) none
def zjn (b v w : Int) : Int := (v * 256 + zmb b) * 256 ^ (zlen w).toNat + w
noncomputable def sJoin (a b : Int) (T : zTb) : Option zTb := zif (∀ r : Int, 0 ≤ r → r < T.1 → zlen (T.2.2 r a) + 1 + zlen (T.2.2 r (a + 1)) ≤ 7) (some (T.1, T.2.1 - 1, fun r c => if c < a then T.2.2 r c else if c = a then zjn b (T.2.2 r a) (T.2.2 r (a + 1)) else T.2.2 r (c + 1))) none
noncomputable def sFold (a : Int) (T : zTb) : Option zTb := zif (2 ≤ T.1 ∧ (T.1 - 1) * (T.2.1 - a) ≤ 12 ∧ a ≤ 4) (some ((T.1 - 1) * (T.2.1 - a), a + 2, fun k c => if c < a then T.2.2 (1 + k / (T.2.1 - a)) c else if c = a then T.2.2 0 (a + k % (T.2.1 - a)) else T.2.2 (1 + k / (T.2.1 - a)) (a + k % (T.2.1 - a)))) none
noncomputable def sHead (T : zTb) : Option zTb := zif (2 ≤ T.1) (some (T.1 - 1, T.2.1, fun r c => T.2.2 (r + 1) c)) none
def sSwap (a : Int) (T : zTb) : Option zTb := some (T.1, T.2.1, fun r c => if c = a then T.2.2 r (a + 1) else if c = a + 1 then T.2.2 r a else T.2.2 r c)
