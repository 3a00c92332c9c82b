/-! a level of the search -/
theorem sm_z {f : Int → Nat} : ∀ (m : Nat) (i : Int), (∀ j : Int, i ≤ j → j < i + m → f j = 0) → sm f m i = 0 := by
  intro m
  induction m with
  | zero => intro i _; rfl
  | succ m ih => intro i k; rw [sm, k i (Int.le_refl _) (by omega), ih (i + 1) fun j a b => k j (by omega) (by omega)]
theorem sm_ap {f : Int → Nat} : ∀ (m k : Nat) (i : Int), sm f (m + k) i = sm f m i + sm f k (i + m) := by
  intro m
  induction m with
  | zero => intro k i; rw [Nat.zero_add, show i + ((0 : Nat) : Int) = i by omega]; show _ = 0 + _; omega
  | succ m ih =>
    intro k i
    rw [show m + 1 + k = (m + k) + 1 by omega, sm, sm, ih k (i + 1), show i + 1 + (m : Int) = i + ((m + 1 : Nat) : Int) by omega]
    omega
theorem edP_tg {two : Prop} {P : zSt} {lv : Int} {s : bS} (l0 : 0 ≤ lv) : ∀ (e : Nat) (ct : Int × Int), ct ∈ edP two P lv s e → lv ≤ ct.2 ∧ ct.2 < s.1 := by
  intro e
  induction e with
  | zero => intro ct h; cases h
  | succ e ih =>
    intro ct h
    rw [edP] at h
    rcases List.mem_append.mp h with q | q
    · exact ih ct q
    · unfold edI at q
      split at q
      · cases q
      · split at q
        · rename_i Q hQ z
          have e := List.mem_singleton.mp q
          subst e
          refine ⟨z, ?_⟩
          show idx s Q < s.1
          rcases idx_rg s Q with w | w
          · omega
          · exact w.2.1.1
        · cases q
theorem lv_mono {lvl : Int → Int} {l : Int} (k : ∀ k : Int, 0 ≤ k → k ≤ l → lvl k ≤ lvl (k + 1)) : ∀ (m : Nat) (a : Int), 0 ≤ a → a + m ≤ l + 1 → lvl a ≤ lvl (a + m) := by
  intro m
  induction m with
  | zero => intro a _ _; rw [show a + ((0 : Nat) : Int) = a by omega]; exact Int.le_refl _
  | succ m ih =>
    intro a a0 a1
    have := ih a a0 (by omega)
    have := k (a + m) (by omega) (by omega)
    rw [show a + ((m + 1 : Nat) : Int) = a + m + 1 by omega]
    omega
def frZ (G : zG) (h : zH) (G' : zG) (h' : zH) : Prop := ext G G' ∧ ∀ b j : Int, b < 114 → ¬ (b = 33 ∧ (j = 11 ∨ j = 12 ∨ j = 14 ∨ j = 15)) → ¬ (48 ≤ b ∧ b ≤ 50) → ¬ (34 ≤ b ∧ b ≤ 41) → ¬ (13 ≤ b ∧ b ≤ 18) → h' b j = h b j
theorem frZ.rf {G : zG} {h : zH} : frZ G h G h := ⟨ext.rf, fun _ _ _ _ _ _ _ => rfl⟩
theorem frZ.tr {G G1 G2 : zG} {h h1 h2 : zH} (a : frZ G h G1 h1) (b : frZ G1 h1 G2 h2) : frZ G h G2 h2 := ⟨a.1.tr b.1, fun x j p q r t u => (b.2 x j p q r t u).trans (a.2 x j p q r t u)⟩
theorem frX.Z {s0 : bS} {q : Int} {G G' : zG} {h h' : zH} (a : frX s0 q G h G' h') : frZ G h G' h' := ⟨a.1, a.2.1⟩
/-- how many ways lead to a level's States, whatever comes of them -/
def lvI (two : Prop) (lvl : Int → Int) (l : Int) (s : bS) (w : Int → Nat) : Prop := ∀ (r : Nat) (Edf : Nat → Int → List (Int × Int)) (E : Int → Bool), (∀ l' : Int, 0 ≤ l' → l' < l → ∀ i : Int, lvl l' ≤ i → i < lvl (l' + 1) → Edf (r + (l - l' - 1).toNat) i = edP two (s.2 i) (lvl (l' + 1)) s 504) → sm (fun x => w x * (pth Edf E r x).length) (s.1 - lvl l).toNat (lvl l) = (pth Edf E (r + l.toNat) 0).length
/-- the edges of the States before i -/
def edB (two : Prop) (lvl : Int → Int) (l : Int) (s : bS) (h : zH) (i : Int) : Prop := ∀ l' : Int, 0 ≤ l' → l' ≤ l → ∀ j : Int, lvl l' ≤ j → j < lvl (l' + 1) → j < i → edE h (h 48 j) (edP two (s.2 j) (lvl (l' + 1)) s 504) ∧ edK two (s.2 j) s 504
def tgB (two : Prop) (lvl : Int → Int) (l : Int) (s : bS) : Prop := ∀ l' : Int, 0 ≤ l' → l' < l → ∀ j : Int, lvl l' ≤ j → j < lvl (l' + 1) → ∀ ct ∈ edP two (s.2 j) (lvl (l' + 1)) s 504, ct.2 < lvl (l' + 2)
def lvO (lvl : Int → Int) (l : Int) : Prop := 0 ≤ l ∧ lvl 0 = 0 ∧ ∀ k : Int, 0 ≤ k → k ≤ l → lvl k ≤ lvl (k + 1)
theorem lvO.mo {lvl : Int → Int} {l : Int} (o : lvO lvl l) {a b : Int} (a0 : 0 ≤ a) (ab : a ≤ b) (b1 : b ≤ l + 1) : lvl a ≤ lvl b := by
  have := lv_mono o.2.2 (b - a).toNat a a0 (by omega)
  rw [show a + ((b - a).toNat : Int) = b by omega] at this
  exact this
def skI (two : Prop) (W V B : zTb) (lvl : Int → Int) (l : Int) (s : bS) (w : Int → Nat) (G : zG) (h : zH) : Prop := SI two W V B G h s w ∧ (lvO lvl l ∧ lvl (l + 1) = s.1) ∧ lvI two lvl l s w ∧ edB two lvl l s h (lvl l) ∧ tgB two lvl l s ∧ h 33 12 ≤ 504 * lvl l
section Lev
variable {D : zD} {d : Nat} {G G1 G2 G0 : zG} {h h1 h2 h0 : zH} {two : Prop} {W V B : zTb} {Q : zO → zG → zH → Prop}
theorem edB_ex {lvl : Int → Int} {l i : Int} {s s' : bS} (o : lvO lvl l) (n1 : lvl (l + 1) ≤ s.1) (b : edB two lvl l s h i) (x : exS s s') (il : lvl l ≤ i ∧ i < lvl (l + 1)) (f : frX s i G h G1 h1) (en : edE h1 (h 48 i) (edP two (s.2 i) (lvl (l + 1)) s' 504)) (ek : edK two (s.2 i) s' 504) : edB two lvl l s' h1 (i + 1) := by
  intro l' l0 l1 j j0 j1 ji
  have j00 : 0 ≤ j := by
    have := o.mo (Int.le_refl 0) l0 (by omega)
    rw [o.2.1] at this; omega
  have js : j < s.1 := by
    have := o.mo (a := l' + 1) (b := l + 1) (by omega) (by omega) (by omega)
    omega
  rw [x.2 j j00 js, (f.2.2.1 j j00 js).1]
  by_cases z : j = i
  · subst z
    have : l' = l := by
      refine Classical.byContradiction fun w => ?_
      have := o.mo (a := l' + 1) (b := l) (by omega) (by omega) (by omega)
      omega
    subst this
    exact ⟨en, ek⟩
  · obtain ⟨⟨y1, y2, y3, y4⟩, y5⟩ := b l' l0 l1 j j0 j1 (by omega)
    rw [edP_ex x 504 y5]
    have f7 := (f.2.2.1 j j00 js).2 7 (by omega) (by omega)
    have f8 := (f.2.2.1 j j00 js).2 8 (by omega) (by omega)
    refine ⟨⟨by rw [f7]; exact y1, by rw [f7, f8]; exact y2, by rw [f8]; exact Int.le_trans y3 f.2.2.2.2, fun k ct hk => ?_⟩, edK_ex x y5⟩
    have lk := (List.getElem?_eq_some_iff.mp hk).1
    rw [f7, f.2.2.2.1 _ (by omega) (by omega)]
    exact y4 k ct hk
/-- within a level, State i next -/
def inI (two : Prop) (W V B : zTb) (lvl : Int → Int) (l : Int) (s0 : bS) (w0 : Int → Nat) (RL : Int × bS) (i : Int) (s : bS) (w : Int → Nat) (G : zG) (h : zH) : Prop :=
  SI two W V B G h s w ∧ exS s0 s ∧ bL two (lvl (l + 1) - i).toNat i s = RL ∧ (∀ x : Int, x < lvl (l + 1) → w x = w0 x) ∧ (∀ g : Int → Nat, sm (fun x => w x * g x) (s.1 - lvl (l + 1)).toNat (lvl (l + 1)) = sm (fun x => w0 x * sml g (edP two (s.2 x) (lvl (l + 1)) s 504)) (i - lvl l).toNat (lvl l)) ∧ edB two lvl l s h i ∧ h 33 12 ≤ 504 * i
theorem inI_s {lvl : Int → Int} {l i : Int} {s0 s : bS} {w0 w : Int → Nat} {RL : Int × bS} (o : lvO lvl l) (e0 : lvl (l + 1) = s0.1) (x : inI two W V B lvl l s0 w0 RL i s w G h) (i0 : lvl l ≤ i) (i1 : i < lvl (l + 1)) {out : zO} (q : exQ two W V B (s.2 i) i (lvl (l + 1)) w s G h (bX two (s.2 i) 504 0 s) out G1 h1) :
    (RL.1 = 0 ∧ out = .inl (some (0, 0)) ∧ ∃ w', SI two W V B G1 h1 RL.2 w') ∨ (out = .inl (some (0, 1)) ∧ inI two W V B lvl l s0 w0 RL (i + 1) (bX two (s.2 i) 504 0 s).2 (wA i (edP two (s.2 i) (lvl (l + 1)) (bX two (s.2 i) 504 0 s).2 504) w) G1 h1) := by
  obtain ⟨x1, x2, x3, x4, x5, x6, x7⟩ := x
  obtain ⟨⟨n, ss⟩, -, -, -, -, -, -, wz, -, -⟩ := id x1
  have sr := ss.2.1
  have p1 := ss.1.1
  have l00 := o.mo (Int.le_refl 0) o.1 (by omega)
  rw [o.2.1] at l00
  have i00 : 0 ≤ i := by omega
  have is : i < s.1 := by have := x2.1; omega
  have bp := bX_p (two := two) (P := s.2 i) 504 0 s (by omega)
  have em : (lvl (l + 1) - i).toNat = (lvl (l + 1) - (i + 1)).toNat + 1 := by omega
  rw [em, bL] at x3
  obtain ⟨fX, q⟩ := q
  rcases q with ⟨q1, q2, w', q3⟩ | ⟨q1, q2, q3, q4, q5⟩
  · left
    rw [if_pos q1] at x3
    rw [← x3]
    exact ⟨q1, q2, w', q3⟩
  · right
    rw [if_neg (by rw [q1]; decide)] at x3
    have eK := bX_K (two := two) (P := s.2 i) 504 0 s sr.1 (by omega) (fun j a b => by omega) q1
    rw [show (0 : Int) + ((504 : Nat) : Int) = 504 by omega] at eK
    generalize hS : (bX two (s.2 i) 504 0 s).2 = s' at *
    have bp1 := bp.1
    have tg : ∀ ct ∈ edP two (s.2 i) (lvl (l + 1)) s' 504, lvl (l + 1) ≤ ct.2 ∧ ct.2 < s'.1 := fun ct hc => edP_tg (by omega) 504 ct hc
    have s01 := x2.1
    refine ⟨q2, q3, x2.tr bp1, x3, fun y y1 => ?_, fun g => ?_, edB_ex o (by omega) x6 bp1 ⟨i0, i1⟩ fX q4 eK, by omega⟩
    · rw [wA_o _ _ (fun ct hc e => by have := tg ct hc; omega)]; exact x4 y y1
    · have b1 := bp1.1
      rw [wA_sum (lo := lvl (l + 1)) (m := (s'.1 - lvl (l + 1)).toNat) (g := g) (by omega) _ _ (fun ct hc => by have := tg ct hc; omega)]
      rw [show (i + 1 - lvl l).toNat = (i - lvl l).toNat + 1 by omega, sm_ap]
      have c1 : sm (fun x => w x * g x) (s'.1 - lvl (l + 1)).toNat (lvl (l + 1)) = sm (fun x => w x * g x) (s.1 - lvl (l + 1)).toNat (lvl (l + 1)) := by
        rw [show (s'.1 - lvl (l + 1)).toNat = (s.1 - lvl (l + 1)).toNat + (s'.1 - s.1).toNat by omega, sm_ap, sm_z (s'.1 - s.1).toNat _ fun j a b => ?_]
        · rfl
        · rw [wz j (by omega), Nat.zero_mul]
      have c2 : sm (fun x => w0 x * sml g (edP two (s'.2 x) (lvl (l + 1)) s' 504)) (i - lvl l).toNat (lvl l) = sm (fun x => w0 x * sml g (edP two (s.2 x) (lvl (l + 1)) s 504)) (i - lvl l).toNat (lvl l) := by
        refine sm_c _ _ fun j a b => ?_
        have k := (x6 l o.1 (Int.le_refl _) j a (by omega) (by omega)).2
        rw [bp1.2 j (by omega) (by omega), edP_ex bp1 504 k]
      have c3 : sm (fun x => w0 x * sml g (edP two (s'.2 x) (lvl (l + 1)) s' 504)) 1 (lvl l + ((i - lvl l).toNat : Int)) = w i * sml g (edP two (s.2 i) (lvl (l + 1)) s' 504) := by
        rw [show lvl l + ((i - lvl l).toNat : Int) = i by omega, sm, sm, Nat.add_zero, bp1.2 i i00 is, x4 i i1]
      rw [c1, x5 g, c2, c3]
end Lev
