section Aok
variable {S : zA}
theorem aok_T (o : aok S) {t : Int} {U : zTb} (oU : okT U) : aok (puT S t U) := ⟨⟨fun i i0 i8 => by
  show okT (if i = t then U else S.1 i)
  split
  · exact oU
  · exact o.1.1 i i0 i8, o.1.2⟩, o.2⟩
theorem aok_W (o : aok S) {t : Int} {U : zWy} (oU : okW U) : aok (puW S t U) := ⟨⟨o.1.1, fun i i0 i8 => by
  show okW (if i = t then U else S.2.1 i)
  split
  · exact oU
  · exact o.1.2 i i0 i8⟩, o.2⟩
theorem aok_G (o : aok S) {g : Int → Int} {n : Int} (hg : ∀ j : Int, -128 ≤ g j ∧ g j ≤ 127) (n0 : 0 ≤ n) (n1 : n ≤ 1000) : aok (puG S g n) := ⟨o.1, ⟨hg, n0, n1⟩, o.2.2⟩
theorem aok_R (o : aok S) {r : Int × Int × Int × Int × List (List Int)} (a : okF r) (b : r.1 ≤ 3) : aok (puR S r) := ⟨o.1, o.2.1, a, b⟩
theorem lb1_ok {p : (Int → Int) × Int} {v k : Int} (h : ∀ j : Int, -128 ≤ p.1 j ∧ p.1 j ≤ 127) : ∀ j : Int, -128 ≤ (lb1 p v k).1 j ∧ (lb1 p v k).1 j ≤ 127 := fun j => by
  show -128 ≤ (if j = p.2 then w8 (w8 (z_ishr v k)) else p.1 j) ∧ (if j = p.2 then w8 (w8 (z_ishr v k)) else p.1 j) ≤ 127
  split
  · unfold w8; omega
  · exact h j
theorem lb4_ok {p : (Int → Int) × Int} {v : Int} (h : ∀ j : Int, -128 ≤ p.1 j ∧ p.1 j ≤ 127) : ∀ j : Int, -128 ≤ (lb4 p v).1 j ∧ (lb4 p v).1 j ≤ 127 := lb1_ok (lb1_ok (lb1_ok (lb1_ok h)))
theorem aok_feed (o : aok S) (a b c e f : Int) : aok (q_feed a b c e f S).2 := by
  obtain ⟨hg, n0, n1⟩ := o.2.1
  unfold q_feed
  split
  · refine aok_G o (lb4_ok (lb4_ok (lb4_ok (lb4_ok (lb4_ok hg))))) ?_ ?_ <;> rw [lb4_n, lb4_n, lb4_n, lb4_n, lb4_n] <;> omega
  · exact o
theorem aok_end (o : aok S) (k : Int) : aok (q_end k S).2 := by
  obtain ⟨hg, n0, n1⟩ := o.2.1
  unfold q_end
  split
  · next w => exact aok_G o hg w.1 (by omega)
  · exact o
theorem aok_table (o : aok S) (t : Int) : aok (q_table t S).2 := by
  unfold q_table
  split
  · split
    · next w => exact aok_T (aok_f o _ _) (q_tr_ok o w)
    · exact aok_f o _ _
  · exact aok_G o o.2.1.1 (by decide) (by decide)
theorem aok_way (o : aok S) (t : Int) : aok (q_way t S).2 := by
  unfold q_way
  split
  · split
    · exact aok_W (aok_f o _ _) q_wr_ok
    · exact aok_f o _ _
  · exact aok_G o o.2.1.1 (by decide) (by decide)
theorem aok_copy (o : aok S) (t u : Int) : aok (q_copy t u S).2 := by
  unfold q_copy
  split
  · next w => exact aok_T o (o.1.1 t w.1.1 (by omega))
  · exact o
theorem aok_step (o : aok S) (t n a b : Int) : aok (q_step t n a b S).2 := by
  unfold q_step
  split
  · next w =>
    have oT := o.1.1 t w.1.1 (by omega)
    cases e : sMake n a b (S.1 t) with
    | none => exact o
    | some U => exact aok_T o (sMake_ok oT e).1
  · exact o
theorem aok_walk (o : aok S) (w t u : Int) : aok (q_walk w t u S).2 := by
  unfold q_walk
  split
  · next y =>
    split
    · exact aok_T o (wkR_ok _ _ _ (o.1.1 t y.2.1.1 (by omega)))
    · exact o
  · exact o
theorem aok_chain (o : aok S) (w v u : Int) : aok (q_chain w v u S).2 := by
  unfold q_chain
  split
  · next y =>
    split
    · next l =>
      have oV := o.1.2 v y.2.1.1 (by omega)
      exact aok_W o (chK_ok (o.1.2 w y.1.1 (by omega)) oV oV.1 (Int.le_refl _) l)
    · exact o
  · exact o
theorem bF_le {two : Prop} {E : zSt → Prop} : ∀ (m : Nat) (l lf : Int) (s : bS), 0 ≤ l → (bF two E m l lf s).1 ≤ l + m := by
  intro m
  induction m with
  | zero =>
    intro l lf s l0
    rw [bF]
    show zif _ l (-1) ≤ l + (0 : Nat)
    unfold zif
    split <;> omega
  | succ m ih =>
    intro l lf s l0
    rw [bF]
    unfold zif
    split
    · show l ≤ _; omega
    · split
      · show (-3 : Int) ≤ _; omega
      · have := ih (l + 1) s.1 (bL two (s.1 - lf).toNat lf s).2 (by omega)
        show (bF two E m (l + 1) s.1 (bL two (s.1 - lf).toNat lf s).2).1 ≤ _
        omega
theorem aok_fd (o : aok S) {two : Prop} {t w u v : zTb} {most : Int} (m0 : 0 ≤ most) (m3 : most ≤ 3) : aok (q_fd two t w u v most S).2 := by
  refine aok_R o fRR_ok ?_
  have := bF_le (two := two) (E := eW w v) most.toNat 0 0 (1, fun _ => (t, u)) (Int.le_refl 0)
  show (bF two (eW w v) most.toNat 0 0 (1, fun _ => (t, u))).1 ≤ 3
  omega
theorem aok_find (o : aok S) (t w u v most : Int) : aok (q_find t w u v most S).2 := by
  unfold q_find
  split
  · next y =>
    split
    · exact aok_fd o y.2.2.1 y.2.2.2
    · split
      · exact aok_fd o y.2.2.1 y.2.2.2
      · exact o
  · exact o
theorem aok_take (o : aok S) (i w : Int) : aok (q_take i w S).2 := by
  unfold q_take
  split
  · cases e : q_tkp i S with
    | none => exact o
    | some p =>
      refine aok_W o ?_
      have hp : p ∈ S.2.2.2.2.2.2.2.2 := by
        unfold q_tkp at e
        by_cases z : 0 ≤ i
        · rw [if_pos z] at e; exact List.mem_of_getElem? e
        · rw [if_neg z] at e; cases e
      obtain ⟨a, b, c⟩ := o.2.2.1.2 p hp
      have r3 := o.2.2.2
      refine ⟨by show (0 : Int) ≤ p.length; omega, by show (p.length : Int) ≤ 12; omega, fun k k0 k1 => ?_⟩
      have k1 : k < (p.length : Int) := k1
      have kl : k.toNat < p.length := by omega
      show 64 ≤ p.getD k.toNat 0 ∧ p.getD k.toNat 0 < 960
      rw [List.getD_eq_getElem?_getD, List.getElem?_eq_getElem kl]
      exact c _ (List.getElem_mem kl)
  · exact o
theorem pin_ok {W V : zWy} {n c : Int} (n1 : 1 ≤ n) (n2 : n ≤ 2) (c1 : 1 ≤ c) (c3 : c ≤ 3) : ∀ (m : Nat) (x t : Int), okT (pin W V n c m x t).2.2 := by
  intro m
  induction m with
  | zero => intro x t; exact zBl_ok
  | succ m ih =>
    intro x t
    by_cases e : t = 1000
    · rw [pin_f e]; exact zBl_ok
    · by_cases p : pts W V (liT n c x)
      · rw [pin_y e p]; exact liT_ok n1 n2 c1 c3
      · rw [pin_n e p]; exact ih _ _
theorem aok_pf (o : aok S) {u : Int} {a : Int × Int × zTb} {k : Int → Int × zA} (oa : okT a.2.2) (ok : ∀ t, aok (k t).2) : aok (pfin S u a k).2 := by
  unfold pfin
  split
  · exact aok_T o oa
  · split
    · exact o
    · exact ok _
theorem aok_part (o : aok S) (w v c r u : Int) : aok (q_part w v c r u S).2 := by
  unfold q_part
  split
  · next y =>
    refine aok_pf o (pin_ok (by decide) (by decide) y.2.2.2.1.1 y.2.2.2.1.2 _ _ _) fun t => ?_
    split
    · exact o
    · exact aok_pf o (pin_ok (by decide) (by decide) y.2.2.2.1.1 y.2.2.2.1.2 _ _ _) fun _ => o
  · exact o
end Aok
