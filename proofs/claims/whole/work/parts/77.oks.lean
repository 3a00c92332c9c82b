/-! what a step makes is a table, without an ANY -/
theorem zifS {p : Prop} {x U : zTb} (e : zif p (some x) none = some U) : p ∧ x = U := by
  by_cases w : p
  · rw [zif1 w] at e; exact ⟨w, Option.some.inj e⟩
  · rw [zif0 w] at e; cases e
theorem ok_mk {U : zTb} (s : shT U) (v : ∀ r c : Int, 0 ≤ r → r < U.1 → 0 ≤ c → c < U.2.1 → 0 ≤ U.2.2 r c ∧ U.2.2 r c < 72057594037927936) : okT U ∧ noA U :=
  ⟨⟨s, fun r c a1 a2 a3 a4 => by have := v r c a1 a2 a3 a4; omega⟩, fun r c a1 a2 a3 a4 => (v r c a1 a2 a3 a4).1⟩
def okV (T : zTb) : Prop := ∀ r c : Int, 0 ≤ r → r < T.1 → 0 ≤ c → c < T.2.1 → 0 ≤ T.2.2 r c ∧ T.2.2 r c < 72057594037927936
theorem okV_of {T : zTb} (oT : okT T) (nT : noA T) : okV T := fun r c a1 a2 a3 a4 => ⟨nT r c a1 a2 a3 a4, (oT.2 r c a1 a2 a3 a4).2⟩
theorem ok_turn {T U : zTb} (s : shT T) (v : okV T) (e : sTurn T = some U) : okT U ∧ noA U := by
  obtain ⟨p, rfl⟩ := zifS e
  unfold shT at s
  exact ok_mk ⟨s.2.2.1, by show T.2.1 ≤ 12; omega, s.1, p⟩ (fun r c a1 a2 a3 a4 => v c r a3 a4 a1 a2)
theorem ok_drop {T U : zTb} {a : Int} (s : shT T) (v : okV T) (ha : 0 ≤ a ∧ a < T.2.1) (e : sDrop a T = some U) : okT U ∧ noA U := by
  obtain ⟨p, rfl⟩ := zifS e
  unfold shT at s
  refine ok_mk ⟨s.1, s.2.1, by show 1 ≤ T.2.1 - 1; omega, by show T.2.1 - 1 ≤ 6; omega⟩ (fun r c a1 a2 a3 a4 => ?_)
  dsimp only at a2 a4 ⊢
  split
  · exact v r c a1 a2 a3 (by omega)
  · exact v r (c + 1) a1 a2 (by omega) (by omega)
theorem ok_split {T U : zTb} {a b : Int} (s : shT T) (v : okV T) (ha : 0 ≤ a ∧ a < T.2.1) (e : sSplit a b T = some U) : okT U ∧ noA U := by
  obtain ⟨p, rfl⟩ := zifS e
  unfold shT at s
  refine ok_mk ⟨s.1, s.2.1, by show 1 ≤ T.2.1 + 1; omega, by show T.2.1 + 1 ≤ 6; omega⟩ (fun r c a1 a2 a3 a4 => ?_)
  dsimp only at a2 a4 ⊢
  have q := v r a a1 a2 ha.1 ha.2
  split
  · exact v r c a1 a2 a3 (by omega)
  · split
    · exact spA_rg q.1 q.2
    · split
      · exact spB_rg q.1 q.2
      · exact v r (c - 1) a1 a2 (by omega) (by omega)
theorem ok_fill {T U : zTb} {a : Int} (s : shT T) (v : okV T) (ha : 0 ≤ a ∧ a < T.2.1) (e : sFill a T = some U) : okT U ∧ noA U := by
  obtain ⟨p, rfl⟩ := zifS e
  refine ok_mk s (fun r c a1 a2 a3 a4 => ?_)
  dsimp only at a2 a4 ⊢
  split
  · exact zfl_all (P := fun x => 0 ≤ x ∧ x < 72057594037927936) r.toNat (fun q q0 q1 => v q a q0 (by omega) ha.1 ha.2)
  · exact v r c a1 a2 a3 a4
theorem ok_join {T U : zTb} {a b : Int} (s : shT T) (v : okV T) (ha : 0 ≤ a ∧ a + 1 < T.2.1) (e : sJoin a b T = some U) : okT U ∧ noA U := by
  obtain ⟨p, rfl⟩ := zifS e
  unfold shT at s
  refine ok_mk ⟨s.1, s.2.1, by show 1 ≤ T.2.1 - 1; omega, by show T.2.1 - 1 ≤ 6; omega⟩ (fun r c a1 a2 a3 a4 => ?_)
  dsimp only at a2 a4 ⊢
  have q := v r a a1 a2 ha.1 (by omega)
  have q2 := v r (a + 1) a1 a2 (by omega) (by omega)
  split
  · exact v r c a1 a2 a3 (by omega)
  · split
    · exact (zjn_rg q.1 q.2 q2.1 q2.2 (p r a1 a2)).2
    · exact v r (c + 1) a1 a2 (by omega) (by omega)
theorem ok_fold {T U : zTb} {a : Int} (s : shT T) (v : okV T) (ha : 1 ≤ a ∧ a < T.2.1) (e : sFold a T = some U) : okT U ∧ noA U := by
  obtain ⟨p, rfl⟩ := zifS e
  unfold shT at s
  have w0 : 0 < T.2.1 - a := by omega
  have p1 : 0 < (T.1 - 1) * (T.2.1 - a) := Int.mul_pos (by omega) w0
  refine ok_mk ⟨by show 1 ≤ (T.1 - 1) * (T.2.1 - a); omega, p.2.1, by show 1 ≤ a + 2; omega, by show a + 2 ≤ 6; omega⟩ (fun r c a1 a2 a3 a4 => ?_)
  dsimp only at a2 a4 ⊢
  have d0 := Int.ediv_nonneg a1 (Int.le_of_lt w0)
  have d1 : r / (T.2.1 - a) < T.1 - 1 := Int.ediv_lt_of_lt_mul w0 a2
  have m0 := Int.emod_nonneg r (Int.ne_of_gt w0)
  have m1 := Int.emod_lt_of_pos r w0
  split
  · exact v _ c (by omega) (by omega) a3 (by omega)
  · split
    · exact v 0 _ (by omega) (by omega) (by omega) (by omega)
    · exact v _ _ (by omega) (by omega) (by omega) (by omega)
theorem ok_rows {T : zTb} {n : Int} {g : Int → Int} (s : shT T) (v : okV T) (hn : 1 ≤ n ∧ n ≤ 12) (hg : ∀ r : Int, 0 ≤ r → r < n → 0 ≤ g r ∧ g r < T.1) : okT (sRows n g T) ∧ noA (sRows n g T) :=
  ok_mk ⟨hn.1, hn.2, s.2.2⟩ (fun r c a1 a2 a3 a4 => v (g r) c (hg r a1 a2).1 (hg r a1 a2).2 a3 a4)
theorem zse_rg {p : Int → Prop} {R g : Int} (R0 : 0 ≤ R) (g0 : 0 ≤ g) (g1 : g < zct p R.toNat) : 0 ≤ zse p R.toNat g ∧ zse p R.toNat g < R ∧ p (zse p R.toNat g) := by
  obtain ⟨q, a1, a2, a3, a4⟩ := zct_sr R0 g0 g1
  rw [← a4, zse_q a1 a2 a3]
  exact ⟨a1, a2, a3⟩
theorem zF_0 {T : zTb} {f t : Int} : zF T f t 0 := fun q q0 q1 => by omega
theorem zF_1 {T : zTb} {f t R : Int} (R0 : 1 ≤ R) : 1 ≤ zct (zF T f t) R.toNat ∧ zct (zF T f t) R.toNat ≤ R := by
  have a := zct_lt (p := zF T f t) (a := 0) (b := R) (by omega) (by omega) zF_0
  have b := zct_r (p := zF T f t) (r := 0) (by omega)
  have c := zct_r (p := zF T f t) (r := R) (by omega)
  omega
theorem ok_amt {T U : zTb} {a : Int} {w : Int → Int} (s : shT T) (v : okV T) (oT : okT T) (ha : 0 ≤ a ∧ a < T.2.1) (hw : ∀ s : Int, 0 ≤ s → s < T.1 → 0 ≤ w s ∧ w s ≤ 999999) (e : sAmt a w T = some U) : okT U ∧ noA U := by
  obtain ⟨p, rfl⟩ := zifS e
  unfold shT at s
  have f := zF_1 (T := T) (f := a) (t := a + 1) (R := T.1) s.1
  refine ok_mk ⟨f.1, by show zct (zF T a (a + 1)) T.1.toNat ≤ 12; omega, by show (1 : Int) ≤ 2; omega, by show (2 : Int) ≤ 6; omega⟩ (fun r c a1 a2 a3 a4 => ?_)
  unfold sAmU at a2 a4 ⊢
  dsimp only at a2 a4 ⊢
  split
  · have q := zse_rg (show 0 ≤ T.1 by omega) a1 a2
    exact v _ a q.1 q.2.1 ha.1 ha.2
  · have q := ztx_rg 6 _ (zam_rg (a := a) oT hw r).1
    have : (256 : Int) ^ 6 < 72057594037927936 := by decide
    omega
theorem zls_sp {p : Int → Prop} {i : Int} (i0 : 0 ≤ i) (pi : p i) : 0 ≤ zls p ∧ p (zls p) := by
  obtain ⟨s, s1, s2⟩ := lst_ex (p := p) (i.toNat + 1) i (by omega) i0 pi
  rw [zls_eq s2]
  exact ⟨s2.1, s2.2.1⟩
theorem ok_unfold {T U : zTb} (s : shT T) (v : okV T) (e : sUnfold T = some U) : okT U ∧ noA U := by
  obtain ⟨p, rfl⟩ := zifS e
  unfold shT at s
  have f := zF_1 (T := T) (f := 0) (t := T.2.1 - 2) (R := T.1) s.1
  have f2 := zF_1 (T := T) (f := T.2.1 - 2) (t := T.2.1 - 2 + 1) (R := T.1) s.1
  refine ok_mk ⟨by show 1 ≤ 1 + zct (zF T 0 (T.2.1 - 2)) T.1.toNat; omega, p.2.2.1, by show 1 ≤ T.2.1 - 2 + zct (zF T (T.2.1 - 2) (T.2.1 - 2 + 1)) T.1.toNat; omega, p.2.2.2⟩ (fun r c a1 a2 a3 a4 => ?_)
  unfold sUnfU at a2 a4 ⊢
  dsimp only at a2 a4 ⊢
  split
  · split
    · omega
    · have q := zse_rg (p := zF T (T.2.1 - 2) (T.2.1 - 2 + 1)) (g := c - (T.2.1 - 2)) (show 0 ≤ T.1 by omega) (by omega) (by omega)
      exact v _ _ q.1 q.2.1 (by omega) (by omega)
  · split
    · have q := zse_rg (p := zF T 0 (T.2.1 - 2)) (g := r - 1) (show 0 ≤ T.1 by omega) (by omega) (by omega)
      exact v _ _ q.1 q.2.1 (by omega) (by omega)
    · by_cases ex : ∃ q, zuE T (r - 1) (c - (T.2.1 - 2)) q
      · rw [zif1 ex]
        obtain ⟨q, hq⟩ := ex
        have z := (zls_sp hq.1 hq).2
        exact v _ _ z.1 z.2.1 (by omega) (by omega)
      · rw [zif0 ex]; omega
theorem sStep_ok {n a b : Int} {T U : zTb} (oT : okT T) (nT : noA T) (e : sStep n a b T = some U) : okT U ∧ noA U := by
  have s : shT T := oT.1
  have v := okV_of oT nT
  have s' := s
  unfold shT at s'
  by_cases q : nC T.2.1 n a b
  · have e0 := e
    by_cases n1 : n = 1
    · subst n1; rw [sStep_1 q] at e; exact ok_turn s v e
    by_cases n2 : n = 2
    · subst n2; rw [sStep_2 q] at e; have w := nC_2 q; exact ok_drop s v (by omega) e
    by_cases n3 : n = 3
    · subst n3; rw [sStep_3 q] at e; have w := nC_3 q; exact ok_split s v (by omega) e
    by_cases n4 : n = 4
    · subst n4; rw [sStep_4 q] at e; have w := nC_4 q; exact ok_fill s v (by omega) e
    by_cases n5 : n = 5
    · subst n5; rw [sStep_5 q] at e; have w := nC_5 q; exact ok_join s v (by omega) e
    by_cases n6 : n = 6
    · subst n6; rw [sStep_6 q] at e; have w := nC_6 q; exact ok_fold s v (by omega) e
    by_cases n7 : n = 7
    · subst n7; rw [sStep_7 q] at e; exact ok_unfold s v e
    by_cases n8 : n = 8
    · subst n8; rw [sStep_8 q] at e
      obtain ⟨p, rfl⟩ := zifS e
      exact ok_rows s v (by omega) (fun r r0 r1 => by have := zso_rg (key := fun r => zkey (T.2.2 r a)) T.1.toNat r r0 (by omega); omega)
    by_cases n9 : n = 9
    · subst n9; rw [sStep_9 q] at e
      obtain ⟨p, rfl⟩ := zifS e
      have f := zF_1 (T := T) (f := 0) (t := T.2.1) (R := T.1) s.1
      exact ok_rows s v (by omega) (fun r r0 r1 => by have := zse_rg (show 0 ≤ T.1 by omega) r0 r1; omega)
    by_cases n10 : n = 10
    · subst n10; rw [sStep_10 q] at e; have w := nC_10 q; exact ok_amt s v oT (by omega) (fun _ _ _ => by omega) e
    by_cases n11 : n = 11
    · subst n11; rw [sStep_11 q] at e; have w := nC_11 q
      unfold sSum at e
      by_cases z : ∀ r : Int, 0 ≤ r → r < T.1 → znum (T.2.2 r b)
      · rw [zif1 z] at e; exact ok_amt s v oT (by omega) (fun r r0 r1 => zval_rg (z r r0 r1)) e
      · rw [zif0 z] at e; cases e
    by_cases n12 : n = 12
    · subst n12; rw [sStep_12 q] at e
      obtain ⟨p, rfl⟩ := zifS e
      exact ok_rows s v (by omega) (fun r r0 r1 => by have := zse_rg (show 0 ≤ T.1 by omega) r0 r1; omega)
    by_cases n13 : n = 13
    · subst n13; rw [sStep_13 q] at e
      obtain ⟨p, rfl⟩ := zifS e
      exact ok_mk ⟨by show 1 ≤ T.1 - 1; omega, by show T.1 - 1 ≤ 12; omega, s.2.2⟩ (fun r c a1 a2 a3 a4 => v (r + 1) c (by omega) (by have a2 : r < T.1 - 1 := a2; omega) a3 a4)
    by_cases n14 : n = 14
    · subst n14; rw [sStep_14 q] at e
      have w := nC_14 q
      cases e
      refine ok_mk s (fun r c a1 a2 a3 a4 => ?_)
      dsimp only at a2 a4 ⊢
      split
      · exact v r (a + 1) a1 a2 (by omega) (by omega)
      · split
        · exact v r a a1 a2 (by omega) (by omega)
        · exact v r c a1 a2 a3 a4
    · unfold sStep at e
      rw [zif1 q, if_neg n1, if_neg n2, if_neg n3, if_neg n4, if_neg n5, if_neg n6, if_neg n7, if_neg n8, if_neg n9, if_neg n10, if_neg n11, if_neg n12, if_neg n13, if_neg n14] at e
      cases e
  · rw [sStep_n q] at e; cases e
