/-! all steps of a State -/
theorem nC_rg {C n a b : Int} (hC : C ≤ 6) (n1 : 1 ≤ n) (n2 : n ≤ 14) (k : nC C n a b) : a ≤ zma n ∧ b ≤ zmB n := by
  have : n = 1 ∨ n = 2 ∨ n = 3 ∨ n = 4 ∨ n = 5 ∨ n = 6 ∨ n = 7 ∨ n = 8 ∨ n = 9 ∨ n = 10 ∨ n = 11 ∨ n = 12 ∨ n = 13 ∨ n = 14 := by omega
  have f0 : ∀ m : Int, zfm m = 0 → zma m = 0 ∧ zmB m = 0 := fun m q => by unfold zma zmB; rw [q]; decide
  have f1 : ∀ m : Int, zfm m = 1 → zma m = 5 ∧ zmB m = 0 := fun m q => by unfold zma zmB; rw [q]; decide
  have f2 : ∀ m : Int, zfm m = 2 → zma m = 5 ∧ zmB m = 3 := fun m q => by unfold zma zmB; rw [q]; decide
  have f3 : ∀ m : Int, zfm m = 3 → zma m = 5 ∧ zmB m = 5 := fun m q => by unfold zma zmB; rw [q]; decide
  unfold nC at k
  rcases this with rfl | rfl | rfl | rfl | rfl | rfl | rfl | rfl | rfl | rfl | rfl | rfl | rfl | rfl
  · have z : zfm 1 = 0 := by decide
    rw [z] at k; have := f0 _ z; simp at k; omega
  · have z : zfm 2 = 1 := by decide
    rw [z] at k; have := f1 _ z; simp at k; omega
  · have z : zfm 3 = 2 := by decide
    have := f2 _ z; simp at k; omega
  · have z : zfm 4 = 1 := by decide
    rw [z] at k; have := f1 _ z; simp at k; omega
  · have z : zfm 5 = 2 := by decide
    have := f2 _ z; simp at k; omega
  · have z : zfm 6 = 1 := by decide
    have := f1 _ z; simp at k; omega
  · have z : zfm 7 = 0 := by decide
    rw [z] at k; have := f0 _ z; simp at k; omega
  · have z : zfm 8 = 1 := by decide
    rw [z] at k; have := f1 _ z; simp at k; omega
  · have z : zfm 9 = 0 := by decide
    rw [z] at k; have := f0 _ z; simp at k; omega
  · have z : zfm 10 = 1 := by decide
    rw [z] at k; have := f1 _ z; simp at k; omega
  · have z : zfm 11 = 3 := by decide
    have := f3 _ z; simp at k; omega
  · have z : zfm 12 = 1 := by decide
    rw [z] at k; have := f1 _ z; simp at k; omega
  · have z : zfm 13 = 0 := by decide
    rw [z] at k; have := f0 _ z; simp at k; omega
  · have z : zfm 14 = 1 := by decide
    have := f1 _ z; simp at k; omega
theorem zm_rg (n : Int) : (0 ≤ zma n ∧ zma n ≤ 5) ∧ 0 ≤ zmB n ∧ zmB n ≤ 5 := by
  unfold zma zmB
  refine ⟨?_, ?_⟩
  · split <;> omega
  · split
    · omega
    · split <;> omega
theorem sMake_out {n a b : Int} {T : zTb} (oT : okT T) (n1 : 1 ≤ n) (n2 : n ≤ 14) (k : zma n < a ∨ zmB n < b) : sMake n a b T = none := by
  unfold sMake
  by_cases z : noA T
  · rw [zif1 z]
    unfold sStep
    rw [zif0]
    intro q
    have := nC_rg (by have := oT.1; omega) n1 n2 q
    omega
  · rw [zif0 z]
theorem nx_out {two : Prop} {n a b : Int} {P : zSt} (oP : okP P) (n1 : 1 ≤ n) (n2 : n ≤ 14) (k : zma n < a ∨ zmB n < b) : nx two n a b P = none := by
  unfold nx; rw [sMake_out oP.1 n1 n2 k]
def ei (n a b : Int) : Int := 36 * (n - 1) + 6 * a + b
theorem ei_c {n a b : Int} (a0 : 0 ≤ a) (a1 : a ≤ 5) (b0 : 0 ≤ b) (b1 : b ≤ 5) : cN (ei n a b) = n ∧ cA (ei n a b) = a ∧ cB (ei n a b) = b := by
  unfold cN cA cB ei; omega
theorem nxe_ei {two : Prop} {n a b : Int} {P : zSt} (a0 : 0 ≤ a) (a1 : a ≤ 5) (b0 : 0 ≤ b) (b1 : b ≤ 5) : nxe two (ei n a b) P = nx two n a b P := by
  unfold nxe
  obtain ⟨q1, q2, q3⟩ := ei_c (n := n) a0 a1 b0 b1
  rw [q1, q2, q3]
theorem edP_len (two : Prop) (P : zSt) (lv : Int) (s : bS) : ∀ e : Nat, (edP two P lv s e).length ≤ e := by
  intro e
  induction e with
  | zero => exact Nat.le_refl _
  | succ e ih =>
    rw [edP, List.length_append]
    have : (edI two P lv s e).length ≤ 1 := by
      unfold edI
      split
      · exact Nat.zero_le _
      · split
        · exact Nat.le_refl _
        · exact Nat.zero_le _
    omega
theorem edP_skip {two : Prop} {P : zSt} {lv : Int} {s : bS} : ∀ (k : Nat) (e : Int), 0 ≤ e → (∀ j : Int, e ≤ j → j < e + k → nxe two j P = none) → edP two P lv s (e + k).toNat = edP two P lv s e.toNat := by
  intro k
  induction k with
  | zero => intro e _ _; rw [show e + ((0 : Nat) : Int) = e by omega]
  | succ k ih =>
    intro e e0 n
    rw [show e + ((k + 1 : Nat) : Int) = (e + k) + 1 by omega, edP_s (by omega), ih e e0 fun j a b => n j a (by omega)]
    unfold edI
    rw [n (e + k) (by omega) (by omega), List.append_nil]
def frX (s0 : bS) (q : Int) (G : zG) (h : zH) (G' : zG) (h' : zH) : Prop := ext G G' ∧ (∀ b j : Int, b < 114 → ¬ (b = 33 ∧ (j = 11 ∨ j = 12 ∨ j = 14 ∨ j = 15)) → ¬ (48 ≤ b ∧ b ≤ 50) → ¬ (34 ≤ b ∧ b ≤ 41) → ¬ (13 ≤ b ∧ b ≤ 18) → h' b j = h b j) ∧ (∀ i : Int, 0 ≤ i → i < s0.1 → h' 48 i = h 48 i ∧ ∀ j : Int, ¬ j = 6 → ¬ (i = q ∧ (j = 7 ∨ j = 8)) → h' (h 48 i) j = h (h 48 i) j) ∧ (∀ j : Int, 0 ≤ j → j < h 33 12 → h' (h' 33 11) j = h (h 33 11) j) ∧ h 33 12 ≤ h' 33 12
theorem frX.R {s0 s : bS} {q : Int} {G G1 G2 : zG} {h h1 h2 : zH} (a : frX s0 q G h G1 h1) (b : frR s G1 h1 G2 h2) (l : s0.1 ≤ s.1) : frX s0 q G h G2 h2 := by
  refine ⟨a.1.tr b.1, fun x j p q r t u => (b.2.1 x j p q (by omega) (by omega) (by omega)).trans (a.2.1 x j p q r t u), fun i i0 i1 => ?_, fun j j0 j1 => ?_, Int.le_trans a.2.2.2.2 b.2.2.2.2⟩
  · have q1 := a.2.2.1 i i0 i1
    have q2 := b.2.2.1 i i0 (by omega)
    refine ⟨q2.1.trans q1.1, fun j nj nq => ?_⟩
    rw [← q1.2 j nj nq, ← q1.1]; exact q2.2 j nj
  · rw [← a.2.2.2.1 j j0 j1]
    exact b.2.2.2.1 j j0 (by have := a.2.2.2.2; omega)
section Exp
variable {D : zD} {d : Nat} {G G1 G2 : zG} {h h1 h2 h4 : zH} {two : Prop} {W V B : zTb}
theorem SI_chg {s : bS} {w : Int → Nat} (si : SI two W V B G h s w) (f : ∀ b j : Int, ¬ (34 ≤ b ∧ b ≤ 41) → ¬ (13 ≤ b ∧ b ≤ 18) → h1 b j = h b j) (k40 : ¬ two → isC h1 40 B) : SI two W V B G h1 s w := by
  obtain ⟨⟨n, ss⟩, rm, eg, ⟨kw, kv⟩, e8, e15, est, w0, nt, c12⟩ := si
  have po := ss.1
  have sr := ss.2.1
  have e48 : ∀ j : Int, h1 48 j = h 48 j := fun j => f 48 j (by omega) (by omega)
  have e11 := f 33 11 (by omega) (by omega)
  have e12 := f 33 12 (by omega) (by omega)
  have ea : ∀ i : Int, 0 ≤ i → i < n → (∀ j : Int, h1 (h 48 i) j = h (h 48 i) j) ∧ ∀ j : Int, h1 (h (h 48 i) 0) j = h (h (h 48 i) 0) j := fun i i0 i1 => by
    have y := po.2.1 i i0 i1
    exact ⟨fun j => f _ j (by omega) (by omega), fun j => f _ j (by omega) (by omega)⟩
  refine ⟨⟨n, SS_k ss ext.rf e48 (fun j => f 49 j (by omega) (by omega)) (f 33 14 (by omega) (by omega)) fun i i0 i1 => ⟨fun j _ => (ea i i0 i1).1 j, (ea i i0 i1).2⟩⟩, rm_k rm po e48 (fun i i0 i1 => (ea i i0 i1).1 0) e11, by unfold edg; rw [e11]; exact eg, ⟨isC_keep kw (fun j => f 42 j (by omega) (by omega)) (fun j => f 43 j (by omega) (by omega)), isC_keep kv (fun j => f 44 j (by omega) (by omega)) (fun j => f 45 j (by omega) (by omega))⟩, by rw [f 33 8 (by omega) (by omega)]; exact e8, by rw [f 33 15 (by omega) (by omega)]; exact e15, fun i i0 i1 => ?_, w0, fun n2 => ⟨k40 n2, (nt n2).2⟩, by rw [e11, e12]; exact c12⟩
  have y := (ea i i0 (by omega)).1
  rw [e48, y, y]; exact est i i0 i1
/-- where the steps of State q stand, e of them done -/
def exI (two : Prop) (W V B : zTb) (P : zSt) (q lv f0 : Int) (w0 : Int → Nat) (s0 : bS) (G0 : zG) (h0 : zH) (R : Int × bS) (e : Int) (s : bS) (G : zG) (h : zH) : Prop :=
  SI two W V B G h s (wA q (edP two P lv s e.toNat) w0) ∧ frX s0 q G0 h0 G h ∧ (isC h 34 P.1 ∧ isC h 36 P.2) ∧ (h (h0 48 q) 7 = f0 ∧ h 33 12 = f0 + (edP two P lv s e.toNat).length) ∧ (∀ (j : Nat) (ct : Int × Int), (edP two P lv s e.toNat)[j]? = some ct → h (h 33 11) (f0 + j) = ct.2 * 1024 + ct.1) ∧ exS s0 s ∧ edK two P s e ∧ bX two P (504 - e).toNat e s = R
variable {P : zSt} {q lv f0 : Int} {w0 : Int → Nat} {s0 : bS} {G0 : zG} {h0 : zH} {R : Int × bS}
theorem exI_skip {e : Int} {s : bS} (k : Nat) (x : exI two W V B P q lv f0 w0 s0 G0 h0 R e s G h) (e0 : 0 ≤ e) (e1 : e + k ≤ 504) (n : ∀ j : Int, e ≤ j → j < e + k → nxe two j P = none) : exI two W V B P q lv f0 w0 s0 G0 h0 R (e + k) s G h := by
  obtain ⟨x1, x2, x3, x4, x5, x6, x7, x8⟩ := x
  unfold exI
  rw [edP_skip k e e0 n]
  refine ⟨x1, x2, x3, x4, x5, x6, fun j j0 j1 S hS => ?_, ?_⟩
  · by_cases z : j < e
    · exact x7 j j0 z S hS
    · rw [n j (by omega) j1] at hS; cases hS
  · rw [← x8, show (504 - e).toNat = k + (504 - (e + k)).toNat by omega, bX_skip k _ e n]
theorem exI_chg {e : Int} {s : bS} (x : exI two W V B P q lv f0 w0 s0 G0 h0 R e s G h) (a114 : 114 ≤ h0 48 q) (f : ∀ b j : Int, ¬ (38 ≤ b ∧ b ≤ 41) → ¬ (13 ≤ b ∧ b ≤ 18) → h1 b j = h b j) (k40 : ¬ two → isC h1 40 B) : exI two W V B P q lv f0 w0 s0 G0 h0 R e s G h1 := by
  obtain ⟨x1, x2, ⟨x3, x3'⟩, x4, x5, x6, x7, x8⟩ := x
  have eg := x1.2.2.1
  have e11 := f 33 11 (by omega) (by omega)
  have e12 := f 33 12 (by omega) (by omega)
  have er : ∀ j : Int, h1 (h 33 11) j = h (h 33 11) j := fun j => f _ j (by have := eg.2.1; omega) (by have := eg.2.1; omega)
  refine ⟨SI_chg x1 (fun b j p r => f b j (by omega) r) k40, ⟨x2.1, fun b j p q r t u => (f b j (by omega) u).trans (x2.2.1 b j p q r t u), fun i i0 i1 => ?_, fun j j0 j1 => ?_, by rw [e12]; exact x2.2.2.2.2⟩, ⟨isC_keep x3 (fun j => f 34 j (by omega) (by omega)) (fun j => f 35 j (by omega) (by omega)), isC_keep x3' (fun j => f 36 j (by omega) (by omega)) (fun j => f 37 j (by omega) (by omega))⟩, ⟨by rw [f _ 7 (by omega) (by omega)]; exact x4.1, by rw [e12]; exact x4.2⟩, fun j ct hj => by rw [e11, er]; exact x5 j ct hj, x6, x7, x8⟩
  · have y := x2.2.2.1 i i0 i1
    refine ⟨(f 48 i (by omega) (by omega)).trans y.1, fun j nj nq => ?_⟩
    obtain ⟨⟨n, ss⟩, -⟩ := x1
    have z := (ss.1.2.1 i i0 (by have := ss.2.1; have := x6.1; omega)).2.1
    rw [y.1] at z
    rw [f _ j (by omega) (by omega)]; exact y.2 j nj nq
  · rw [e11, er]; exact x2.2.2.2.1 j j0 j1
theorem exI_arr {e : Int} {s : bS} {S : zSt} (x : exI two W V B P q lv f0 w0 s0 G0 h0 R e s G h) (e0 : 0 ≤ e) (e1 : e < 504) (nS : nxe two e P = some S) (s15 : s.1 ≤ 1500) (q0 : 0 ≤ q) (q1 : q < s0.1) (f00 : 0 ≤ f0) {out : zO} (a : arrQ two W V B s (wA q (edP two P lv s e.toNat) w0) q (cod e) lv S G h out G1 h1) :
    (R = (0, s) ∧ out = .inl (some (0, 0)) ∧ G1 = G ∧ h1 = h) ∨ (out = .inl (some (0, 1)) ∧ exI two W V B P q lv f0 w0 s0 G0 h0 R (e + 1) (nxS s S) G1 h1) := by
  obtain ⟨x1, x2, ⟨x3, x3'⟩, x4, x5, x6, x7, x8⟩ := x
  have sr := x1.1
  obtain ⟨n, ss⟩ := sr
  have em : (504 - e).toNat = (504 - (e + 1)).toNat + 1 := by omega
  rcases a with ⟨a1, a2, a3, a4, a5⟩ | ⟨a1, a2, a3, a4, a5, a6⟩
  · left
    refine ⟨?_, a3, a4, a5⟩
    rw [← x8, em, bX_f nS a1 a2]
  · right
    refine ⟨a2, ?_⟩
    -- the States behind it
    have ex : exS s (nxS s S) := by
      by_cases z : idx s S = -1
      · rw [nxS, zif1 z]; exact adS_ex
      · rw [nxS, zif0 z]; exact exS.rf
    have bx : bX two P (504 - (e + 1)).toNat (e + 1) (nxS s S) = R := by
      rw [← x8, em]
      by_cases z : idx s S = -1
      · rw [bX_a nS z (fun w => a1 ⟨z, w⟩), nxS, zif1 z]
      · rw [bX_o nS z, nxS, zif0 z]
    have ix : 0 ≤ idx (nxS s S) S := by
      by_cases z : idx s S = -1
      · rw [nxS, zif1 z, adS_idx ss.2.1.1 z]; exact ss.2.1.1
      · rw [nxS, zif0 z]
        rcases idx_rg s S with w | w
        · exact absurd w.1 z
        · exact w.1
    have e2 : edP two P lv (nxS s S) (e + 1).toNat = edP two P lv s e.toNat ++ edI two P lv (nxS s S) e := by
      rw [edP_s e0, edP_ex ex e.toNat (by rw [show ((e.toNat : Nat) : Int) = e by omega]; exact x7)]
    have e3 : edI two P lv (nxS s S) e = if lv ≤ idx (nxS s S) S then [(cod e, idx (nxS s S) S)] else [] := by unfold edI; rw [nS]
    have k7 : h1 (h0 48 q) 7 = f0 := by
      rw [← (x2.2.2.1 q q0 q1).1, (a3.2.2.1 q q0 (by have := x6.1; omega)).2 7 (by omega), (x2.2.2.1 q q0 q1).1]; exact x4.1
    have old : ∀ (j : Nat) (ct : Int × Int), (edP two P lv s e.toNat)[j]? = some ct → h1 (h1 33 11) (f0 + j) = ct.2 * 1024 + ct.1 := fun j ct hj => by
      have l : j < (edP two P lv s e.toNat).length := (List.getElem?_eq_some_iff.mp hj).1
      rw [a3.2.2.2.1 _ (by omega) (by rw [x4.2]; omega)]
      exact x5 j ct hj
    have lo : ∀ b j : Int, 34 ≤ b → b ≤ 37 → h1 b j = h b j := fun b j p r => a3.2.1 b j (by omega) (by omega) (by omega) (by omega) (by omega)
    unfold exI
    rw [e2, e3]
    by_cases z : lv ≤ idx (nxS s S) S
    · have y := a6 z
      rw [if_pos z]
      have uw : upW q (idx (nxS s S) S) lv (wA q (edP two P lv s e.toNat) w0) = wA q (edP two P lv s e.toNat ++ [(cod e, idx (nxS s S) S)]) w0 := by
        rw [wA_ap]; unfold upW; rw [if_neg (by omega)]; rfl
      rw [uw] at a4
      refine ⟨a4, x2.R a3 x6.1, ⟨isC_keep x3 (fun j => lo _ j (by omega) (by omega)) (fun j => lo _ j (by omega) (by omega)), isC_keep x3' (fun j => lo _ j (by omega) (by omega)) (fun j => lo _ j (by omega) (by omega))⟩, ⟨k7, ?_⟩, fun j ct hj => ?_, x6.tr ex, edK_s (edK_ex ex x7) (fun S' hS => by rw [nS] at hS; cases hS; exact ix), bx⟩
      · rw [List.length_append, y.1, x4.2]; show _ = f0 + ((_ + 1 : Nat) : Int); omega
      · by_cases l : j < (edP two P lv s e.toNat).length
        · rw [List.getElem?_append_left l] at hj
          exact old j ct hj
        · rw [List.getElem?_append_right (by omega)] at hj
          have l2 := (List.getElem?_eq_some_iff.mp hj).1
          have l3 : j - (edP two P lv s e.toNat).length = 0 := by
            have : j - (edP two P lv s e.toNat).length < 1 := l2
            omega
          rw [l3] at hj
          cases hj
          have := y.2
          rw [x4.2] at this
          rw [show f0 + (j : Int) = f0 + ((edP two P lv s e.toNat).length : Int) by omega]
          exact this
    · have y := a5 (by omega)
      rw [if_neg z, List.append_nil]
      have uw : upW q (idx (nxS s S) S) lv (wA q (edP two P lv s e.toNat) w0) = wA q (edP two P lv s e.toNat) w0 := by
        unfold upW; rw [if_pos (by omega)]
      rw [uw] at a4
      exact ⟨a4, x2.R a3 x6.1, ⟨isC_keep x3 (fun j => lo _ j (by omega) (by omega)) (fun j => lo _ j (by omega) (by omega)), isC_keep x3' (fun j => lo _ j (by omega) (by omega)) (fun j => lo _ j (by omega) (by omega))⟩, ⟨k7, by rw [y]; exact x4.2⟩, old, x6.tr ex, edK_s (edK_ex ex x7) (fun S' hS => by rw [nS] at hS; cases hS; exact ix), bx⟩
end Exp
