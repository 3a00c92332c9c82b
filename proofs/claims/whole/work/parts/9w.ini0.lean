/-! where both stand when they are made -/
def S0 : zA := (fun _ => zBl, fun _ => (0, fun _ => 0), (fun _ => 0, 0), (0, -1), (-1, 0, 0, 0, []))
theorem i0_ref : ∀ q ∈ lay_r, iHm q.1 q.2.1 = q.2.2 := by decide +kernel
theorem i0_tab : ∀ n : Fin 114, (lay_t.getD n.val (0, 0)).1 = 3 → iHm (n.val : Int) 0 = (n.val : Int) + 1 ∧ lay_t.getD (n.val + 1) (0, 0) = (51, 72) := by decide +kernel
theorem i0_way : ∀ n : Fin 114, (lay_t.getD n.val (0, 0)).1 = 7 → iHm (n.val : Int) 0 = (n.val : Int) + 1 ∧ lay_t.getD (n.val + 1) (0, 0) = (50, 12) := by decide +kernel
theorem i0_g {n : Nat} (hn : n < 114) {t : Nat} {l : Int} (e : lay_t.getD n (0, 0) = (t, l)) : z_is (gL 114) (n : Int) t ∧ (gL 114).2.2.2 (n : Int) = l := by
  refine ⟨gI ⟨⟨by omega, by omega⟩, by rw [Int.toNat_natCast, e]⟩, gN ⟨⟨by omega, by omega⟩, by rw [Int.toNat_natCast, e]⟩⟩
theorem i0_len : lay_t.length = 114 := by decide +kernel
theorem i0_t {t : Int} {k : Nat} (h : z_is (gL 114) t k) : ∃ n : Fin 114, t = (n.val : Int) ∧ (lay_t.getD n.val (0, 0)).1 = k := by
  obtain ⟨h0, h1, h2⟩ := h
  have h1 : t < (114 : Int) := h1
  refine ⟨⟨t.toNat, by omega⟩, by show t = (t.toNat : Int); omega, ?_⟩
  exact (if_pos (⟨h0, h1⟩ : 0 ≤ t ∧ t < ((114 : Nat) : Int))).symm.trans h2
theorem i0_lay : lay (gL 114) iHm := by
  refine ⟨by rw [i0_len]; exact Nat.le_refl _, fun a q ha => ?_, i0_ref, fun t ht => ?_, fun t ht => ?_⟩
  · have hl : a < 114 := by rw [← i0_len]; exact (List.getElem?_eq_some_iff.mp ha).1
    have hg : lay_t.getD a (0, 0) = q := by rw [List.getD_eq_getElem?_getD, ha]; rfl
    have := i0_g hl (t := q.1) (l := q.2) hg
    exact ⟨this.1.2.2, this.2⟩
  · obtain ⟨n, rfl, e⟩ := i0_t ht
    obtain ⟨a, b⟩ := i0_tab n e
    have hl : n.val + 1 < 114 := by
      refine Nat.lt_of_not_le fun w => ?_
      rw [List.getD_eq_getElem?_getD, List.getElem?_eq_none (by rw [i0_len]; exact w)] at b
      cases b
    have q := i0_g hl b
    exact ⟨a, q.1, q.2⟩
  · obtain ⟨n, rfl, e⟩ := i0_t ht
    obtain ⟨a, b⟩ := i0_way n e
    have hl : n.val + 1 < 114 := by
      refine Nat.lt_of_not_le fun w => ?_
      rw [List.getD_eq_getElem?_getD, List.getElem?_eq_none (by rw [i0_len]; exact w)] at b
      cases b
    have q := i0_g hl b
    exact ⟨a, q.1, q.2⟩
theorem i0_tb : ∀ n : Fin 8, iHm (56 + 4 * (n.val : Int)) 1 = 1 ∧ iHm (56 + 4 * (n.val : Int)) 2 = 1 ∧ iHm (56 + 4 * (n.val : Int) + 1) 0 = 0 ∧ iHm (58 + 4 * (n.val : Int)) 1 = 0 := by decide +kernel
theorem i0_md : ∀ n : Fin 8, iHm 89 (n.val : Int) = 1 ∧ iHm 90 (n.val : Int) = 1 := by decide +kernel
theorem i0_fx : (iHm 0 3 = 0 ∧ iHm 0 4 = 0 ∧ iHm 0 5 = -1) ∧ (iHm 33 11 = 50 ∧ iHm 33 14 = 0 ∧ iHm 33 15 = 0 ∧ iHm 33 16 = 0) ∧ (iHm 51 0 = 0 ∧ iHm 51 2 = 52 ∧ iHm 51 3 = 53 ∧ iHm 51 4 = 54 ∧ iHm 51 5 = 55) ∧ (iHm 19 1 = 20 ∧ iHm 19 2 = 22 ∨ iHm 19 1 = 22 ∧ iHm 19 2 = 20) ∧ (iHm 24 1 = 25 ∧ iHm 24 2 = 27 ∨ iHm 24 1 = 27 ∧ iHm 24 2 = 25) ∧ (iHm 46 1 = 1 ∧ iHm 46 2 = 1 ∧ iHm 47 0 = 0) ∧ (iHm 88 14 = 0 ∧ iHm 88 20 = 0 ∧ iHm 88 21 = -1) ∧ iHm 88 29 = 0 ∧ iHm 88 30 = 0 ∧ iHm 88 31 = 0 ∧ iHm 88 41 = 0 := by decide +kernel
set_option maxRecDepth 200000 in
theorem i0_r3 (j : Int) : iHm 3 j = 0 := rfl
set_option maxRecDepth 200000 in
theorem i0_r48 (j : Int) : iHm 48 j = -1 := rfl
set_option maxRecDepth 200000 in
theorem i0_r91 (j : Int) : iHm 91 j = 0 := rfl
set_option maxRecDepth 200000 in
theorem i0_r95 (j : Int) : iHm 95 j = 0 := rfl
set_option maxRecDepth 200000 in
theorem i0_r100 (j : Int) : iHm 100 j = 0 := rfl
theorem i0_sl : gSl 114 ≤ 333000 ∧ 1140 ≤ gSl 114 := by decide +kernel
theorem sI_k {v : Int} : ∀ n : Nat, sI (fun _ => v) n = v * n := by
  intro n
  induction n with
  | zero => rw [sI]; simp
  | succ n ih => rw [sI, ih]; push_cast; rw [Int.mul_add, Int.mul_one]
theorem i8n {P : Int → Prop} (h : ∀ n : Fin 8, P (n.val : Int)) {t : Int} (t0 : 0 ≤ t) (t8 : t < 8) : P t := by
  have q := h ⟨t.toNat, by omega⟩
  have e : ((⟨t.toNat, by omega⟩ : Fin 8).val : Int) = t := by show (t.toNat : Int) = t; omega
  rw [e] at q
  exact q
theorem i0_bl {h : zH} {t : Int} (a : h t 1 = 1) (b : h t 2 = 1) (c : h (t + 1) 0 = 0) : isC h t zBl := ⟨a, b, fun r k r0 r1 k0 k1 => by
  have r1 : r < 1 := r1
  have k1 : k < 1 := k1
  obtain rfl : r = 0 := by omega
  obtain rfl : k = 0 := by omega
  exact c⟩
theorem i0_c : cAb (gL 114) iHm S0 := by
  obtain ⟨⟨a1, a2, a3⟩, ⟨b1, b2, b3, b4⟩, ⟨c1, c2, c3, c4, c5⟩, d1, d2, ⟨e1, e2, e3⟩, -⟩ := i0_fx
  have w80 : w8 0 = 0 := by decide
  have z50 := i0_g (n := 50) (t := 50) (l := 1024) (by decide) rfl
  refine ⟨⟨fun t t0 t8 => ?_, fun w w0 w8 => ?_⟩, ⟨fun j => by rw [i0_r3]; exact w80, a1⟩, ⟨a2, a3⟩, ⟨⟨⟨0, ⟨by decide, by decide⟩, fun i i0 i1 => by omega, fun i j i0 ij j1 => by omega, fun i _ _ => i0_r48 i⟩, ⟨?_, ?_⟩, ?_, ?_⟩, ?_⟩, ⟨d1, d2⟩, i0_bl e1 e2 e3⟩
  · have q := i8n (P := fun t => iHm (56 + 4 * t) 1 = 1 ∧ iHm (56 + 4 * t) 2 = 1 ∧ iHm (56 + 4 * t + 1) 0 = 0 ∧ iHm (58 + 4 * t) 1 = 0) i0_tb t0 t8
    exact i0_bl q.1 q.2.1 q.2.2.1
  · have q := i8n (P := fun t => iHm (56 + 4 * t) 1 = 1 ∧ iHm (56 + 4 * t) 2 = 1 ∧ iHm (56 + 4 * t + 1) 0 = 0 ∧ iHm (58 + 4 * t) 1 = 0) i0_tb w0 w8
    exact ⟨q.2.2.2, fun i a b => by have b : i < (0 : Int) := b; omega⟩
  · have e : sI (ptS (gL 114) iHm) 1500 = 430 * 1500 := by
      rw [sI_c (g := fun _ => 430) 1500 fun i _ _ => by unfold ptS; rw [if_pos (i0_r48 i)], sI_k]
      rfl
    rw [e, b1]
    have z : (gL 114).2.2.2 50 = 1024 := z50.2
    rw [z]
    have := i0_sl.1
    show ((gSl 114 : Nat) : Int) + _ + _ ≤ _
    omega
  · have := i0_sl.2
    show 10 * ((114 : Nat) : Int) ≤ ((gSl 114 : Nat) : Int)
    omega
  · unfold edg
    rw [b1]
    have z : (gL 114).2.2.2 50 = 1024 := z50.2
    refine ⟨z50.1, Or.inl rfl, ?_, ?_⟩ <;> rw [z] <;> decide
  · exact ⟨Or.inl ⟨c2, c4⟩, Or.inl ⟨c3, c5⟩⟩
  · exact ⟨b2, b3, b4, c1, fun w => absurd (show (0 : Int) ≤ -1 from w) (by decide), fun k p e => by cases e⟩
theorem i0_m : mAb iHm S0 := by
  obtain ⟨-, -, -, -, -, -, ⟨a1, a2, a3⟩, b1, b2, b3, b4⟩ := i0_fx
  have w80 : w8 0 = 0 := by decide
  refine ⟨⟨fun t t0 t8 => ?_, fun w w0 w8 => ⟨i0_r95 w, fun i a b => by have b : i < (0 : Int) := b; omega⟩⟩, ⟨fun j => by rw [i0_r100]; exact w80, a1⟩, ⟨a2, a3⟩, ⟨b1, b2, b3, by decide, b4, fun w => absurd rfl w, fun i p e => by cases e⟩⟩
  have q := i8n (P := fun t => iHm 89 t = 1 ∧ iHm 90 t = 1) i0_md t0 t8
  refine ⟨q.1, q.2, fun r c _ _ _ _ => ?_⟩
  rw [i0_r91]
  show 0 = if r < 1 ∧ c < 1 then (0 : Int) else 0
  split <;> rfl
theorem i0_ok : aok S0 := ⟨⟨fun _ _ _ => zBl_ok, fun _ _ _ => ⟨(by decide : (0 : Int) ≤ 0), (by decide : (0 : Int) ≤ 12), fun i a b => by have b : i < (0 : Int) := b; omega⟩⟩, ⟨fun _ => ⟨(by decide : (-128 : Int) ≤ 0), (by decide : (0 : Int) ≤ 127)⟩, (by decide : (0 : Int) ≤ 0), (by decide : (0 : Int) ≤ 1000)⟩, ⟨by decide, fun p hp => by cases hp⟩, (by decide : (-1 : Int) ≤ 3)⟩
