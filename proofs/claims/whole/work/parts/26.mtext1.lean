theorem b_X13_isNumber_0 {D : zD} {d : Nat} {G : zG} {h : zH} {Q : zO → zG → zH → Prop} {x0 : Int}
    (u1 : z_Ki D M_X13_length d [(1, x0)] G h (fun r G' h' => z_Y D M_X13_isNumber d 4 [(0, 1, x0)] [(0, r)] G' h' Q)) :
    z_Y D M_X13_isNumber d 0 [(0, 1, x0)] [] G h Q := by
  intro hl0
  refine z_lload_n (q := 1) 0 dX13_isNumber_0 rfl rfl ?_
  exact z_goS (q := 4) (av := [(1, x0)]) (rest := []) z_toi hl0 (u1) mo_X13_length np_X13_length k1466 k1467 rfl (nle rfl) dX13_isNumber_1 rfl
theorem b_X13_isNumber_4 {D : zD} {d : Nat} {G : zG} {h : zH} {Q : zO → zG → zH → Prop} {s0 x0 : Int} (p1 : z_in64 x0) (p2 : ¬ (x0 ≤ 0) → z_in s0)
    (u1 : x0 ≤ 0 → z_Y D M_X13_isNumber d 21 [(0, 1, x0), (2, 0, s0)] [] G h Q)
    (u2 : ¬ (x0 ≤ 0) → 6 < s0 → z_Y D M_X13_isNumber d 21 [(0, 1, x0), (2, 0, s0)] [] G h Q)
    (u3 : ¬ (x0 ≤ 0) → ¬ (6 < s0) → z_Y D M_X13_isNumber d 22 [(0, 1, x0), (2, 0, s0)] [(0, 1)] G h Q) :
    z_Y D M_X13_isNumber d 4 [(0, 1, x0)] [(0, s0)] G h Q := by
  intro hl0
  refine z_istore_n (q := 5) (L' := [(0, 1, x0), (2, 0, s0)]) dX13_isNumber_4 rfl (by decide) rfl ?_
  refine z_lload_n (q := 6) 0 dX13_isNumber_5 rfl rfl ?_
  refine z_lconst0 (q := 7) dX13_isNumber_6 rfl ?_
  refine z_lcmp_le (q := 11) (t := 21) p1 ⟨by decide, by decide⟩ dX13_isNumber_7 (rfl : _ = 8) dX13_isNumber_8 (by decide) rfl (fun c1 => ?_) (fun c1 => ?_)
  · exact u1 c1 hl0
  · refine z_iload_n (q := 12) 1 dX13_isNumber_11 rfl rfl ?_
    refine z_bipush (q := 14) dX13_isNumber_12 rfl (by decide) ?_
    refine z_icmp_gt (q := 17) (t := 21) (p2 c1) ⟨by decide, by decide⟩ dX13_isNumber_14 (by decide) rfl (fun c2 => ?_) (fun c2 => ?_)
    · exact u2 c1 c2 hl0
    · refine z_iconst (q := 18) dX13_isNumber_17 rfl ?_
      refine z_goto (t := 22) dX13_isNumber_18 (by decide) ?_
      exact u3 c1 c2 hl0
theorem b_X13_isNumber_21 {D : zD} {d : Nat} {G : zG} {h : zH} {Q : zO → zG → zH → Prop} {x0 x2 : Int}
    (u1 : z_Y D M_X13_isNumber d 22 [(0, 1, x0), (2, 0, x2)] [(0, 0)] G h Q) :
    z_Y D M_X13_isNumber d 21 [(0, 1, x0), (2, 0, x2)] [] G h Q := by
  intro hl0
  refine z_iconst (q := 22) dX13_isNumber_21 rfl ?_
  exact u1 hl0
theorem b_X13_isNumber_22 {D : zD} {d : Nat} {G : zG} {h : zH} {Q : zO → zG → zH → Prop} {s0 x0 x2 : Int}
    (u1 : z_Y D M_X13_isNumber d 26 [(0, 1, x0), (2, 0, x2), (3, 0, s0), (4, 0, 0)] [] G h Q) :
    z_Y D M_X13_isNumber d 22 [(0, 1, x0), (2, 0, x2)] [(0, s0)] G h Q := by
  intro hl0
  refine z_istore_n (q := 23) (L' := [(0, 1, x0), (2, 0, x2), (3, 0, s0)]) dX13_isNumber_22 rfl (by decide) rfl ?_
  refine z_iconst (q := 24) dX13_isNumber_23 rfl ?_
  refine z_istore (q := 26) (L' := [(0, 1, x0), (2, 0, x2), (3, 0, s0), (4, 0, 0)]) dX13_isNumber_24 rfl (by decide) rfl ?_
  exact u1 hl0
theorem b_X13_isNumber_26 {D : zD} {d : Nat} {G : zG} {h : zH} {Q : zO → zG → zH → Prop} {x0 x2 x3 x4 : Int} (hd : 2 ≤ d) (p1 : z_in x4) (p2 : z_in x2) (p3 : x2 ≤ x4 → x3 = 0 ∨ x3 = 1) (p4 : ¬ (x2 ≤ x4) → z_in x3) (p5 : ¬ (x2 ≤ x4) → x3 = 0 → x3 = 0 ∨ x3 = 1) (p6 : ¬ (x2 ≤ x4) → ¬ (x3 = 0) → 0 ≤ x0) (p7 : ¬ (x2 ≤ x4) → ¬ (x3 = 0) → x0 < 72057594037927936) (p8 : ¬ (x2 ≤ x4) → ¬ (x3 = 0) → 0 ≤ x2 - 1 - x4) (p9 : ¬ (x2 ≤ x4) → ¬ (x3 = 0) → x2 - 1 - x4 < 8) (p10 : ¬ (x2 ≤ x4) → ¬ (x3 = 0) → z_in (x0 / 256 ^ (x2 - 1 - x4).toNat % 256))
    (u1 : x2 ≤ x4 → Q (.inl (some (0, x3))) G h)
    (u2 : ¬ (x2 ≤ x4) → x3 = 0 → Q (.inl (some (0, x3))) G h)
    (u3 : ¬ (x2 ≤ x4) → ¬ (x3 = 0) → 48 ≤ (x0 / 256 ^ (x2 - 1 - x4).toNat % 256) ∧ (x0 / 256 ^ (x2 - 1 - x4).toNat % 256) ≤ 57 → z_Y D M_X13_isNumber d 26 [(0, 1, x0), (2, 0, x2), (3, 0, 1), (4, 0, (x4 + 1))] [] G h Q)
    (u4 : ¬ (x2 ≤ x4) → ¬ (x3 = 0) → ¬ (48 ≤ (x0 / 256 ^ (x2 - 1 - x4).toNat % 256) ∧ (x0 / 256 ^ (x2 - 1 - x4).toNat % 256) ≤ 57) → z_Y D M_X13_isNumber d 26 [(0, 1, x0), (2, 0, x2), (3, 0, 0), (4, 0, (x4 + 1))] [] G h Q) :
    z_Y D M_X13_isNumber d 26 [(0, 1, x0), (2, 0, x2), (3, 0, x3), (4, 0, x4)] [] G h Q := by
  intro hl0
  refine z_iload (q := 28) 3 dX13_isNumber_26 rfl rfl ?_
  refine z_iload_n (q := 29) 1 dX13_isNumber_28 rfl rfl ?_
  refine z_icmp_ge (q := 32) (t := 53) p1 p2 dX13_isNumber_29 (by decide) rfl (fun c1 => ?_) (fun c1 => ?_)
  · refine z_iload_n (q := 54) 2 dX13_isNumber_53 rfl rfl ?_
    exact z_bret rfl (p3 c1) dX13_isNumber_54 ⟨hl0, u1 c1⟩
  · refine z_iload_n (q := 33) 2 dX13_isNumber_32 rfl rfl ?_
    refine z_if_eq (q := 36) (t := 53) (p4 c1) dX13_isNumber_33 (by decide) rfl (fun c2 => ?_) (fun c2 => ?_)
    · refine z_iload_n (q := 54) 2 dX13_isNumber_53 rfl rfl ?_
      exact z_bret rfl (p5 c1 c2) dX13_isNumber_54 ⟨hl0, u2 c1 c2⟩
    · refine z_lload_n (q := 37) 0 dX13_isNumber_36 rfl rfl ?_
      refine z_iload_n (q := 38) 1 dX13_isNumber_37 rfl rfl ?_
      refine z_iload (q := 40) 3 dX13_isNumber_38 rfl rfl ?_
      have e1 := a_X13_byteOf (D := D) (G := G) (h := h) (d := d - 1) (by omega) x0 x2 x4 (p6 c1 c2) (p7 c1 c2) (p8 c1 c2) (p9 c1 c2)
      refine z_goS (q := 43) (av := [(1, x0), (0, x2), (0, x4)]) (rest := []) (z_toi) hl0 (z_Ei.K e1 (by omega) ?_) mo_X13_byteOf np_X13_byteOf k1469 k1470 rfl (nle rfl) dX13_isNumber_40 rfl
      have e2 := a_X13_isDigit (D := D) (G := G) (h := h) (d := d - 1) (by omega) (x0 / 256 ^ (x2 - 1 - x4).toNat % 256) (p10 c1 c2)
      refine z_goS (q := 46) (av := [(0, (x0 / 256 ^ (x2 - 1 - x4).toNat % 256))]) (rest := []) (z_toi) hl0 (z_Ei.K e2 (by omega) ?_) mo_X13_isDigit np_X13_isDigit k1331 k1332 rfl (nle rfl) dX13_isNumber_43 rfl
      by_cases c3 : 48 ≤ (x0 / 256 ^ (x2 - 1 - x4).toNat % 256) ∧ (x0 / 256 ^ (x2 - 1 - x4).toNat % 256) ≤ 57
      · rw [z_b1 c3]
        refine z_istore_n (q := 47) (L' := [(0, 1, x0), (2, 0, x2), (3, 0, 1), (4, 0, x4)]) dX13_isNumber_46 rfl (by decide) rfl ?_
        refine z_iinc (q := 50) (L' := [(0, 1, x0), (2, 0, x2), (3, 0, 1), (4, 0, (x4 + 1))]) 3 dX13_isNumber_47 rfl rfl (by decide) rfl ?_
        refine z_goto (t := 26) dX13_isNumber_50 (by decide) ?_
        exact u3 c1 c2 c3 hl0
      · rw [z_b0 c3]
        refine z_istore_n (q := 47) (L' := [(0, 1, x0), (2, 0, x2), (3, 0, 0), (4, 0, x4)]) dX13_isNumber_46 rfl (by decide) rfl ?_
        refine z_iinc (q := 50) (L' := [(0, 1, x0), (2, 0, x2), (3, 0, 0), (4, 0, (x4 + 1))]) 3 dX13_isNumber_47 rfl rfl (by decide) rfl ?_
        refine z_goto (t := 26) dX13_isNumber_50 (by decide) ?_
        exact u4 c1 c2 c3 hl0
theorem b_X13_numberOf_0 {D : zD} {d : Nat} {G : zG} {h : zH} {Q : zO → zG → zH → Prop} {x0 : Int} (hd : 2 ≤ d) (p1 : 0 ≤ x0) (p2 : x0 < 72057594037927936)
    (u1 : z_Y D M_X13_numberOf d 10 [(0, 1, x0), (2, 0, (zlen x0)), (3, 0, 0), (4, 0, 0)] [] G h Q) :
    z_Y D M_X13_numberOf d 0 [(0, 1, x0)] [] G h Q := by
  intro hl0
  refine z_lload_n (q := 1) 0 dX13_numberOf_0 rfl rfl ?_
  have e1 := a_X13_length (D := D) (G := G) (h := h) (d := d - 1) (by omega) x0 p1 p2
  refine z_goS (q := 4) (av := [(1, x0)]) (rest := []) (z_toi) hl0 (z_Ei.K e1 (by omega) ?_) mo_X13_length np_X13_length k1466 k1467 rfl (nle rfl) dX13_numberOf_1 rfl
  refine z_istore_n (q := 5) (L' := [(0, 1, x0), (2, 0, (zlen x0))]) dX13_numberOf_4 rfl (by decide) rfl ?_
  refine z_iconst (q := 6) dX13_numberOf_5 rfl ?_
  refine z_istore_n (q := 7) (L' := [(0, 1, x0), (2, 0, (zlen x0)), (3, 0, 0)]) dX13_numberOf_6 rfl (by decide) rfl ?_
  refine z_iconst (q := 8) dX13_numberOf_7 rfl ?_
  refine z_istore (q := 10) (L' := [(0, 1, x0), (2, 0, (zlen x0)), (3, 0, 0), (4, 0, 0)]) dX13_numberOf_8 rfl (by decide) rfl ?_
  exact u1 hl0
theorem b_X13_numberOf_10 {D : zD} {d : Nat} {G : zG} {h : zH} {Q : zO → zG → zH → Prop} {x0 x2 x3 x4 : Int} (hd : 2 ≤ d) (p1 : z_in x4) (p2 : z_in x2) (p3 : ¬ (x2 ≤ x4) → 0 ≤ x0) (p4 : ¬ (x2 ≤ x4) → x0 < 72057594037927936) (p5 : ¬ (x2 ≤ x4) → 0 ≤ x2 - 1 - x4) (p6 : ¬ (x2 ≤ x4) → x2 - 1 - x4 < 8)
    (u1 : x2 ≤ x4 → Q (.inl (some (0, x3))) G h)
    (u2 : ¬ (x2 ≤ x4) → z_Y D M_X13_numberOf d 10 [(0, 1, x0), (2, 0, x2), (3, 0, (((10 * x3) + (x0 / 256 ^ (x2 - 1 - x4).toNat % 256)) - 48)), (4, 0, (x4 + 1))] [] G h Q) :
    z_Y D M_X13_numberOf d 10 [(0, 1, x0), (2, 0, x2), (3, 0, x3), (4, 0, x4)] [] G h Q := by
  intro hl0
  refine z_iload (q := 12) 3 dX13_numberOf_10 rfl rfl ?_
  refine z_iload_n (q := 13) 1 dX13_numberOf_12 rfl rfl ?_
  refine z_icmp_ge (q := 16) (t := 38) p1 p2 dX13_numberOf_13 (by decide) rfl (fun c1 => ?_) (fun c1 => ?_)
  · refine z_iload_n (q := 39) 2 dX13_numberOf_38 rfl rfl ?_
    exact z_iret rfl dX13_numberOf_39 ⟨hl0, u1 c1⟩
  · refine z_bipush (q := 18) dX13_numberOf_16 rfl (by decide) ?_
    refine z_iload_n (q := 19) 2 dX13_numberOf_18 rfl rfl ?_
    refine z_imul (q := 20) dX13_numberOf_19 rfl ?_
    refine z_lload_n (q := 21) 0 dX13_numberOf_20 rfl rfl ?_
    refine z_iload_n (q := 22) 1 dX13_numberOf_21 rfl rfl ?_
    refine z_iload (q := 24) 3 dX13_numberOf_22 rfl rfl ?_
    have e1 := a_X13_byteOf (D := D) (G := G) (h := h) (d := d - 1) (by omega) x0 x2 x4 (p3 c1) (p4 c1) (p5 c1) (p6 c1)
    refine z_goS (q := 27) (av := [(1, x0), (0, x2), (0, x4)]) (rest := [(0, (10 * x3))]) (z_toi) hl0 (z_Ei.K e1 (by omega) ?_) mo_X13_byteOf np_X13_byteOf k1469 k1470 rfl (nle rfl) dX13_numberOf_24 rfl
    refine z_iadd (q := 28) dX13_numberOf_27 rfl ?_
    refine z_bipush (q := 30) dX13_numberOf_28 rfl (by decide) ?_
    refine z_isub (q := 31) dX13_numberOf_30 rfl ?_
    refine z_istore_n (q := 32) (L' := [(0, 1, x0), (2, 0, x2), (3, 0, (((10 * x3) + (x0 / 256 ^ (x2 - 1 - x4).toNat % 256)) - 48)), (4, 0, x4)]) dX13_numberOf_31 rfl (by decide) rfl ?_
    refine z_iinc (q := 35) (L' := [(0, 1, x0), (2, 0, x2), (3, 0, (((10 * x3) + (x0 / 256 ^ (x2 - 1 - x4).toNat % 256)) - 48)), (4, 0, (x4 + 1))]) 3 dX13_numberOf_32 rfl rfl (by decide) rfl ?_
    refine z_goto (t := 10) dX13_numberOf_35 (by decide) ?_
    exact u2 c1 hl0
theorem b_X13_textOf_0 {D : zD} {d : Nat} {G : zG} {h : zH} {Q : zO → zG → zH → Prop} {x0 : Int}
    (u1 : z_Y D M_X13_textOf d 7 [(1, 1, 0), (3, 0, 0), (4, 0, x0)] [] G h Q) :
    z_Y D M_X13_textOf d 0 [(0, 0, x0)] [] G h Q := by
  intro hl0
  refine z_lconst0 (q := 1) dX13_textOf_0 rfl ?_
  refine z_lstore_n (q := 2) (L' := [(0, 0, x0), (1, 1, 0)]) dX13_textOf_1 rfl (by decide) rfl ?_
  refine z_iconst (q := 3) dX13_textOf_2 rfl ?_
  refine z_istore_n (q := 4) (L' := [(0, 0, x0), (1, 1, 0), (3, 0, 0)]) dX13_textOf_3 rfl (by decide) rfl ?_
  refine z_iload_n (q := 5) 0 dX13_textOf_4 rfl rfl ?_
  refine z_istore (q := 7) (L' := [(0, 0, x0), (1, 1, 0), (3, 0, 0), (4, 0, x0)]) dX13_textOf_5 rfl (by decide) rfl ?_
  refine z_sub (L' := [(1, 1, 0), (3, 0, 0), (4, 0, x0)]) [1, 2, 3] rfl ?_
  exact u1 hl0
theorem b_X13_textOf_7 {D : zD} {d : Nat} {G : zG} {h : zH} {Q : zO → zG → zH → Prop} {x1 x3 x4 : Int} (p1 : z_in (48 + (z_irem x4 10))) (p2 : z_in (z_idiv x4 10))
    (u1 : 0 < (z_idiv x4 10) → z_Y D M_X13_textOf d 7 [(1, 1, (z_lor x1 (z_lshl (48 + (z_irem x4 10)) x3))), (3, 0, (x3 + 8)), (4, 0, (z_idiv x4 10))] [] G h Q)
    (u2 : ¬ (0 < (z_idiv x4 10)) → Q (.inl (some (1, (z_lor x1 (z_lshl (48 + (z_irem x4 10)) x3))))) G h) :
    z_Y D M_X13_textOf d 7 [(1, 1, x1), (3, 0, x3), (4, 0, x4)] [] G h Q := by
  intro hl0
  refine z_lload_n (q := 8) 0 dX13_textOf_7 rfl rfl ?_
  refine z_bipush (q := 10) dX13_textOf_8 rfl (by decide) ?_
  refine z_iload (q := 12) 2 dX13_textOf_10 rfl rfl ?_
  refine z_bipush (q := 14) dX13_textOf_12 rfl (by decide) ?_
  refine z_r_irem (q := 15) (by decide) dX13_textOf_14 rfl ?_
  refine z_iadd (q := 16) dX13_textOf_15 rfl ?_
  refine z_i2l (q := 17) p1 dX13_textOf_16 rfl ?_
  refine z_iload_n (q := 18) 1 dX13_textOf_17 rfl rfl ?_
  refine z_r_lshl (q := 19) dX13_textOf_18 rfl ?_
  refine z_r_lor (q := 20) dX13_textOf_19 rfl ?_
  refine z_lstore_n (q := 21) (L' := [(1, 1, (z_lor x1 (z_lshl (48 + (z_irem x4 10)) x3))), (3, 0, x3), (4, 0, x4)]) dX13_textOf_20 rfl (by decide) rfl ?_
  refine z_iinc (q := 24) (L' := [(1, 1, (z_lor x1 (z_lshl (48 + (z_irem x4 10)) x3))), (3, 0, (x3 + 8)), (4, 0, x4)]) 1 dX13_textOf_21 rfl rfl (by decide) rfl ?_
  refine z_iload (q := 26) 2 dX13_textOf_24 rfl rfl ?_
  refine z_bipush (q := 28) dX13_textOf_26 rfl (by decide) ?_
  refine z_r_idiv (q := 29) (by decide) dX13_textOf_28 rfl ?_
  refine z_istore (q := 31) (L' := [(1, 1, (z_lor x1 (z_lshl (48 + (z_irem x4 10)) x3))), (3, 0, (x3 + 8)), (4, 0, (z_idiv x4 10))]) dX13_textOf_29 rfl (by decide) rfl ?_
  refine z_iload (q := 33) 2 dX13_textOf_31 rfl rfl ?_
  refine z_if_gt (q := 36) (t := 7) p2 dX13_textOf_33 (by decide) rfl (fun c1 => ?_) (fun c1 => ?_)
  · exact u1 c1 hl0
  · refine z_lload_n (q := 37) 0 dX13_textOf_36 rfl rfl ?_
    exact z_lret rfl dX13_textOf_37 ⟨hl0, u2 c1⟩
theorem b_X13_order_0 {D : zD} {d : Nat} {G : zG} {h : zH} {Q : zO → zG → zH → Prop} {x0 : Int} (hd : 2 ≤ d) (p1 : 0 ≤ x0) (p2 : x0 < 72057594037927936)
    (u1 : Q (.inl (some (1, (z_lshl x0 (8 * (7 - (zlen x0))))))) G h) :
    z_Y D M_X13_order d 0 [(0, 1, x0)] [] G h Q := by
  intro hl0
  refine z_lload_n (q := 1) 0 dX13_order_0 rfl rfl ?_
  refine z_bipush (q := 3) dX13_order_1 rfl (by decide) ?_
  refine z_bipush (q := 5) dX13_order_3 rfl (by decide) ?_
  refine z_lload_n (q := 6) 0 dX13_order_5 rfl rfl ?_
  have e1 := a_X13_length (D := D) (G := G) (h := h) (d := d - 1) (by omega) x0 p1 p2
  refine z_goS (q := 9) (av := [(1, x0)]) (rest := [(0, 7), (0, 8), (1, x0)]) (z_toi) hl0 (z_Ei.K e1 (by omega) ?_) mo_X13_length np_X13_length k1466 k1467 rfl (nle rfl) dX13_order_6 rfl
  refine z_isub (q := 10) dX13_order_9 rfl ?_
  refine z_imul (q := 11) dX13_order_10 rfl ?_
  refine z_r_lshl (q := 12) dX13_order_11 rfl ?_
  exact z_lret rfl dX13_order_12 ⟨hl0, u1⟩
theorem b_X13_markAt_0 {D : zD} {d : Nat} {G : zG} {h : zH} {Q : zO → zG → zH → Prop} {x0 x2 : Int} (hd : 2 ≤ d) (p1 : 0 ≤ x0) (p2 : x0 < 72057594037927936)
    (u1 : z_Y D M_X13_markAt d 8 [(0, 1, x0), (2, 0, x2), (3, 0, (zlen x0)), (4, 0, 0)] [] G h Q) :
    z_Y D M_X13_markAt d 0 [(0, 1, x0), (2, 0, x2)] [] G h Q := by
  intro hl0
  refine z_lload_n (q := 1) 0 dX13_markAt_0 rfl rfl ?_
  have e1 := a_X13_length (D := D) (G := G) (h := h) (d := d - 1) (by omega) x0 p1 p2
  refine z_goS (q := 4) (av := [(1, x0)]) (rest := []) (z_toi) hl0 (z_Ei.K e1 (by omega) ?_) mo_X13_length np_X13_length k1466 k1467 rfl (nle rfl) dX13_markAt_1 rfl
  refine z_istore_n (q := 5) (L' := [(0, 1, x0), (2, 0, x2), (3, 0, (zlen x0))]) dX13_markAt_4 rfl (by decide) rfl ?_
  refine z_iconst (q := 6) dX13_markAt_5 rfl ?_
  refine z_istore (q := 8) (L' := [(0, 1, x0), (2, 0, x2), (3, 0, (zlen x0)), (4, 0, 0)]) dX13_markAt_6 rfl (by decide) rfl ?_
  exact u1 hl0
theorem b_X13_markAt_8 {D : zD} {d : Nat} {G : zG} {h : zH} {Q : zO → zG → zH → Prop} {x0 x2 x3 x4 : Int} (hd : 2 ≤ d) (p1 : z_in x4) (p2 : z_in x3) (p3 : ¬ (x3 ≤ x4) → 0 ≤ x0) (p4 : ¬ (x3 ≤ x4) → x0 < 72057594037927936) (p5 : ¬ (x3 ≤ x4) → 0 ≤ x3 - 1 - x4) (p6 : ¬ (x3 ≤ x4) → x3 - 1 - x4 < 8) (p7 : ¬ (x3 ≤ x4) → z_in (x0 / 256 ^ (x3 - 1 - x4).toNat % 256)) (p8 : ¬ (x3 ≤ x4) → z_in x2)
    (u1 : x3 ≤ x4 → Q (.inl (some (0, (-1)))) G h)
    (u2 : ¬ (x3 ≤ x4) → ¬ (x0 / 256 ^ (x3 - 1 - x4).toNat % 256) = x2 → z_Y D M_X13_markAt d 8 [(0, 1, x0), (2, 0, x2), (3, 0, x3), (4, 0, (x4 + 1))] [] G h Q)
    (u3 : ¬ (x3 ≤ x4) → ¬ (¬ (x0 / 256 ^ (x3 - 1 - x4).toNat % 256) = x2) → Q (.inl (some (0, x4))) G h) :
    z_Y D M_X13_markAt d 8 [(0, 1, x0), (2, 0, x2), (3, 0, x3), (4, 0, x4)] [] G h Q := by
  intro hl0
  refine z_iload (q := 10) 3 dX13_markAt_8 rfl rfl ?_
  refine z_iload_n (q := 11) 2 dX13_markAt_10 rfl rfl ?_
  refine z_icmp_ge (q := 14) (t := 34) p1 p2 dX13_markAt_11 (by decide) rfl (fun c1 => ?_) (fun c1 => ?_)
  · refine z_iconst (q := 35) dX13_markAt_34 rfl ?_
    exact z_iret rfl dX13_markAt_35 ⟨hl0, u1 c1⟩
  · refine z_lload_n (q := 15) 0 dX13_markAt_14 rfl rfl ?_
    refine z_iload_n (q := 16) 2 dX13_markAt_15 rfl rfl ?_
    refine z_iload (q := 18) 3 dX13_markAt_16 rfl rfl ?_
    have e1 := a_X13_byteOf (D := D) (G := G) (h := h) (d := d - 1) (by omega) x0 x3 x4 (p3 c1) (p4 c1) (p5 c1) (p6 c1)
    refine z_goS (q := 21) (av := [(1, x0), (0, x3), (0, x4)]) (rest := []) (z_toi) hl0 (z_Ei.K e1 (by omega) ?_) mo_X13_byteOf np_X13_byteOf k1469 k1470 rfl (nle rfl) dX13_markAt_18 rfl
    refine z_iload_n (q := 22) 1 dX13_markAt_21 rfl rfl ?_
    refine z_icmp_ne (q := 25) (t := 28) (p7 c1) (p8 c1) dX13_markAt_22 (by decide) rfl (fun c2 => ?_) (fun c2 => ?_)
    · refine z_iinc (q := 31) (L' := [(0, 1, x0), (2, 0, x2), (3, 0, x3), (4, 0, (x4 + 1))]) 3 dX13_markAt_28 rfl rfl (by decide) rfl ?_
      refine z_goto (t := 8) dX13_markAt_31 (by decide) ?_
      exact u2 c1 c2 hl0
    · refine z_iload (q := 27) 3 dX13_markAt_25 rfl rfl ?_
      exact z_iret rfl dX13_markAt_27 ⟨hl0, u3 c1 c2⟩
theorem b_X13_isTable_0 {D : zD} {d : Nat} {G : zG} {h : zH} {Q : zO → zG → zH → Prop} {x0 : Int} (hd : 2 ≤ d) (p1 : z_in x0) (p2 : z_in64 x0)
    (u1 : 0 ≤ x0 ∧ x0 ≤ 7 → Q (.inl (some (0, 1))) G h)
    (u2 : ¬ (0 ≤ x0 ∧ x0 ≤ 7) → Q (.inl (some (0, 0))) G h) :
    z_Y D M_X13_isTable d 0 [(0, 0, x0)] [] G h Q := by
  intro hl0
  refine z_iload_n (q := 1) 0 dX13_isTable_0 rfl rfl ?_
  refine z_i2l (q := 2) p1 dX13_isTable_1 rfl ?_
  refine z_lconst0 (q := 3) dX13_isTable_2 rfl ?_
  refine z_ldc2 (q := 6) (n := 7) k1314 (by decide) dX13_isTable_3 rfl ?_
  have e1 := a_X13_in (D := D) (G := G) (h := h) (d := d - 1) (by omega) x0 0 7 p2 ⟨by decide, by decide⟩ ⟨by decide, by decide⟩
  refine z_goS (q := 9) (av := [(1, x0), (1, 0), (1, 7)]) (rest := []) (z_toi) hl0 (z_Ei.K e1 (by omega) ?_) mo_X13_in np_X13_in k1300 k1301 rfl (nle rfl) dX13_isTable_6 rfl
  by_cases c1 : 0 ≤ x0 ∧ x0 ≤ 7
  · rw [z_b1 c1]
    exact z_bret rfl (by decide) dX13_isTable_9 ⟨hl0, u1 c1⟩
  · rw [z_b0 c1]
    exact z_bret rfl (by decide) dX13_isTable_9 ⟨hl0, u2 c1⟩
theorem b_X13_isWay_0 {D : zD} {d : Nat} {G : zG} {h : zH} {Q : zO → zG → zH → Prop} {x0 : Int} (hd : 2 ≤ d) (p1 : z_in x0) (p2 : z_in64 x0)
    (u1 : 0 ≤ x0 ∧ x0 ≤ 7 → Q (.inl (some (0, 1))) G h)
    (u2 : ¬ (0 ≤ x0 ∧ x0 ≤ 7) → Q (.inl (some (0, 0))) G h) :
    z_Y D M_X13_isWay d 0 [(0, 0, x0)] [] G h Q := by
  intro hl0
  refine z_iload_n (q := 1) 0 dX13_isWay_0 rfl rfl ?_
  refine z_i2l (q := 2) p1 dX13_isWay_1 rfl ?_
  refine z_lconst0 (q := 3) dX13_isWay_2 rfl ?_
  refine z_ldc2 (q := 6) (n := 7) k1314 (by decide) dX13_isWay_3 rfl ?_
  have e1 := a_X13_in (D := D) (G := G) (h := h) (d := d - 1) (by omega) x0 0 7 p2 ⟨by decide, by decide⟩ ⟨by decide, by decide⟩
  refine z_goS (q := 9) (av := [(1, x0), (1, 0), (1, 7)]) (rest := []) (z_toi) hl0 (z_Ei.K e1 (by omega) ?_) mo_X13_in np_X13_in k1300 k1301 rfl (nle rfl) dX13_isWay_6 rfl
  by_cases c1 : 0 ≤ x0 ∧ x0 ≤ 7
  · rw [z_b1 c1]
    exact z_bret rfl (by decide) dX13_isWay_9 ⟨hl0, u1 c1⟩
  · rw [z_b0 c1]
    exact z_bret rfl (by decide) dX13_isWay_9 ⟨hl0, u2 c1⟩
