theorem b_X6_behindMark_0 {D : zD} {d : Nat} {G : zG} {h : zH} {Q : zO → zG → zH → Prop} {x0 x2 : Int} (hd : 2 ≤ d) (p1 : z_in x2) (p2 : -1 ≤ x0) (p3 : x0 < 72057594037927936)
    (u1 : z_Y D M_X6_behindMark d 13 [(0, 1, x0), (3, 0, (zmb x2)), (4, 0, ((zlen x0) - 1))] [] G h Q) :
    z_Y D M_X6_behindMark d 0 [(0, 1, x0), (2, 0, x2)] [] G h Q := by
  intro hl0
  refine z_iload_n (q := 1) 1 dX6_behindMark_0 rfl rfl ?_
  have e1 := a_X6_byteOfMark (D := D) (G := G) (h := h) (d := d - 1) (by omega) x2 p1
  refine z_goS (q := 4) (av := [(0, x2)]) (rest := []) (z_toi) hl0 (z_Ei.K e1 (by omega) ?_) mo_X6_byteOfMark np_X6_byteOfMark k760 k761 rfl (nle rfl) dX6_behindMark_1 rfl
  refine z_istore_n (q := 5) (L' := [(0, 1, x0), (2, 0, x2), (3, 0, (zmb x2))]) dX6_behindMark_4 rfl (by decide) rfl ?_
  refine z_lload_n (q := 6) 0 dX6_behindMark_5 rfl rfl ?_
  have e2 := a_X6_lengthOf (D := D) (G := G) (h := h) (d := d - 1) (by omega) x0 p2 p3
  refine z_goS (q := 9) (av := [(1, x0)]) (rest := []) (z_toi) hl0 (z_Ei.K e2 (by omega) ?_) mo_X6_lengthOf np_X6_lengthOf k685 k686 rfl (nle rfl) dX6_behindMark_6 rfl
  refine z_iconst (q := 10) dX6_behindMark_9 rfl ?_
  refine z_isub (q := 11) dX6_behindMark_10 rfl ?_
  refine z_istore (q := 13) (L' := [(0, 1, x0), (2, 0, x2), (3, 0, (zmb x2)), (4, 0, ((zlen x0) - 1))]) dX6_behindMark_11 rfl (by decide) rfl ?_
  refine z_sub (L' := [(0, 1, x0), (3, 0, (zmb x2)), (4, 0, ((zlen x0) - 1))]) [0, 2, 3] rfl ?_
  exact u1 hl0
theorem b_X6_behindMark_13 {D : zD} {d : Nat} {G : zG} {h : zH} {Q : zO → zG → zH → Prop} {x0 x3 x4 : Int} (p1 : z_in x4) (p2 : ¬ (x4 < 0) → z_in x3) (p3 : ¬ (x4 < 0) → z_in64 (z_land (z_lushr x0 (8 * x4)) 255)) (p4 : ¬ (x4 < 0) → z_in64 x3)
    (u1 : x4 < 0 → Q (.inl (some (0, (-1)))) G h)
    (u2 : ¬ (x4 < 0) → ¬ (z_land (z_lushr x0 (8 * x4)) 255) = x3 → z_Y D M_X6_behindMark d 13 [(0, 1, x0), (3, 0, x3), (4, 0, (x4 + (-1)))] [] G h Q)
    (u3 : ¬ (x4 < 0) → ¬ (¬ (z_land (z_lushr x0 (8 * x4)) 255) = x3) → Q (.inl (some (0, x4))) G h) :
    z_Y D M_X6_behindMark d 13 [(0, 1, x0), (3, 0, x3), (4, 0, x4)] [] G h Q := by
  intro hl0
  refine z_iload (q := 15) 2 dX6_behindMark_13 rfl rfl ?_
  refine z_if_lt (q := 18) (t := 44) p1 dX6_behindMark_15 (by decide) rfl (fun c1 => ?_) (fun c1 => ?_)
  · refine z_iconst (q := 45) dX6_behindMark_44 rfl ?_
    exact z_iret rfl dX6_behindMark_45 ⟨hl0, u1 c1⟩
  · refine z_lload_n (q := 19) 0 dX6_behindMark_18 rfl rfl ?_
    refine z_bipush (q := 21) dX6_behindMark_19 rfl (by decide) ?_
    refine z_iload (q := 23) 2 dX6_behindMark_21 rfl rfl ?_
    refine z_imul (q := 24) dX6_behindMark_23 rfl ?_
    refine z_r_lushr (q := 25) dX6_behindMark_24 rfl ?_
    refine z_ldc2 (q := 28) (n := 255) k763 (by decide) dX6_behindMark_25 rfl ?_
    refine z_r_land (q := 29) dX6_behindMark_28 rfl ?_
    refine z_iload_n (q := 30) 1 dX6_behindMark_29 rfl rfl ?_
    refine z_i2l (q := 31) (p2 c1) dX6_behindMark_30 rfl ?_
    refine z_lcmp_ne (q := 35) (t := 38) (p3 c1) (p4 c1) dX6_behindMark_31 (rfl : _ = 32) dX6_behindMark_32 (by decide) rfl (fun c2 => ?_) (fun c2 => ?_)
    · refine z_iinc (q := 41) (L' := [(0, 1, x0), (3, 0, x3), (4, 0, (x4 + (-1)))]) 2 dX6_behindMark_38 rfl rfl (by decide) rfl ?_
      refine z_goto (t := 13) dX6_behindMark_41 (by decide) ?_
      exact u2 c1 c2 hl0
    · refine z_iload (q := 37) 2 dX6_behindMark_35 rfl rfl ?_
      exact z_iret rfl dX6_behindMark_37 ⟨hl0, u3 c1 c2⟩
theorem b_X6_isNumber_0 {D : zD} {d : Nat} {G : zG} {h : zH} {Q : zO → zG → zH → Prop} {x0 : Int} (hd : 2 ≤ d) (p1 : -1 ≤ x0) (p2 : x0 < 72057594037927936) (p3 : z_in (zlen x0))
    (u1 : (zlen x0) < 1 → Q (.inl (some (0, 0))) G h)
    (u2 : ¬ ((zlen x0) < 1) → (zlen x0) ≤ 6 → z_Y D M_X6_isNumber d 20 [(0, 1, x0), (2, 0, (zlen x0)), (3, 0, 0)] [] G h Q)
    (u3 : ¬ ((zlen x0) < 1) → ¬ ((zlen x0) ≤ 6) → Q (.inl (some (0, 0))) G h) :
    z_Y D M_X6_isNumber d 0 [(0, 1, x0)] [] G h Q := by
  intro hl0
  refine z_lload_n (q := 1) 0 dX6_isNumber_0 rfl rfl ?_
  have e1 := a_X6_lengthOf (D := D) (G := G) (h := h) (d := d - 1) (by omega) x0 p1 p2
  refine z_goS (q := 4) (av := [(1, x0)]) (rest := []) (z_toi) hl0 (z_Ei.K e1 (by omega) ?_) mo_X6_lengthOf np_X6_lengthOf k685 k686 rfl (nle rfl) dX6_isNumber_1 rfl
  refine z_istore_n (q := 5) (L' := [(0, 1, x0), (2, 0, (zlen x0))]) dX6_isNumber_4 rfl (by decide) rfl ?_
  refine z_iload_n (q := 6) 1 dX6_isNumber_5 rfl rfl ?_
  refine z_iconst (q := 7) dX6_isNumber_6 rfl ?_
  refine z_icmp_lt (q := 10) (t := 16) p3 ⟨by decide, by decide⟩ dX6_isNumber_7 (by decide) rfl (fun c1 => ?_) (fun c1 => ?_)
  · refine z_iconst (q := 17) dX6_isNumber_16 rfl ?_
    exact z_bret rfl (by decide) dX6_isNumber_17 ⟨hl0, u1 c1⟩
  · refine z_iload_n (q := 11) 1 dX6_isNumber_10 rfl rfl ?_
    refine z_bipush (q := 13) dX6_isNumber_11 rfl (by decide) ?_
    refine z_icmp_le (q := 16) (t := 18) p3 ⟨by decide, by decide⟩ dX6_isNumber_13 (by decide) rfl (fun c2 => ?_) (fun c2 => ?_)
    · refine z_iconst (q := 19) dX6_isNumber_18 rfl ?_
      refine z_istore_n (q := 20) (L' := [(0, 1, x0), (2, 0, (zlen x0)), (3, 0, 0)]) dX6_isNumber_19 rfl (by decide) rfl ?_
      exact u2 c1 c2 hl0
    · refine z_iconst (q := 17) dX6_isNumber_16 rfl ?_
      exact z_bret rfl (by decide) dX6_isNumber_17 ⟨hl0, u3 c1 c2⟩
theorem b_X6_isNumber_20 {D : zD} {d : Nat} {G : zG} {h : zH} {Q : zO → zG → zH → Prop} {x0 x2 x3 : Int} (hd : 2 ≤ d) (p1 : z_in x3) (p2 : z_in x2) (p3 : ¬ (x2 ≤ x3) → z_in (z_iand (z_lushr x0 (8 * x3)) 255))
    (u1 : x2 ≤ x3 → Q (.inl (some (0, 1))) G h)
    (u2 : ¬ (x2 ≤ x3) → 48 ≤ (z_iand (z_lushr x0 (8 * x3)) 255) ∧ (z_iand (z_lushr x0 (8 * x3)) 255) ≤ 57 → z_Y D M_X6_isNumber d 20 [(0, 1, x0), (2, 0, x2), (3, 0, (x3 + 1))] [] G h Q)
    (u3 : ¬ (x2 ≤ x3) → ¬ (48 ≤ (z_iand (z_lushr x0 (8 * x3)) 255) ∧ (z_iand (z_lushr x0 (8 * x3)) 255) ≤ 57) → Q (.inl (some (0, 0))) G h) :
    z_Y D M_X6_isNumber d 20 [(0, 1, x0), (2, 0, x2), (3, 0, x3)] [] G h Q := by
  intro hl0
  refine z_iload_n (q := 21) 2 dX6_isNumber_20 rfl rfl ?_
  refine z_iload_n (q := 22) 1 dX6_isNumber_21 rfl rfl ?_
  refine z_icmp_ge (q := 25) (t := 50) p1 p2 dX6_isNumber_22 (by decide) rfl (fun c1 => ?_) (fun c1 => ?_)
  · refine z_iconst (q := 51) dX6_isNumber_50 rfl ?_
    exact z_bret rfl (by decide) dX6_isNumber_51 ⟨hl0, u1 c1⟩
  · refine z_lload_n (q := 26) 0 dX6_isNumber_25 rfl rfl ?_
    refine z_bipush (q := 28) dX6_isNumber_26 rfl (by decide) ?_
    refine z_iload_n (q := 29) 2 dX6_isNumber_28 rfl rfl ?_
    refine z_imul (q := 30) dX6_isNumber_29 rfl ?_
    refine z_r_lushr (q := 31) dX6_isNumber_30 rfl ?_
    refine z_l2i (q := 32) dX6_isNumber_31 rfl ?_
    refine z_sipush (q := 35) dX6_isNumber_32 rfl (by decide) ?_
    refine z_r_iand (q := 36) dX6_isNumber_35 rfl ?_
    have e1 := a_X6_isDigit (D := D) (G := G) (h := h) (d := d - 1) (by omega) (z_iand (z_lushr x0 (8 * x3)) 255) (p3 c1)
    refine z_goS (q := 39) (av := [(0, (z_iand (z_lushr x0 (8 * x3)) 255))]) (rest := []) (z_toi) hl0 (z_Ei.K e1 (by omega) ?_) mo_X6_isDigit np_X6_isDigit k688 k497 rfl (nle rfl) dX6_isNumber_36 rfl
    by_cases c2 : 48 ≤ (z_iand (z_lushr x0 (8 * x3)) 255) ∧ (z_iand (z_lushr x0 (8 * x3)) 255) ≤ 57
    · rw [z_b1 c2]
      refine z_if_ne (q := 42) (t := 44) ⟨by decide, by decide⟩ dX6_isNumber_39 (by decide) rfl (fun _ => ?_) (fun c => absurd c (by decide))
      refine z_iinc (q := 47) (L' := [(0, 1, x0), (2, 0, x2), (3, 0, (x3 + 1))]) 2 dX6_isNumber_44 rfl rfl (by decide) rfl ?_
      refine z_goto (t := 20) dX6_isNumber_47 (by decide) ?_
      exact u2 c1 c2 hl0
    · rw [z_b0 c2]
      refine z_if_ne (q := 42) (t := 44) ⟨by decide, by decide⟩ dX6_isNumber_39 (by decide) rfl (fun c => absurd c (by decide)) (fun _ => ?_)
      refine z_iconst (q := 43) dX6_isNumber_42 rfl ?_
      exact z_bret rfl (by decide) dX6_isNumber_43 ⟨hl0, u3 c1 c2⟩
theorem b_X6_valueOf_0 {D : zD} {d : Nat} {G : zG} {h : zH} {Q : zO → zG → zH → Prop} {x0 : Int} (hd : 2 ≤ d) (p1 : -1 ≤ x0) (p2 : x0 < 72057594037927936)
    (u1 : z_Y D M_X6_valueOf d 9 [(0, 1, x0), (2, 0, 0), (3, 0, ((zlen x0) - 1))] [] G h Q) :
    z_Y D M_X6_valueOf d 0 [(0, 1, x0)] [] G h Q := by
  intro hl0
  refine z_iconst (q := 1) dX6_valueOf_0 rfl ?_
  refine z_istore_n (q := 2) (L' := [(0, 1, x0), (2, 0, 0)]) dX6_valueOf_1 rfl (by decide) rfl ?_
  refine z_lload_n (q := 3) 0 dX6_valueOf_2 rfl rfl ?_
  have e1 := a_X6_lengthOf (D := D) (G := G) (h := h) (d := d - 1) (by omega) x0 p1 p2
  refine z_goS (q := 6) (av := [(1, x0)]) (rest := []) (z_toi) hl0 (z_Ei.K e1 (by omega) ?_) mo_X6_lengthOf np_X6_lengthOf k685 k686 rfl (nle rfl) dX6_valueOf_3 rfl
  refine z_iconst (q := 7) dX6_valueOf_6 rfl ?_
  refine z_isub (q := 8) dX6_valueOf_7 rfl ?_
  refine z_istore_n (q := 9) (L' := [(0, 1, x0), (2, 0, 0), (3, 0, ((zlen x0) - 1))]) dX6_valueOf_8 rfl (by decide) rfl ?_
  exact u1 hl0
theorem b_X6_valueOf_9 {D : zD} {d : Nat} {G : zG} {h : zH} {Q : zO → zG → zH → Prop} {x0 x2 x3 : Int} (p1 : z_in x3)
    (u1 : x3 < 0 → Q (.inl (some (0, x2))) G h)
    (u2 : ¬ (x3 < 0) → z_Y D M_X6_valueOf d 9 [(0, 1, x0), (2, 0, (((10 * x2) + (z_iand (z_lushr x0 (8 * x3)) 255)) - 48)), (3, 0, (x3 + (-1)))] [] G h Q) :
    z_Y D M_X6_valueOf d 9 [(0, 1, x0), (2, 0, x2), (3, 0, x3)] [] G h Q := by
  intro hl0
  refine z_iload_n (q := 10) 2 dX6_valueOf_9 rfl rfl ?_
  refine z_if_lt (q := 13) (t := 39) p1 dX6_valueOf_10 (by decide) rfl (fun c1 => ?_) (fun c1 => ?_)
  · refine z_iload_n (q := 40) 1 dX6_valueOf_39 rfl rfl ?_
    exact z_iret rfl dX6_valueOf_40 ⟨hl0, u1 c1⟩
  · refine z_bipush (q := 15) dX6_valueOf_13 rfl (by decide) ?_
    refine z_iload_n (q := 16) 1 dX6_valueOf_15 rfl rfl ?_
    refine z_imul (q := 17) dX6_valueOf_16 rfl ?_
    refine z_lload_n (q := 18) 0 dX6_valueOf_17 rfl rfl ?_
    refine z_bipush (q := 20) dX6_valueOf_18 rfl (by decide) ?_
    refine z_iload_n (q := 21) 2 dX6_valueOf_20 rfl rfl ?_
    refine z_imul (q := 22) dX6_valueOf_21 rfl ?_
    refine z_r_lushr (q := 23) dX6_valueOf_22 rfl ?_
    refine z_l2i (q := 24) dX6_valueOf_23 rfl ?_
    refine z_sipush (q := 27) dX6_valueOf_24 rfl (by decide) ?_
    refine z_r_iand (q := 28) dX6_valueOf_27 rfl ?_
    refine z_iadd (q := 29) dX6_valueOf_28 rfl ?_
    refine z_bipush (q := 31) dX6_valueOf_29 rfl (by decide) ?_
    refine z_isub (q := 32) dX6_valueOf_31 rfl ?_
    refine z_istore_n (q := 33) (L' := [(0, 1, x0), (2, 0, (((10 * x2) + (z_iand (z_lushr x0 (8 * x3)) 255)) - 48)), (3, 0, x3)]) dX6_valueOf_32 rfl (by decide) rfl ?_
    refine z_iinc (q := 36) (L' := [(0, 1, x0), (2, 0, (((10 * x2) + (z_iand (z_lushr x0 (8 * x3)) 255)) - 48)), (3, 0, (x3 + (-1)))]) 2 dX6_valueOf_33 rfl rfl (by decide) rfl ?_
    refine z_goto (t := 9) dX6_valueOf_36 (by decide) ?_
    exact u2 c1 hl0
theorem b_X6_ofValue_0 {D : zD} {d : Nat} {G : zG} {h : zH} {Q : zO → zG → zH → Prop} {x0 : Int} (p1 : z_in (48 + (z_irem x0 10)))
    (u1 : z_Y D M_X6_ofValue d 17 [(1, 1, (48 + (z_irem x0 10))), (3, 0, (z_idiv x0 10)), (4, 0, 1)] [] G h Q) :
    z_Y D M_X6_ofValue d 0 [(0, 0, x0)] [] G h Q := by
  intro hl0
  refine z_bipush (q := 2) dX6_ofValue_0 rfl (by decide) ?_
  refine z_iload_n (q := 3) 0 dX6_ofValue_2 rfl rfl ?_
  refine z_bipush (q := 5) dX6_ofValue_3 rfl (by decide) ?_
  refine z_r_irem (q := 6) (by decide) dX6_ofValue_5 rfl ?_
  refine z_iadd (q := 7) dX6_ofValue_6 rfl ?_
  refine z_i2l (q := 8) p1 dX6_ofValue_7 rfl ?_
  refine z_lstore_n (q := 9) (L' := [(0, 0, x0), (1, 1, (48 + (z_irem x0 10)))]) dX6_ofValue_8 rfl (by decide) rfl ?_
  refine z_iload_n (q := 10) 0 dX6_ofValue_9 rfl rfl ?_
  refine z_bipush (q := 12) dX6_ofValue_10 rfl (by decide) ?_
  refine z_r_idiv (q := 13) (by decide) dX6_ofValue_12 rfl ?_
  refine z_istore_n (q := 14) (L' := [(0, 0, x0), (1, 1, (48 + (z_irem x0 10))), (3, 0, (z_idiv x0 10))]) dX6_ofValue_13 rfl (by decide) rfl ?_
  refine z_iconst (q := 15) dX6_ofValue_14 rfl ?_
  refine z_istore (q := 17) (L' := [(0, 0, x0), (1, 1, (48 + (z_irem x0 10))), (3, 0, (z_idiv x0 10)), (4, 0, 1)]) dX6_ofValue_15 rfl (by decide) rfl ?_
  refine z_sub (L' := [(1, 1, (48 + (z_irem x0 10))), (3, 0, (z_idiv x0 10)), (4, 0, 1)]) [1, 2, 3] rfl ?_
  exact u1 hl0
theorem b_X6_ofValue_17 {D : zD} {d : Nat} {G : zG} {h : zH} {Q : zO → zG → zH → Prop} {x1 x3 x4 : Int} (p1 : z_in x4) (p2 : ¬ (6 ≤ x4) → z_in x3) (p3 : ¬ (6 ≤ x4) → ¬ (x3 = 0) → z_in (48 + (z_irem x3 10)))
    (u1 : 6 ≤ x4 → Q (.inl (some (1, x1))) G h)
    (u2 : ¬ (6 ≤ x4) → x3 = 0 → Q (.inl (some (1, x1))) G h)
    (u3 : ¬ (6 ≤ x4) → ¬ (x3 = 0) → z_Y D M_X6_ofValue d 17 [(1, 1, (z_lor x1 (z_lshl (48 + (z_irem x3 10)) (8 * x4)))), (3, 0, (z_idiv x3 10)), (4, 0, (x4 + 1))] [] G h Q) :
    z_Y D M_X6_ofValue d 17 [(1, 1, x1), (3, 0, x3), (4, 0, x4)] [] G h Q := by
  intro hl0
  refine z_iload (q := 19) 2 dX6_ofValue_17 rfl rfl ?_
  refine z_bipush (q := 21) dX6_ofValue_19 rfl (by decide) ?_
  refine z_icmp_ge (q := 24) (t := 56) p1 ⟨by decide, by decide⟩ dX6_ofValue_21 (by decide) rfl (fun c1 => ?_) (fun c1 => ?_)
  · refine z_lload_n (q := 57) 0 dX6_ofValue_56 rfl rfl ?_
    exact z_lret rfl dX6_ofValue_57 ⟨hl0, u1 c1⟩
  · refine z_iload_n (q := 25) 1 dX6_ofValue_24 rfl rfl ?_
    refine z_if_eq (q := 28) (t := 56) (p2 c1) dX6_ofValue_25 (by decide) rfl (fun c2 => ?_) (fun c2 => ?_)
    · refine z_lload_n (q := 57) 0 dX6_ofValue_56 rfl rfl ?_
      exact z_lret rfl dX6_ofValue_57 ⟨hl0, u2 c1 c2⟩
    · refine z_lload_n (q := 29) 0 dX6_ofValue_28 rfl rfl ?_
      refine z_bipush (q := 31) dX6_ofValue_29 rfl (by decide) ?_
      refine z_iload_n (q := 32) 1 dX6_ofValue_31 rfl rfl ?_
      refine z_bipush (q := 34) dX6_ofValue_32 rfl (by decide) ?_
      refine z_r_irem (q := 35) (by decide) dX6_ofValue_34 rfl ?_
      refine z_iadd (q := 36) dX6_ofValue_35 rfl ?_
      refine z_i2l (q := 37) (p3 c1 c2) dX6_ofValue_36 rfl ?_
      refine z_bipush (q := 39) dX6_ofValue_37 rfl (by decide) ?_
      refine z_iload (q := 41) 2 dX6_ofValue_39 rfl rfl ?_
      refine z_imul (q := 42) dX6_ofValue_41 rfl ?_
      refine z_r_lshl (q := 43) dX6_ofValue_42 rfl ?_
      refine z_r_lor (q := 44) dX6_ofValue_43 rfl ?_
      refine z_lstore_n (q := 45) (L' := [(1, 1, (z_lor x1 (z_lshl (48 + (z_irem x3 10)) (8 * x4)))), (3, 0, x3), (4, 0, x4)]) dX6_ofValue_44 rfl (by decide) rfl ?_
      refine z_iload_n (q := 46) 1 dX6_ofValue_45 rfl rfl ?_
      refine z_bipush (q := 48) dX6_ofValue_46 rfl (by decide) ?_
      refine z_r_idiv (q := 49) (by decide) dX6_ofValue_48 rfl ?_
      refine z_istore_n (q := 50) (L' := [(1, 1, (z_lor x1 (z_lshl (48 + (z_irem x3 10)) (8 * x4)))), (3, 0, (z_idiv x3 10)), (4, 0, x4)]) dX6_ofValue_49 rfl (by decide) rfl ?_
      refine z_iinc (q := 53) (L' := [(1, 1, (z_lor x1 (z_lshl (48 + (z_irem x3 10)) (8 * x4)))), (3, 0, (z_idiv x3 10)), (4, 0, (x4 + 1))]) 2 dX6_ofValue_50 rfl rfl (by decide) rfl ?_
      refine z_goto (t := 17) dX6_ofValue_53 (by decide) ?_
      exact u3 c1 c2 hl0
theorem b_X6_sortKey_0 {D : zD} {d : Nat} {G : zG} {h : zH} {Q : zO → zG → zH → Prop} {x0 : Int} (hd : 2 ≤ d) (p1 : -1 ≤ x0) (p2 : x0 < 72057594037927936)
    (u1 : Q (.inl (some (1, (z_lshl x0 (8 * (7 - (zlen x0))))))) G h) :
    z_Y D M_X6_sortKey d 0 [(0, 1, x0)] [] G h Q := by
  intro hl0
  refine z_lload_n (q := 1) 0 dX6_sortKey_0 rfl rfl ?_
  refine z_bipush (q := 3) dX6_sortKey_1 rfl (by decide) ?_
  refine z_bipush (q := 5) dX6_sortKey_3 rfl (by decide) ?_
  refine z_lload_n (q := 6) 0 dX6_sortKey_5 rfl rfl ?_
  have e1 := a_X6_lengthOf (D := D) (G := G) (h := h) (d := d - 1) (by omega) x0 p1 p2
  refine z_goS (q := 9) (av := [(1, x0)]) (rest := [(0, 7), (0, 8), (1, x0)]) (z_toi) hl0 (z_Ei.K e1 (by omega) ?_) mo_X6_lengthOf np_X6_lengthOf k685 k686 rfl (nle rfl) dX6_sortKey_6 rfl
  refine z_isub (q := 10) dX6_sortKey_9 rfl ?_
  refine z_imul (q := 11) dX6_sortKey_10 rfl ?_
  refine z_r_lshl (q := 12) dX6_sortKey_11 rfl ?_
  exact z_lret rfl dX6_sortKey_12 ⟨hl0, u1⟩
theorem b_X13_in_0 {D : zD} {d : Nat} {G : zG} {h : zH} {Q : zO → zG → zH → Prop} {x0 x2 x4 : Int} (p1 : z_in64 x0) (p2 : z_in64 x2) (p3 : ¬ (x0 < x2) → z_in64 x4)
    (u1 : x0 < x2 → Q (.inl (some (0, 0))) G h)
    (u2 : ¬ (x0 < x2) → x4 < x0 → Q (.inl (some (0, 0))) G h)
    (u3 : ¬ (x0 < x2) → ¬ (x4 < x0) → Q (.inl (some (0, 1))) G h) :
    z_Y D M_X13_in d 0 [(0, 1, x0), (2, 1, x2), (4, 1, x4)] [] G h Q := by
  intro hl0
  refine z_lload_n (q := 1) 0 dX13_in_0 rfl rfl ?_
  refine z_lload_n (q := 2) 1 dX13_in_1 rfl rfl ?_
  refine z_lcmp_lt (q := 6) (t := 17) p1 p2 dX13_in_2 (rfl : _ = 3) dX13_in_3 (by decide) rfl (fun c1 => ?_) (fun c1 => ?_)
  · refine z_iconst (q := 18) dX13_in_17 rfl ?_
    exact z_bret rfl (by decide) dX13_in_18 ⟨hl0, u1 c1⟩
  · refine z_lload_n (q := 7) 0 dX13_in_6 rfl rfl ?_
    refine z_lload (q := 9) 2 dX13_in_7 rfl rfl ?_
    refine z_lcmp_gt (q := 13) (t := 17) p1 (p3 c1) dX13_in_9 (rfl : _ = 10) dX13_in_10 (by decide) rfl (fun c2 => ?_) (fun c2 => ?_)
    · refine z_iconst (q := 18) dX13_in_17 rfl ?_
      exact z_bret rfl (by decide) dX13_in_18 ⟨hl0, u2 c1 c2⟩
    · refine z_iconst (q := 14) dX13_in_13 rfl ?_
      refine z_goto (t := 18) dX13_in_14 (by decide) ?_
      exact z_bret rfl (by decide) dX13_in_18 ⟨hl0, u3 c1 c2⟩
theorem b_X13_at_0 {D : zD} {d : Nat} {G : zG} {h : zH} {Q : zO → zG → zH → Prop} {x0 x1 x2 : Int}
    (u1 : Q (.inl (some (0, (((72 * x0) + (6 * x1)) + x2)))) G h) :
    z_Y D M_X13_at d 0 [(0, 0, x0), (1, 0, x1), (2, 0, x2)] [] G h Q := by
  intro hl0
  refine z_bipush (q := 2) dX13_at_0 rfl (by decide) ?_
  refine z_iload_n (q := 3) 0 dX13_at_2 rfl rfl ?_
  refine z_imul (q := 4) dX13_at_3 rfl ?_
  refine z_bipush (q := 6) dX13_at_4 rfl (by decide) ?_
  refine z_iload_n (q := 7) 1 dX13_at_6 rfl rfl ?_
  refine z_imul (q := 8) dX13_at_7 rfl ?_
  refine z_iadd (q := 9) dX13_at_8 rfl ?_
  refine z_iload_n (q := 10) 2 dX13_at_9 rfl rfl ?_
  refine z_iadd (q := 11) dX13_at_10 rfl ?_
  exact z_iret rfl dX13_at_11 ⟨hl0, u1⟩
theorem b_X13_length_0 {D : zD} {d : Nat} {G : zG} {h : zH} {Q : zO → zG → zH → Prop} {x0 : Int}
    (u1 : z_Y D M_X13_length d 4 [(2, 0, 0), (3, 1, x0)] [] G h Q) :
    z_Y D M_X13_length d 0 [(0, 1, x0)] [] G h Q := by
  intro hl0
  refine z_iconst (q := 1) dX13_length_0 rfl ?_
  refine z_istore_n (q := 2) (L' := [(0, 1, x0), (2, 0, 0)]) dX13_length_1 rfl (by decide) rfl ?_
  refine z_lload_n (q := 3) 0 dX13_length_2 rfl rfl ?_
  refine z_lstore_n (q := 4) (L' := [(0, 1, x0), (2, 0, 0), (3, 1, x0)]) dX13_length_3 rfl (by decide) rfl ?_
  refine z_sub (L' := [(2, 0, 0), (3, 1, x0)]) [1, 2] rfl ?_
  exact u1 hl0
theorem b_X13_length_4 {D : zD} {d : Nat} {G : zG} {h : zH} {Q : zO → zG → zH → Prop} {x2 x3 : Int} (p1 : z_in64 x3)
    (u1 : x3 ≤ 0 → Q (.inl (some (0, x2))) G h)
    (u2 : ¬ (x3 ≤ 0) → z_Y D M_X13_length d 4 [(2, 0, (x2 + 1)), (3, 1, (z_lshr x3 8))] [] G h Q) :
    z_Y D M_X13_length d 4 [(2, 0, x2), (3, 1, x3)] [] G h Q := by
  intro hl0
  refine z_lload_n (q := 5) 1 dX13_length_4 rfl rfl ?_
  refine z_lconst0 (q := 6) dX13_length_5 rfl ?_
  refine z_lcmp_le (q := 10) (t := 21) p1 ⟨by decide, by decide⟩ dX13_length_6 (rfl : _ = 7) dX13_length_7 (by decide) rfl (fun c1 => ?_) (fun c1 => ?_)
  · refine z_iload_n (q := 22) 0 dX13_length_21 rfl rfl ?_
    exact z_iret rfl dX13_length_22 ⟨hl0, u1 c1⟩
  · refine z_iinc (q := 13) (L' := [(2, 0, (x2 + 1)), (3, 1, x3)]) 0 dX13_length_10 rfl rfl (by decide) rfl ?_
    refine z_lload_n (q := 14) 1 dX13_length_13 rfl rfl ?_
    refine z_bipush (q := 16) dX13_length_14 rfl (by decide) ?_
    refine z_r_lshr (q := 17) dX13_length_16 rfl ?_
    refine z_lstore_n (q := 18) (L' := [(2, 0, (x2 + 1)), (3, 1, (z_lshr x3 8))]) dX13_length_17 rfl (by decide) rfl ?_
    refine z_goto (t := 4) dX13_length_18 (by decide) ?_
    exact u2 c1 hl0
theorem b_X13_isDigit_0 {D : zD} {d : Nat} {G : zG} {h : zH} {Q : zO → zG → zH → Prop} {x0 : Int} (p1 : z_in x0)
    (u1 : x0 < 48 → Q (.inl (some (0, 0))) G h)
    (u2 : ¬ (x0 < 48) → 57 < x0 → Q (.inl (some (0, 0))) G h)
    (u3 : ¬ (x0 < 48) → ¬ (57 < x0) → Q (.inl (some (0, 1))) G h) :
    z_Y D M_X13_isDigit d 0 [(0, 0, x0)] [] G h Q := by
  intro hl0
  refine z_iload_n (q := 1) 0 dX13_isDigit_0 rfl rfl ?_
  refine z_bipush (q := 3) dX13_isDigit_1 rfl (by decide) ?_
  refine z_icmp_lt (q := 6) (t := 16) p1 ⟨by decide, by decide⟩ dX13_isDigit_3 (by decide) rfl (fun c1 => ?_) (fun c1 => ?_)
  · refine z_iconst (q := 17) dX13_isDigit_16 rfl ?_
    exact z_bret rfl (by decide) dX13_isDigit_17 ⟨hl0, u1 c1⟩
  · refine z_iload_n (q := 7) 0 dX13_isDigit_6 rfl rfl ?_
    refine z_bipush (q := 9) dX13_isDigit_7 rfl (by decide) ?_
    refine z_icmp_gt (q := 12) (t := 16) p1 ⟨by decide, by decide⟩ dX13_isDigit_9 (by decide) rfl (fun c2 => ?_) (fun c2 => ?_)
    · refine z_iconst (q := 17) dX13_isDigit_16 rfl ?_
      exact z_bret rfl (by decide) dX13_isDigit_17 ⟨hl0, u2 c1 c2⟩
    · refine z_iconst (q := 13) dX13_isDigit_12 rfl ?_
      refine z_goto (t := 17) dX13_isDigit_13 (by decide) ?_
      exact z_bret rfl (by decide) dX13_isDigit_17 ⟨hl0, u3 c1 c2⟩
theorem b_X13_markOf_0 {D : zD} {d : Nat} {G : zG} {h : zH} {Q : zO → zG → zH → Prop} {x0 : Int} (p1 : z_in x0)
    (u1 : ¬ x0 = 0 → ¬ x0 = 1 → ¬ x0 = 2 → Q (.inl (some (0, 46))) G h)
    (u2 : ¬ x0 = 0 → ¬ x0 = 1 → ¬ (¬ x0 = 2) → Q (.inl (some (0, 47))) G h)
    (u3 : ¬ x0 = 0 → ¬ (¬ x0 = 1) → Q (.inl (some (0, 58))) G h)
    (u4 : ¬ (¬ x0 = 0) → Q (.inl (some (0, 45))) G h) :
    z_Y D M_X13_markOf d 0 [(0, 0, x0)] [] G h Q := by
  intro hl0
  refine z_iload_n (q := 1) 0 dX13_markOf_0 rfl rfl ?_
  refine z_if_ne (q := 4) (t := 9) p1 dX13_markOf_1 (by decide) rfl (fun c1 => ?_) (fun c1 => ?_)
  · refine z_iload_n (q := 10) 0 dX13_markOf_9 rfl rfl ?_
    refine z_iconst (q := 11) dX13_markOf_10 rfl ?_
    refine z_icmp_ne (q := 14) (t := 19) p1 ⟨by decide, by decide⟩ dX13_markOf_11 (by decide) rfl (fun c2 => ?_) (fun c2 => ?_)
    · refine z_iload_n (q := 20) 0 dX13_markOf_19 rfl rfl ?_
      refine z_iconst (q := 21) dX13_markOf_20 rfl ?_
      refine z_icmp_ne (q := 24) (t := 29) p1 ⟨by decide, by decide⟩ dX13_markOf_21 (by decide) rfl (fun c3 => ?_) (fun c3 => ?_)
      · refine z_bipush (q := 31) dX13_markOf_29 rfl (by decide) ?_
        exact z_iret rfl dX13_markOf_31 ⟨hl0, u1 c1 c2 c3⟩
      · refine z_bipush (q := 26) dX13_markOf_24 rfl (by decide) ?_
        refine z_goto (t := 31) dX13_markOf_26 (by decide) ?_
        exact z_iret rfl dX13_markOf_31 ⟨hl0, u2 c1 c2 c3⟩
    · refine z_bipush (q := 16) dX13_markOf_14 rfl (by decide) ?_
      refine z_goto (t := 31) dX13_markOf_16 (by decide) ?_
      exact z_iret rfl dX13_markOf_31 ⟨hl0, u3 c1 c2⟩
  · refine z_bipush (q := 6) dX13_markOf_4 rfl (by decide) ?_
    refine z_goto (t := 31) dX13_markOf_6 (by decide) ?_
    exact z_iret rfl dX13_markOf_31 ⟨hl0, u4 c1⟩
theorem b_X13_isLetter_0 {D : zD} {d : Nat} {G : zG} {h : zH} {Q : zO → zG → zH → Prop} {x0 : Int} (p1 : z_in x0)
    (u1 : x0 < 97 → Q (.inl (some (0, 0))) G h)
    (u2 : ¬ (x0 < 97) → 122 < x0 → Q (.inl (some (0, 0))) G h)
    (u3 : ¬ (x0 < 97) → ¬ (122 < x0) → Q (.inl (some (0, 1))) G h) :
    z_Y D M_X13_isLetter d 0 [(0, 0, x0)] [] G h Q := by
  intro hl0
  refine z_iload_n (q := 1) 0 dX13_isLetter_0 rfl rfl ?_
  refine z_bipush (q := 3) dX13_isLetter_1 rfl (by decide) ?_
  refine z_icmp_lt (q := 6) (t := 16) p1 ⟨by decide, by decide⟩ dX13_isLetter_3 (by decide) rfl (fun c1 => ?_) (fun c1 => ?_)
  · refine z_iconst (q := 17) dX13_isLetter_16 rfl ?_
    exact z_bret rfl (by decide) dX13_isLetter_17 ⟨hl0, u1 c1⟩
  · refine z_iload_n (q := 7) 0 dX13_isLetter_6 rfl rfl ?_
    refine z_bipush (q := 9) dX13_isLetter_7 rfl (by decide) ?_
    refine z_icmp_gt (q := 12) (t := 16) p1 ⟨by decide, by decide⟩ dX13_isLetter_9 (by decide) rfl (fun c2 => ?_) (fun c2 => ?_)
    · refine z_iconst (q := 17) dX13_isLetter_16 rfl ?_
      exact z_bret rfl (by decide) dX13_isLetter_17 ⟨hl0, u2 c1 c2⟩
    · refine z_iconst (q := 13) dX13_isLetter_12 rfl ?_
      refine z_goto (t := 17) dX13_isLetter_13 (by decide) ?_
      exact z_bret rfl (by decide) dX13_isLetter_17 ⟨hl0, u3 c1 c2⟩
theorem b_X13_isMark_0 {D : zD} {d : Nat} {G : zG} {h : zH} {Q : zO → zG → zH → Prop} {x0 : Int} (p1 : z_in x0)
    (u1 : x0 = 45 → Q (.inl (some (0, 1))) G h)
    (u2 : ¬ (x0 = 45) → x0 = 58 → Q (.inl (some (0, 1))) G h)
    (u3 : ¬ (x0 = 45) → ¬ (x0 = 58) → x0 = 47 → Q (.inl (some (0, 1))) G h)
    (u4 : ¬ (x0 = 45) → ¬ (x0 = 58) → ¬ (x0 = 47) → ¬ x0 = 46 → Q (.inl (some (0, 0))) G h)
    (u5 : ¬ (x0 = 45) → ¬ (x0 = 58) → ¬ (x0 = 47) → ¬ (¬ x0 = 46) → Q (.inl (some (0, 1))) G h) :
    z_Y D M_X13_isMark d 0 [(0, 0, x0)] [] G h Q := by
  intro hl0
  refine z_iload_n (q := 1) 0 dX13_isMark_0 rfl rfl ?_
  refine z_bipush (q := 3) dX13_isMark_1 rfl (by decide) ?_
  refine z_icmp_eq (q := 6) (t := 24) p1 ⟨by decide, by decide⟩ dX13_isMark_3 (by decide) rfl (fun c1 => ?_) (fun c1 => ?_)
  · refine z_iconst (q := 25) dX13_isMark_24 rfl ?_
    refine z_goto (t := 29) dX13_isMark_25 (by decide) ?_
    exact z_bret rfl (by decide) dX13_isMark_29 ⟨hl0, u1 c1⟩
  · refine z_iload_n (q := 7) 0 dX13_isMark_6 rfl rfl ?_
    refine z_bipush (q := 9) dX13_isMark_7 rfl (by decide) ?_
    refine z_icmp_eq (q := 12) (t := 24) p1 ⟨by decide, by decide⟩ dX13_isMark_9 (by decide) rfl (fun c2 => ?_) (fun c2 => ?_)
    · refine z_iconst (q := 25) dX13_isMark_24 rfl ?_
      refine z_goto (t := 29) dX13_isMark_25 (by decide) ?_
      exact z_bret rfl (by decide) dX13_isMark_29 ⟨hl0, u2 c1 c2⟩
    · refine z_iload_n (q := 13) 0 dX13_isMark_12 rfl rfl ?_
      refine z_bipush (q := 15) dX13_isMark_13 rfl (by decide) ?_
      refine z_icmp_eq (q := 18) (t := 24) p1 ⟨by decide, by decide⟩ dX13_isMark_15 (by decide) rfl (fun c3 => ?_) (fun c3 => ?_)
      · refine z_iconst (q := 25) dX13_isMark_24 rfl ?_
        refine z_goto (t := 29) dX13_isMark_25 (by decide) ?_
        exact z_bret rfl (by decide) dX13_isMark_29 ⟨hl0, u3 c1 c2 c3⟩
      · refine z_iload_n (q := 19) 0 dX13_isMark_18 rfl rfl ?_
        refine z_bipush (q := 21) dX13_isMark_19 rfl (by decide) ?_
        refine z_icmp_ne (q := 24) (t := 28) p1 ⟨by decide, by decide⟩ dX13_isMark_21 (by decide) rfl (fun c4 => ?_) (fun c4 => ?_)
        · refine z_iconst (q := 29) dX13_isMark_28 rfl ?_
          exact z_bret rfl (by decide) dX13_isMark_29 ⟨hl0, u4 c1 c2 c3 c4⟩
        · refine z_iconst (q := 25) dX13_isMark_24 rfl ?_
          refine z_goto (t := 29) dX13_isMark_25 (by decide) ?_
          exact z_bret rfl (by decide) dX13_isMark_29 ⟨hl0, u5 c1 c2 c3 c4⟩
theorem b_X13_byteOf_0 {D : zD} {d : Nat} {G : zG} {h : zH} {Q : zO → zG → zH → Prop} {x0 x2 x3 : Int}
    (u1 : Q (.inl (some (0, (z_land (z_lshr x0 (8 * ((x2 - 1) - x3))) 255)))) G h) :
    z_Y D M_X13_byteOf d 0 [(0, 1, x0), (2, 0, x2), (3, 0, x3)] [] G h Q := by
  intro hl0
  refine z_lload_n (q := 1) 0 dX13_byteOf_0 rfl rfl ?_
  refine z_bipush (q := 3) dX13_byteOf_1 rfl (by decide) ?_
  refine z_iload_n (q := 4) 1 dX13_byteOf_3 rfl rfl ?_
  refine z_iconst (q := 5) dX13_byteOf_4 rfl ?_
  refine z_isub (q := 6) dX13_byteOf_5 rfl ?_
  refine z_iload_n (q := 7) 2 dX13_byteOf_6 rfl rfl ?_
  refine z_isub (q := 8) dX13_byteOf_7 rfl ?_
  refine z_imul (q := 9) dX13_byteOf_8 rfl ?_
  refine z_r_lshr (q := 10) dX13_byteOf_9 rfl ?_
  refine z_ldc2 (q := 13) (n := 255) k1472 (by decide) dX13_byteOf_10 rfl ?_
  refine z_r_land (q := 14) dX13_byteOf_13 rfl ?_
  refine z_l2i (q := 15) dX13_byteOf_14 rfl ?_
  exact z_iret rfl dX13_byteOf_15 ⟨hl0, u1⟩
