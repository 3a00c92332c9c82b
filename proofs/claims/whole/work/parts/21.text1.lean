theorem b_X6_lengthOf_0 {D : zD} {d : Nat} {G : zG} {h : zH} {Q : zO → zG → zH → Prop} {x0 : Int}
    (u1 : z_Y D M_X6_lengthOf d 4 [(2, 0, 0), (3, 1, x0)] [] G h Q) :
    z_Y D M_X6_lengthOf d 0 [(0, 1, x0)] [] G h Q := by
  intro hl0
  refine z_iconst (q := 1) dX6_lengthOf_0 rfl ?_
  refine z_istore_n (q := 2) (L' := [(0, 1, x0), (2, 0, 0)]) dX6_lengthOf_1 rfl (by decide) rfl ?_
  refine z_lload_n (q := 3) 0 dX6_lengthOf_2 rfl rfl ?_
  refine z_lstore_n (q := 4) (L' := [(0, 1, x0), (2, 0, 0), (3, 1, x0)]) dX6_lengthOf_3 rfl (by decide) rfl ?_
  refine z_sub (L' := [(2, 0, 0), (3, 1, x0)]) [1, 2] rfl ?_
  exact u1 hl0
theorem b_X6_lengthOf_4 {D : zD} {d : Nat} {G : zG} {h : zH} {Q : zO → zG → zH → Prop} {x2 x3 : Int} (p1 : z_in64 x3) (p2 : ¬ (x3 = 0) → z_in x2)
    (u1 : x3 = 0 → Q (.inl (some (0, x2))) G h)
    (u2 : ¬ (x3 = 0) → 7 ≤ x2 → Q (.inl (some (0, x2))) G h)
    (u3 : ¬ (x3 = 0) → ¬ (7 ≤ x2) → z_Y D M_X6_lengthOf d 4 [(2, 0, (x2 + 1)), (3, 1, (z_lushr x3 8))] [] G h Q) :
    z_Y D M_X6_lengthOf d 4 [(2, 0, x2), (3, 1, x3)] [] G h Q := by
  intro hl0
  refine z_lload_n (q := 5) 1 dX6_lengthOf_4 rfl rfl ?_
  refine z_lconst0 (q := 6) dX6_lengthOf_5 rfl ?_
  refine z_lcmp_eq (q := 10) (t := 27) p1 ⟨by decide, by decide⟩ dX6_lengthOf_6 (rfl : _ = 7) dX6_lengthOf_7 (by decide) rfl (fun c1 => ?_) (fun c1 => ?_)
  · refine z_iload_n (q := 28) 0 dX6_lengthOf_27 rfl rfl ?_
    exact z_iret rfl dX6_lengthOf_28 ⟨hl0, u1 c1⟩
  · refine z_iload_n (q := 11) 0 dX6_lengthOf_10 rfl rfl ?_
    refine z_bipush (q := 13) dX6_lengthOf_11 rfl (by decide) ?_
    refine z_icmp_ge (q := 16) (t := 27) (p2 c1) ⟨by decide, by decide⟩ dX6_lengthOf_13 (by decide) rfl (fun c2 => ?_) (fun c2 => ?_)
    · refine z_iload_n (q := 28) 0 dX6_lengthOf_27 rfl rfl ?_
      exact z_iret rfl dX6_lengthOf_28 ⟨hl0, u2 c1 c2⟩
    · refine z_iinc (q := 19) (L' := [(2, 0, (x2 + 1)), (3, 1, x3)]) 0 dX6_lengthOf_16 rfl rfl (by decide) rfl ?_
      refine z_lload_n (q := 20) 1 dX6_lengthOf_19 rfl rfl ?_
      refine z_bipush (q := 22) dX6_lengthOf_20 rfl (by decide) ?_
      refine z_r_lushr (q := 23) dX6_lengthOf_22 rfl ?_
      refine z_lstore_n (q := 24) (L' := [(2, 0, (x2 + 1)), (3, 1, (z_lushr x3 8))]) dX6_lengthOf_23 rfl (by decide) rfl ?_
      refine z_goto (t := 4) dX6_lengthOf_24 (by decide) ?_
      exact u3 c1 c2 hl0
theorem b_X6_isDigit_0 {D : zD} {d : Nat} {G : zG} {h : zH} {Q : zO → zG → zH → Prop} {x0 : Int} (p1 : z_in x0)
    (u1 : x0 < 48 → Q (.inl (some (0, 0))) G h)
    (u2 : ¬ (x0 < 48) → 57 < x0 → Q (.inl (some (0, 0))) G h)
    (u3 : ¬ (x0 < 48) → ¬ (57 < x0) → Q (.inl (some (0, 1))) G h) :
    z_Y D M_X6_isDigit d 0 [(0, 0, x0)] [] G h Q := by
  intro hl0
  refine z_iload_n (q := 1) 0 dX6_isDigit_0 rfl rfl ?_
  refine z_bipush (q := 3) dX6_isDigit_1 rfl (by decide) ?_
  refine z_icmp_lt (q := 6) (t := 16) p1 ⟨by decide, by decide⟩ dX6_isDigit_3 (by decide) rfl (fun c1 => ?_) (fun c1 => ?_)
  · refine z_iconst (q := 17) dX6_isDigit_16 rfl ?_
    exact z_bret rfl (by decide) dX6_isDigit_17 ⟨hl0, u1 c1⟩
  · refine z_iload_n (q := 7) 0 dX6_isDigit_6 rfl rfl ?_
    refine z_bipush (q := 9) dX6_isDigit_7 rfl (by decide) ?_
    refine z_icmp_gt (q := 12) (t := 16) p1 ⟨by decide, by decide⟩ dX6_isDigit_9 (by decide) rfl (fun c2 => ?_) (fun c2 => ?_)
    · refine z_iconst (q := 17) dX6_isDigit_16 rfl ?_
      exact z_bret rfl (by decide) dX6_isDigit_17 ⟨hl0, u2 c1 c2⟩
    · refine z_iconst (q := 13) dX6_isDigit_12 rfl ?_
      refine z_goto (t := 17) dX6_isDigit_13 (by decide) ?_
      exact z_bret rfl (by decide) dX6_isDigit_17 ⟨hl0, u3 c1 c2⟩
theorem b_X6_isLetter_0 {D : zD} {d : Nat} {G : zG} {h : zH} {Q : zO → zG → zH → Prop} {x0 : Int} (p1 : z_in x0)
    (u1 : x0 < 97 → Q (.inl (some (0, 0))) G h)
    (u2 : ¬ (x0 < 97) → 122 < x0 → Q (.inl (some (0, 0))) G h)
    (u3 : ¬ (x0 < 97) → ¬ (122 < x0) → Q (.inl (some (0, 1))) G h) :
    z_Y D M_X6_isLetter d 0 [(0, 0, x0)] [] G h Q := by
  intro hl0
  refine z_iload_n (q := 1) 0 dX6_isLetter_0 rfl rfl ?_
  refine z_bipush (q := 3) dX6_isLetter_1 rfl (by decide) ?_
  refine z_icmp_lt (q := 6) (t := 16) p1 ⟨by decide, by decide⟩ dX6_isLetter_3 (by decide) rfl (fun c1 => ?_) (fun c1 => ?_)
  · refine z_iconst (q := 17) dX6_isLetter_16 rfl ?_
    exact z_bret rfl (by decide) dX6_isLetter_17 ⟨hl0, u1 c1⟩
  · refine z_iload_n (q := 7) 0 dX6_isLetter_6 rfl rfl ?_
    refine z_bipush (q := 9) dX6_isLetter_7 rfl (by decide) ?_
    refine z_icmp_gt (q := 12) (t := 16) p1 ⟨by decide, by decide⟩ dX6_isLetter_9 (by decide) rfl (fun c2 => ?_) (fun c2 => ?_)
    · refine z_iconst (q := 17) dX6_isLetter_16 rfl ?_
      exact z_bret rfl (by decide) dX6_isLetter_17 ⟨hl0, u2 c1 c2⟩
    · refine z_iconst (q := 13) dX6_isLetter_12 rfl ?_
      refine z_goto (t := 17) dX6_isLetter_13 (by decide) ?_
      exact z_bret rfl (by decide) dX6_isLetter_17 ⟨hl0, u3 c1 c2⟩
theorem b_X6_markOf_0 {D : zD} {d : Nat} {G : zG} {h : zH} {Q : zO → zG → zH → Prop} {x0 : Int}
    (u1 : z_Y D M_X6_markOf d 2 [(0, 0, x0), (1, 0, 0)] [] G h Q) :
    z_Y D M_X6_markOf d 0 [(0, 0, x0)] [] G h Q := by
  intro hl0
  refine z_iconst (q := 1) dX6_markOf_0 rfl ?_
  refine z_istore_n (q := 2) (L' := [(0, 0, x0), (1, 0, 0)]) dX6_markOf_1 rfl (by decide) rfl ?_
  exact u1 hl0
theorem b_X6_markOf_2 {D : zD} {d : Nat} {G : zG} {h : zH} {Q : zO → zG → zH → Prop} {x0 x1 : Int} (p1 : z_in x1) (p2 : ¬ (4 ≤ x1) → 0 ≤ x1) (p3 : ¬ (4 ≤ x1) → x1 < 4) (p4 : ¬ (4 ≤ x1) → z_in ((z_list [45, 58, 47, 46]) x1)) (p5 : ¬ (4 ≤ x1) → z_in x0)
    (u1 : 4 ≤ x1 → Q (.inl (some (0, (-1)))) G h)
    (u2 : ¬ (4 ≤ x1) → ¬ ((z_list [45, 58, 47, 46]) x1) = x0 → z_Y D M_X6_markOf d 2 [(0, 0, x0), (1, 0, (x1 + 1))] [] G h Q)
    (u3 : ¬ (4 ≤ x1) → ¬ (¬ ((z_list [45, 58, 47, 46]) x1) = x0) → Q (.inl (some (0, x1))) G h) :
    z_Y D M_X6_markOf d 2 [(0, 0, x0), (1, 0, x1)] [] G h Q := by
  intro hl0
  refine z_iload_n (q := 3) 1 dX6_markOf_2 rfl rfl ?_
  refine z_iconst (q := 4) dX6_markOf_3 rfl ?_
  refine z_icmp_ge (q := 7) (t := 24) p1 ⟨by decide, by decide⟩ dX6_markOf_4 (by decide) rfl (fun c1 => ?_) (fun c1 => ?_)
  · refine z_iconst (q := 25) dX6_markOf_24 rfl ?_
    exact z_iret rfl dX6_markOf_25 ⟨hl0, u1 c1⟩
  · refine z_gets (q := 10) (c := 2) (by decide) (by decide) k502 dX6_markOf_7 rfl ?_
    refine z_iload_n (q := 11) 1 dX6_markOf_10 rfl rfl ?_
    refine z_iald (q := 12) z_c2 (p2 c1) (p3 c1) dX6_markOf_11 rfl ?_
    refine z_iload_n (q := 13) 0 dX6_markOf_12 rfl rfl ?_
    refine z_icmp_ne (q := 16) (t := 18) (p4 c1) (p5 c1) dX6_markOf_13 (by decide) rfl (fun c2 => ?_) (fun c2 => ?_)
    · refine z_iinc (q := 21) (L' := [(0, 0, x0), (1, 0, (x1 + 1))]) 1 dX6_markOf_18 rfl rfl (by decide) rfl ?_
      refine z_goto (t := 2) dX6_markOf_21 (by decide) ?_
      exact u2 c1 c2 hl0
    · refine z_iload_n (q := 17) 1 dX6_markOf_16 rfl rfl ?_
      exact z_iret rfl dX6_markOf_17 ⟨hl0, u3 c1 c2⟩
theorem b_X6_byteOfMark_0 {D : zD} {d : Nat} {G : zG} {h : zH} {Q : zO → zG → zH → Prop} {x0 : Int} (p1 : z_in x0) (p2 : ¬ (x0 < 0) → ¬ (4 ≤ x0) → 0 ≤ x0) (p3 : ¬ (x0 < 0) → ¬ (4 ≤ x0) → x0 < 4)
    (u1 : x0 < 0 → Q (.inl (some (0, 0))) G h)
    (u2 : ¬ (x0 < 0) → 4 ≤ x0 → Q (.inl (some (0, 0))) G h)
    (u3 : ¬ (x0 < 0) → ¬ (4 ≤ x0) → Q (.inl (some (0, ((z_list [45, 58, 47, 46]) x0)))) G h) :
    z_Y D M_X6_byteOfMark d 0 [(0, 0, x0)] [] G h Q := by
  intro hl0
  refine z_iload_n (q := 1) 0 dX6_byteOfMark_0 rfl rfl ?_
  refine z_if_lt (q := 4) (t := 17) p1 dX6_byteOfMark_1 (by decide) rfl (fun c1 => ?_) (fun c1 => ?_)
  · refine z_iconst (q := 18) dX6_byteOfMark_17 rfl ?_
    exact z_iret rfl dX6_byteOfMark_18 ⟨hl0, u1 c1⟩
  · refine z_iload_n (q := 5) 0 dX6_byteOfMark_4 rfl rfl ?_
    refine z_iconst (q := 6) dX6_byteOfMark_5 rfl ?_
    refine z_icmp_ge (q := 9) (t := 17) p1 ⟨by decide, by decide⟩ dX6_byteOfMark_6 (by decide) rfl (fun c2 => ?_) (fun c2 => ?_)
    · refine z_iconst (q := 18) dX6_byteOfMark_17 rfl ?_
      exact z_iret rfl dX6_byteOfMark_18 ⟨hl0, u2 c1 c2⟩
    · refine z_gets (q := 12) (c := 2) (by decide) (by decide) k502 dX6_byteOfMark_9 rfl ?_
      refine z_iload_n (q := 13) 0 dX6_byteOfMark_12 rfl rfl ?_
      refine z_iald (q := 14) z_c2 (p2 c1 c2) (p3 c1 c2) dX6_byteOfMark_13 rfl ?_
      refine z_goto (t := 18) dX6_byteOfMark_14 (by decide) ?_
      exact z_iret rfl dX6_byteOfMark_18 ⟨hl0, u3 c1 c2⟩
theorem b_X0_of_0 {D : zD} {d : Nat} {G : zG} {h : zH} {Q : zO → zG → zH → Prop} {x0 x1 x2 : Int}
    (u1 : Q (.inl (some (0, (z_ior (z_ior (z_ishl x0 6) (z_ishl x1 3)) x2)))) G h) :
    z_Y D M_X0_of d 0 [(0, 0, x0), (1, 0, x1), (2, 0, x2)] [] G h Q := by
  intro hl0
  refine z_iload_n (q := 1) 0 dX0_of_0 rfl rfl ?_
  refine z_bipush (q := 3) dX0_of_1 rfl (by decide) ?_
  refine z_r_ishl (q := 4) dX0_of_3 rfl ?_
  refine z_iload_n (q := 5) 1 dX0_of_4 rfl rfl ?_
  refine z_iconst (q := 6) dX0_of_5 rfl ?_
  refine z_r_ishl (q := 7) dX0_of_6 rfl ?_
  refine z_r_ior (q := 8) dX0_of_7 rfl ?_
  refine z_iload_n (q := 9) 2 dX0_of_8 rfl rfl ?_
  refine z_r_ior (q := 10) dX0_of_9 rfl ?_
  exact z_iret rfl dX0_of_10 ⟨hl0, u1⟩
theorem b_X0_number_0 {D : zD} {d : Nat} {G : zG} {h : zH} {Q : zO → zG → zH → Prop} {x0 : Int}
    (u1 : Q (.inl (some (0, (z_ishr x0 6)))) G h) :
    z_Y D M_X0_number d 0 [(0, 0, x0)] [] G h Q := by
  intro hl0
  refine z_iload_n (q := 1) 0 dX0_number_0 rfl rfl ?_
  refine z_bipush (q := 3) dX0_number_1 rfl (by decide) ?_
  refine z_r_ishr (q := 4) dX0_number_3 rfl ?_
  exact z_iret rfl dX0_number_4 ⟨hl0, u1⟩
theorem b_X0_a_0 {D : zD} {d : Nat} {G : zG} {h : zH} {Q : zO → zG → zH → Prop} {x0 : Int}
    (u1 : Q (.inl (some (0, (z_iand (z_ishr x0 3) 7)))) G h) :
    z_Y D M_X0_a d 0 [(0, 0, x0)] [] G h Q := by
  intro hl0
  refine z_iload_n (q := 1) 0 dX0_a_0 rfl rfl ?_
  refine z_iconst (q := 2) dX0_a_1 rfl ?_
  refine z_r_ishr (q := 3) dX0_a_2 rfl ?_
  refine z_bipush (q := 5) dX0_a_3 rfl (by decide) ?_
  refine z_r_iand (q := 6) dX0_a_5 rfl ?_
  exact z_iret rfl dX0_a_6 ⟨hl0, u1⟩
theorem b_X0_b_0 {D : zD} {d : Nat} {G : zG} {h : zH} {Q : zO → zG → zH → Prop} {x0 : Int}
    (u1 : Q (.inl (some (0, (z_iand x0 7)))) G h) :
    z_Y D M_X0_b d 0 [(0, 0, x0)] [] G h Q := by
  intro hl0
  refine z_iload_n (q := 1) 0 dX0_b_0 rfl rfl ?_
  refine z_bipush (q := 3) dX0_b_1 rfl (by decide) ?_
  refine z_r_iand (q := 4) dX0_b_3 rfl ?_
  exact z_iret rfl dX0_b_4 ⟨hl0, u1⟩
