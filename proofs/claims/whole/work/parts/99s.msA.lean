theorem b_X13_shapeNow_0 {D : zD} {d : Nat} {G : zG} {h : zH} {Q : zO → zG → zH → Prop} (p1 : z_in ((h 88 32) % 2))
    (u1 : ((h 88 32) % 2) = 0 → Q (.inl (some (0, (((((h 89 8) * 8) + (h 90 8)) * 128) + 0)))) G h)
    (u2 : ¬ (((h 88 32) % 2) = 0) → Q (.inl (some (0, (((((h 89 8) * 8) + (h 90 8)) * 128) + (((h 89 9) * 8) + (h 90 9)))))) G h) :
    z_Y D M_X13_shapeNow d 0 [(0, 2, 88)] [] G h Q := by
  intro hl0
  refine z_aload_n (q := 1) 0 dX13_shapeNow_0 rfl rfl ?_
  refine z_gf (q := 4) (ki := 0) (v := (2, 89)) fX13_9 rfl (z_ldr rfl (hl0.ref 81 rfl)) (hl0.i 88 (by decide) rfl) dX13_shapeNow_1 rfl ?_
  refine z_bipush (q := 6) dX13_shapeNow_4 rfl (by decide) ?_
  refine z_iale (q := 7) (v := (h 89 8)) (hl0.a 89 (by decide) rfl) (by decide) (by decide) rfl dX13_shapeNow_6 rfl ?_
  refine z_bipush (q := 9) dX13_shapeNow_7 rfl (by decide) ?_
  refine z_imul (q := 10) dX13_shapeNow_9 rfl ?_
  refine z_aload_n (q := 11) 0 dX13_shapeNow_10 rfl rfl ?_
  refine z_gf (q := 14) (ki := 1) (v := (2, 90)) fX13_13 rfl (z_ldr rfl (hl0.ref 82 rfl)) (hl0.i 88 (by decide) rfl) dX13_shapeNow_11 rfl ?_
  refine z_bipush (q := 16) dX13_shapeNow_14 rfl (by decide) ?_
  refine z_iale (q := 17) (v := (h 90 8)) (hl0.a 90 (by decide) rfl) (by decide) (by decide) rfl dX13_shapeNow_16 rfl ?_
  refine z_iadd (q := 18) dX13_shapeNow_17 rfl ?_
  refine z_sipush (q := 21) dX13_shapeNow_18 rfl (by decide) ?_
  refine z_imul (q := 22) dX13_shapeNow_21 rfl ?_
  refine z_aload_n (q := 23) 0 dX13_shapeNow_22 rfl rfl ?_
  refine z_gf (q := 26) (ki := 32) (v := (0, ((h 88 32) % 2))) fX13_348 rfl rfl (hl0.i 88 (by decide) rfl) dX13_shapeNow_23 rfl ?_
  refine z_if_eq (q := 29) (t := 50) p1 dX13_shapeNow_26 (by decide) rfl (fun c1 => ?_) (fun c1 => ?_)
  · refine z_iconst (q := 51) dX13_shapeNow_50 rfl ?_
    refine z_iadd (q := 52) dX13_shapeNow_51 rfl ?_
    exact z_iret rfl dX13_shapeNow_52 ⟨hl0, u1 c1⟩
  · refine z_aload_n (q := 30) 0 dX13_shapeNow_29 rfl rfl ?_
    refine z_gf (q := 33) (ki := 0) (v := (2, 89)) fX13_9 rfl (z_ldr rfl (hl0.ref 81 rfl)) (hl0.i 88 (by decide) rfl) dX13_shapeNow_30 rfl ?_
    refine z_bipush (q := 35) dX13_shapeNow_33 rfl (by decide) ?_
    refine z_iale (q := 36) (v := (h 89 9)) (hl0.a 89 (by decide) rfl) (by decide) (by decide) rfl dX13_shapeNow_35 rfl ?_
    refine z_bipush (q := 38) dX13_shapeNow_36 rfl (by decide) ?_
    refine z_imul (q := 39) dX13_shapeNow_38 rfl ?_
    refine z_aload_n (q := 40) 0 dX13_shapeNow_39 rfl rfl ?_
    refine z_gf (q := 43) (ki := 1) (v := (2, 90)) fX13_13 rfl (z_ldr rfl (hl0.ref 82 rfl)) (hl0.i 88 (by decide) rfl) dX13_shapeNow_40 rfl ?_
    refine z_bipush (q := 45) dX13_shapeNow_43 rfl (by decide) ?_
    refine z_iale (q := 46) (v := (h 90 9)) (hl0.a 90 (by decide) rfl) (by decide) (by decide) rfl dX13_shapeNow_45 rfl ?_
    refine z_iadd (q := 47) dX13_shapeNow_46 rfl ?_
    refine z_goto (t := 51) dX13_shapeNow_47 (by decide) ?_
    refine z_iadd (q := 52) dX13_shapeNow_51 rfl ?_
    exact z_iret rfl dX13_shapeNow_52 ⟨hl0, u2 c1⟩
theorem b_X13_sum_0 {D : zD} {d : Nat} {G : zG} {h : zH} {Q : zO → zG → zH → Prop}
    (u1 : z_Ki D M_X13_shapeNow d [(2, 88)] G h (fun r G' h' => z_Y D M_X13_sum d 4 [(0, 2, 88)] [(0, r)] G' h' Q)) :
    z_Y D M_X13_sum d 0 [(0, 2, 88)] [] G h Q := by
  intro hl0
  refine z_aload_n (q := 1) 0 dX13_sum_0 rfl rfl ?_
  exact z_goV (q := 4) (av := []) (rest := []) cb11 (hl0.i 88 (by decide) rfl) z_toi hl0 (u1) mo_X13_shapeNow np_X13_shapeNow k1632 k1634 k85 rfl (nle rfl) dX13_sum_1 rfl
theorem b_X13_sum_4 {D : zD} {d : Nat} {G : zG} {h : zH} {Q : zO → zG → zH → Prop} {s0 : Int} (p1 : z_in s0)
    (u1 : z_Y D M_X13_sum d 8 [(0, 2, 88), (1, 1, s0), (3, 0, 0)] [] G h Q) :
    z_Y D M_X13_sum d 4 [(0, 2, 88)] [(0, s0)] G h Q := by
  intro hl0
  refine z_i2l (q := 5) p1 dX13_sum_4 rfl ?_
  refine z_lstore_n (q := 6) (L' := [(0, 2, 88), (1, 1, s0)]) dX13_sum_5 rfl (by decide) rfl ?_
  refine z_iconst (q := 7) dX13_sum_6 rfl ?_
  refine z_istore_n (q := 8) (L' := [(0, 2, 88), (1, 1, s0), (3, 0, 0)]) dX13_sum_7 rfl (by decide) rfl ?_
  exact u1 hl0
theorem b_X13_sum_8 {D : zD} {d : Nat} {G : zG} {h : zH} {Q : zO → zG → zH → Prop} {x1 x3 : Int} (p1 : z_in x3) (p2 : ¬ (72 ≤ x3) → 0 ≤ (576 + x3)) (p3 : ¬ (72 ≤ x3) → (576 + x3) < 864)
    (u1 : 72 ≤ x3 → z_Y D M_X13_sum d 39 [(0, 2, 88), (1, 1, x1), (3, 0, 0)] [] G h Q)
    (u2 : ¬ (72 ≤ x3) → z_Y D M_X13_sum d 8 [(0, 2, 88), (1, 1, ((31 * x1) + (h 91 (576 + x3)))), (3, 0, (x3 + 1))] [] G h Q) :
    z_Y D M_X13_sum d 8 [(0, 2, 88), (1, 1, x1), (3, 0, x3)] [] G h Q := by
  intro hl0
  refine z_iload_n (q := 9) 2 dX13_sum_8 rfl rfl ?_
  refine z_bipush (q := 11) dX13_sum_9 rfl (by decide) ?_
  refine z_icmp_ge (q := 14) (t := 37) p1 ⟨by decide, by decide⟩ dX13_sum_11 (by decide) rfl (fun c1 => ?_) (fun c1 => ?_)
  · refine z_iconst (q := 38) dX13_sum_37 rfl ?_
    refine z_istore_n (q := 39) (L' := [(0, 2, 88), (1, 1, x1), (3, 0, 0)]) dX13_sum_38 rfl (by decide) rfl ?_
    exact u1 c1 hl0
  · refine z_ldc2 (q := 17) (n := 31) k1636 (by decide) dX13_sum_14 rfl ?_
    refine z_lload_n (q := 18) 1 dX13_sum_17 rfl rfl ?_
    refine z_lmul (q := 19) dX13_sum_18 rfl ?_
    refine z_aload_n (q := 20) 0 dX13_sum_19 rfl rfl ?_
    refine z_gf (q := 23) (ki := 2) (v := (2, 91)) fX13_16 rfl (z_ldr rfl (hl0.ref 83 rfl)) (hl0.i 88 (by decide) rfl) dX13_sum_20 rfl ?_
    refine z_sipush (q := 26) dX13_sum_23 rfl (by decide) ?_
    refine z_iload_n (q := 27) 2 dX13_sum_26 rfl rfl ?_
    refine z_iadd (q := 28) dX13_sum_27 rfl ?_
    refine z_lale (q := 29) (v := (h 91 (576 + x3))) (hl0.a 91 (by decide) rfl) (p2 c1) (p3 c1) rfl dX13_sum_28 rfl ?_
    refine z_ladd (q := 30) dX13_sum_29 rfl ?_
    refine z_lstore_n (q := 31) (L' := [(0, 2, 88), (1, 1, ((31 * x1) + (h 91 (576 + x3)))), (3, 0, x3)]) dX13_sum_30 rfl (by decide) rfl ?_
    refine z_iinc (q := 34) (L' := [(0, 2, 88), (1, 1, ((31 * x1) + (h 91 (576 + x3)))), (3, 0, (x3 + 1))]) 2 dX13_sum_31 rfl rfl (by decide) rfl ?_
    refine z_goto (t := 8) dX13_sum_34 (by decide) ?_
    exact u2 c1 hl0
theorem b_X13_sum_39 {D : zD} {d : Nat} {G : zG} {h : zH} {Q : zO → zG → zH → Prop} {x1 x3 : Int} (p1 : z_in ((h 88 32) % 2)) (p2 : ¬ (((h 88 32) % 2) = 0) → z_in x3) (p3 : ¬ (((h 88 32) % 2) = 0) → ¬ (72 ≤ x3) → 0 ≤ (648 + x3)) (p4 : ¬ (((h 88 32) % 2) = 0) → ¬ (72 ≤ x3) → (648 + x3) < 864)
    (u1 : ((h 88 32) % 2) = 0 → z_Y D M_X13_sum d 75 [(1, 1, x1)] [] G h Q)
    (u2 : ¬ (((h 88 32) % 2) = 0) → 72 ≤ x3 → z_Y D M_X13_sum d 75 [(1, 1, x1)] [] G h Q)
    (u3 : ¬ (((h 88 32) % 2) = 0) → ¬ (72 ≤ x3) → z_Y D M_X13_sum d 39 [(0, 2, 88), (1, 1, ((31 * x1) + (h 91 (648 + x3)))), (3, 0, (x3 + 1))] [] G h Q) :
    z_Y D M_X13_sum d 39 [(0, 2, 88), (1, 1, x1), (3, 0, x3)] [] G h Q := by
  intro hl0
  refine z_aload_n (q := 40) 0 dX13_sum_39 rfl rfl ?_
  refine z_gf (q := 43) (ki := 32) (v := (0, ((h 88 32) % 2))) fX13_348 rfl rfl (hl0.i 88 (by decide) rfl) dX13_sum_40 rfl ?_
  refine z_if_eq (q := 46) (t := 75) p1 dX13_sum_43 (by decide) rfl (fun c1 => ?_) (fun c1 => ?_)
  · refine z_sub (L' := [(1, 1, x1)]) [1] rfl ?_
    exact u1 c1 hl0
  · refine z_iload_n (q := 47) 2 dX13_sum_46 rfl rfl ?_
    refine z_bipush (q := 49) dX13_sum_47 rfl (by decide) ?_
    refine z_icmp_ge (q := 52) (t := 75) (p2 c1) ⟨by decide, by decide⟩ dX13_sum_49 (by decide) rfl (fun c2 => ?_) (fun c2 => ?_)
    · refine z_sub (L' := [(1, 1, x1)]) [1] rfl ?_
      exact u2 c1 c2 hl0
    · refine z_ldc2 (q := 55) (n := 31) k1636 (by decide) dX13_sum_52 rfl ?_
      refine z_lload_n (q := 56) 1 dX13_sum_55 rfl rfl ?_
      refine z_lmul (q := 57) dX13_sum_56 rfl ?_
      refine z_aload_n (q := 58) 0 dX13_sum_57 rfl rfl ?_
      refine z_gf (q := 61) (ki := 2) (v := (2, 91)) fX13_16 rfl (z_ldr rfl (hl0.ref 83 rfl)) (hl0.i 88 (by decide) rfl) dX13_sum_58 rfl ?_
      refine z_sipush (q := 64) dX13_sum_61 rfl (by decide) ?_
      refine z_iload_n (q := 65) 2 dX13_sum_64 rfl rfl ?_
      refine z_iadd (q := 66) dX13_sum_65 rfl ?_
      refine z_lale (q := 67) (v := (h 91 (648 + x3))) (hl0.a 91 (by decide) rfl) (p3 c1 c2) (p4 c1 c2) rfl dX13_sum_66 rfl ?_
      refine z_ladd (q := 68) dX13_sum_67 rfl ?_
      refine z_lstore_n (q := 69) (L' := [(0, 2, 88), (1, 1, ((31 * x1) + (h 91 (648 + x3)))), (3, 0, x3)]) dX13_sum_68 rfl (by decide) rfl ?_
      refine z_iinc (q := 72) (L' := [(0, 2, 88), (1, 1, ((31 * x1) + (h 91 (648 + x3)))), (3, 0, (x3 + 1))]) 2 dX13_sum_69 rfl rfl (by decide) rfl ?_
      refine z_goto (t := 39) dX13_sum_72 (by decide) ?_
      exact u3 c1 c2 hl0
theorem b_X13_sum_75 {D : zD} {d : Nat} {G : zG} {h : zH} {Q : zO → zG → zH → Prop} {x1 : Int}
    (u1 : Q (.inl (some (0, (z_land (z_lxor (z_lxor x1 (z_lushr x1 21)) (z_lushr x1 43)) 4095)))) G h) :
    z_Y D M_X13_sum d 75 [(1, 1, x1)] [] G h Q := by
  intro hl0
  refine z_lload_n (q := 76) 0 dX13_sum_75 rfl rfl ?_
  refine z_lload_n (q := 77) 0 dX13_sum_76 rfl rfl ?_
  refine z_bipush (q := 79) dX13_sum_77 rfl (by decide) ?_
  refine z_r_lushr (q := 80) dX13_sum_79 rfl ?_
  refine z_r_lxor (q := 81) dX13_sum_80 rfl ?_
  refine z_lload_n (q := 82) 0 dX13_sum_81 rfl rfl ?_
  refine z_bipush (q := 84) dX13_sum_82 rfl (by decide) ?_
  refine z_r_lushr (q := 85) dX13_sum_84 rfl ?_
  refine z_r_lxor (q := 86) dX13_sum_85 rfl ?_
  refine z_ldc2 (q := 89) (n := 4095) k1637 (by decide) dX13_sum_86 rfl ?_
  refine z_r_land (q := 90) dX13_sum_89 rfl ?_
  refine z_l2i (q := 91) dX13_sum_90 rfl ?_
  exact z_iret rfl dX13_sum_91 ⟨hl0, u1⟩
theorem b_X13_isState_0 {D : zD} {d : Nat} {G : zG} {h : zH} {Q : zO → zG → zH → Prop} {x1 : Int} (p1 : 0 ≤ x1) (p2 : x1 < 1500)
    (u1 : z_Ki D M_X13_shapeNow d [(2, 88)] G h (fun r G' h' => z_Y D M_X13_isState d 10 [(0, 2, 88), (1, 0, x1)] [(0, r), (0, (h 102 x1))] G' h' Q)) :
    z_Y D M_X13_isState d 0 [(0, 2, 88), (1, 0, x1)] [] G h Q := by
  intro hl0
  refine z_aload_n (q := 1) 0 dX13_isState_0 rfl rfl ?_
  refine z_gf (q := 4) (ki := 23) (v := (2, 102)) fX13_60 rfl (z_ldr rfl (hl0.ref 94 rfl)) (hl0.i 88 (by decide) rfl) dX13_isState_1 rfl ?_
  refine z_iload_n (q := 5) 1 dX13_isState_4 rfl rfl ?_
  refine z_iale (q := 6) (v := (h 102 x1)) (hl0.a 102 (by decide) rfl) p1 p2 rfl dX13_isState_5 rfl ?_
  refine z_aload_n (q := 7) 0 dX13_isState_6 rfl rfl ?_
  exact z_goV (q := 10) (av := []) (rest := [(0, (h 102 x1))]) cb11 (hl0.i 88 (by decide) rfl) z_toi hl0 (u1) mo_X13_shapeNow np_X13_shapeNow k1632 k1634 k85 rfl (nle rfl) dX13_isState_7 rfl
theorem b_X13_isState_10 {D : zD} {d : Nat} {G : zG} {h : zH} {Q : zO → zG → zH → Prop} {s0 s1 x1 : Int} (p1 : z_in s0) (p2 : z_in s1)
    (u1 : s0 = s1 → z_Y D M_X13_isState d 17 [(0, 2, 88), (1, 0, x1), (2, 0, 0)] [] G h Q)
    (u2 : ¬ (s0 = s1) → Q (.inl (some (0, 0))) G h) :
    z_Y D M_X13_isState d 10 [(0, 2, 88), (1, 0, x1)] [(0, s1), (0, s0)] G h Q := by
  intro hl0
  refine z_icmp_eq (q := 13) (t := 15) p1 p2 dX13_isState_10 (by decide) rfl (fun c1 => ?_) (fun c1 => ?_)
  · refine z_iconst (q := 16) dX13_isState_15 rfl ?_
    refine z_istore_n (q := 17) (L' := [(0, 2, 88), (1, 0, x1), (2, 0, 0)]) dX13_isState_16 rfl (by decide) rfl ?_
    exact u1 c1 hl0
  · refine z_iconst (q := 14) dX13_isState_13 rfl ?_
    exact z_bret rfl (by decide) dX13_isState_14 ⟨hl0, u2 c1⟩
theorem b_X13_isState_17 {D : zD} {d : Nat} {G : zG} {h : zH} {Q : zO → zG → zH → Prop} {x1 x2 : Int} (p1 : z_in x2) (p2 : ¬ (72 ≤ x2) → 0 ≤ ((144 * x1) + x2)) (p3 : ¬ (72 ≤ x2) → ((144 * x1) + x2) < 216000) (p4 : ¬ (72 ≤ x2) → 0 ≤ (576 + x2)) (p5 : ¬ (72 ≤ x2) → (576 + x2) < 864) (p6 : ¬ (72 ≤ x2) → z_in64 (h 101 ((144 * x1) + x2))) (p7 : ¬ (72 ≤ x2) → z_in64 (h 91 (576 + x2)))
    (u1 : 72 ≤ x2 → z_Y D M_X13_isState d 59 [(0, 2, 88), (1, 0, x1), (2, 0, 0)] [] G h Q)
    (u2 : ¬ (72 ≤ x2) → (h 101 ((144 * x1) + x2)) = (h 91 (576 + x2)) → z_Y D M_X13_isState d 17 [(0, 2, 88), (1, 0, x1), (2, 0, (x2 + 1))] [] G h Q)
    (u3 : ¬ (72 ≤ x2) → ¬ ((h 101 ((144 * x1) + x2)) = (h 91 (576 + x2))) → Q (.inl (some (0, 0))) G h) :
    z_Y D M_X13_isState d 17 [(0, 2, 88), (1, 0, x1), (2, 0, x2)] [] G h Q := by
  intro hl0
  refine z_iload_n (q := 18) 2 dX13_isState_17 rfl rfl ?_
  refine z_bipush (q := 20) dX13_isState_18 rfl (by decide) ?_
  refine z_icmp_ge (q := 23) (t := 57) p1 ⟨by decide, by decide⟩ dX13_isState_20 (by decide) rfl (fun c1 => ?_) (fun c1 => ?_)
  · refine z_iconst (q := 58) dX13_isState_57 rfl ?_
    refine z_istore_n (q := 59) (L' := [(0, 2, 88), (1, 0, x1), (2, 0, 0)]) dX13_isState_58 rfl (by decide) rfl ?_
    exact u1 c1 hl0
  · refine z_aload_n (q := 24) 0 dX13_isState_23 rfl rfl ?_
    refine z_gf (q := 27) (ki := 22) (v := (2, 101)) fX13_57 rfl (z_ldr rfl (hl0.ref 93 rfl)) (hl0.i 88 (by decide) rfl) dX13_isState_24 rfl ?_
    refine z_sipush (q := 30) dX13_isState_27 rfl (by decide) ?_
    refine z_iload_n (q := 31) 1 dX13_isState_30 rfl rfl ?_
    refine z_imul (q := 32) dX13_isState_31 rfl ?_
    refine z_iload_n (q := 33) 2 dX13_isState_32 rfl rfl ?_
    refine z_iadd (q := 34) dX13_isState_33 rfl ?_
    refine z_lale (q := 35) (v := (h 101 ((144 * x1) + x2))) (hl0.a 101 (by decide) rfl) (p2 c1) (p3 c1) rfl dX13_isState_34 rfl ?_
    refine z_aload_n (q := 36) 0 dX13_isState_35 rfl rfl ?_
    refine z_gf (q := 39) (ki := 2) (v := (2, 91)) fX13_16 rfl (z_ldr rfl (hl0.ref 83 rfl)) (hl0.i 88 (by decide) rfl) dX13_isState_36 rfl ?_
    refine z_sipush (q := 42) dX13_isState_39 rfl (by decide) ?_
    refine z_iload_n (q := 43) 2 dX13_isState_42 rfl rfl ?_
    refine z_iadd (q := 44) dX13_isState_43 rfl ?_
    refine z_lale (q := 45) (v := (h 91 (576 + x2))) (hl0.a 91 (by decide) rfl) (p4 c1) (p5 c1) rfl dX13_isState_44 rfl ?_
    refine z_lcmp_eq (q := 49) (t := 51) (p6 c1) (p7 c1) dX13_isState_45 (rfl : _ = 46) dX13_isState_46 (by decide) rfl (fun c2 => ?_) (fun c2 => ?_)
    · refine z_iinc (q := 54) (L' := [(0, 2, 88), (1, 0, x1), (2, 0, (x2 + 1))]) 2 dX13_isState_51 rfl rfl (by decide) rfl ?_
      refine z_goto (t := 17) dX13_isState_54 (by decide) ?_
      exact u2 c1 c2 hl0
    · refine z_iconst (q := 50) dX13_isState_49 rfl ?_
      exact z_bret rfl (by decide) dX13_isState_50 ⟨hl0, u3 c1 c2⟩
theorem b_X13_isState_59 {D : zD} {d : Nat} {G : zG} {h : zH} {Q : zO → zG → zH → Prop} {x1 x2 : Int} (p1 : z_in ((h 88 32) % 2)) (p2 : ¬ (((h 88 32) % 2) = 0) → z_in x2) (p3 : ¬ (((h 88 32) % 2) = 0) → ¬ (72 ≤ x2) → 0 ≤ (((144 * x1) + 72) + x2)) (p4 : ¬ (((h 88 32) % 2) = 0) → ¬ (72 ≤ x2) → (((144 * x1) + 72) + x2) < 216000) (p5 : ¬ (((h 88 32) % 2) = 0) → ¬ (72 ≤ x2) → 0 ≤ (648 + x2)) (p6 : ¬ (((h 88 32) % 2) = 0) → ¬ (72 ≤ x2) → (648 + x2) < 864) (p7 : ¬ (((h 88 32) % 2) = 0) → ¬ (72 ≤ x2) → z_in64 (h 101 (((144 * x1) + 72) + x2))) (p8 : ¬ (((h 88 32) % 2) = 0) → ¬ (72 ≤ x2) → z_in64 (h 91 (648 + x2)))
    (u1 : ((h 88 32) % 2) = 0 → Q (.inl (some (0, 1))) G h)
    (u2 : ¬ (((h 88 32) % 2) = 0) → 72 ≤ x2 → Q (.inl (some (0, 1))) G h)
    (u3 : ¬ (((h 88 32) % 2) = 0) → ¬ (72 ≤ x2) → (h 101 (((144 * x1) + 72) + x2)) = (h 91 (648 + x2)) → z_Y D M_X13_isState d 59 [(0, 2, 88), (1, 0, x1), (2, 0, (x2 + 1))] [] G h Q)
    (u4 : ¬ (((h 88 32) % 2) = 0) → ¬ (72 ≤ x2) → ¬ ((h 101 (((144 * x1) + 72) + x2)) = (h 91 (648 + x2))) → Q (.inl (some (0, 0))) G h) :
    z_Y D M_X13_isState d 59 [(0, 2, 88), (1, 0, x1), (2, 0, x2)] [] G h Q := by
  intro hl0
  refine z_aload_n (q := 60) 0 dX13_isState_59 rfl rfl ?_
  refine z_gf (q := 63) (ki := 32) (v := (0, ((h 88 32) % 2))) fX13_348 rfl rfl (hl0.i 88 (by decide) rfl) dX13_isState_60 rfl ?_
  refine z_if_eq (q := 66) (t := 109) p1 dX13_isState_63 (by decide) rfl (fun c1 => ?_) (fun c1 => ?_)
  · refine z_iconst (q := 110) dX13_isState_109 rfl ?_
    exact z_bret rfl (by decide) dX13_isState_110 ⟨hl0, u1 c1⟩
  · refine z_iload_n (q := 67) 2 dX13_isState_66 rfl rfl ?_
    refine z_bipush (q := 69) dX13_isState_67 rfl (by decide) ?_
    refine z_icmp_ge (q := 72) (t := 109) (p2 c1) ⟨by decide, by decide⟩ dX13_isState_69 (by decide) rfl (fun c2 => ?_) (fun c2 => ?_)
    · refine z_iconst (q := 110) dX13_isState_109 rfl ?_
      exact z_bret rfl (by decide) dX13_isState_110 ⟨hl0, u2 c1 c2⟩
    · refine z_aload_n (q := 73) 0 dX13_isState_72 rfl rfl ?_
      refine z_gf (q := 76) (ki := 22) (v := (2, 101)) fX13_57 rfl (z_ldr rfl (hl0.ref 93 rfl)) (hl0.i 88 (by decide) rfl) dX13_isState_73 rfl ?_
      refine z_sipush (q := 79) dX13_isState_76 rfl (by decide) ?_
      refine z_iload_n (q := 80) 1 dX13_isState_79 rfl rfl ?_
      refine z_imul (q := 81) dX13_isState_80 rfl ?_
      refine z_bipush (q := 83) dX13_isState_81 rfl (by decide) ?_
      refine z_iadd (q := 84) dX13_isState_83 rfl ?_
      refine z_iload_n (q := 85) 2 dX13_isState_84 rfl rfl ?_
      refine z_iadd (q := 86) dX13_isState_85 rfl ?_
      refine z_lale (q := 87) (v := (h 101 (((144 * x1) + 72) + x2))) (hl0.a 101 (by decide) rfl) (p3 c1 c2) (p4 c1 c2) rfl dX13_isState_86 rfl ?_
      refine z_aload_n (q := 88) 0 dX13_isState_87 rfl rfl ?_
      refine z_gf (q := 91) (ki := 2) (v := (2, 91)) fX13_16 rfl (z_ldr rfl (hl0.ref 83 rfl)) (hl0.i 88 (by decide) rfl) dX13_isState_88 rfl ?_
      refine z_sipush (q := 94) dX13_isState_91 rfl (by decide) ?_
      refine z_iload_n (q := 95) 2 dX13_isState_94 rfl rfl ?_
      refine z_iadd (q := 96) dX13_isState_95 rfl ?_
      refine z_lale (q := 97) (v := (h 91 (648 + x2))) (hl0.a 91 (by decide) rfl) (p5 c1 c2) (p6 c1 c2) rfl dX13_isState_96 rfl ?_
      refine z_lcmp_eq (q := 101) (t := 103) (p7 c1 c2) (p8 c1 c2) dX13_isState_97 (rfl : _ = 98) dX13_isState_98 (by decide) rfl (fun c3 => ?_) (fun c3 => ?_)
      · refine z_iinc (q := 106) (L' := [(0, 2, 88), (1, 0, x1), (2, 0, (x2 + 1))]) 2 dX13_isState_103 rfl rfl (by decide) rfl ?_
        refine z_goto (t := 59) dX13_isState_106 (by decide) ?_
        exact u3 c1 c2 c3 hl0
      · refine z_iconst (q := 102) dX13_isState_101 rfl ?_
        exact z_bret rfl (by decide) dX13_isState_102 ⟨hl0, u4 c1 c2 c3⟩
theorem b_X13_search_0 {D : zD} {d : Nat} {G : zG} {h : zH} {Q : zO → zG → zH → Prop}
    (u1 : z_Ki D M_X13_sum d [(2, 88)] G h (fun r G' h' => z_Y D M_X13_search d 8 [(0, 2, 88)] [(0, r), (2, 104)] G' h' Q)) :
    z_Y D M_X13_search d 0 [(0, 2, 88)] [] G h Q := by
  intro hl0
  refine z_aload_n (q := 1) 0 dX13_search_0 rfl rfl ?_
  refine z_gf (q := 4) (ki := 25) (v := (2, 104)) fX13_66 rfl (z_ldr rfl (hl0.ref 96 rfl)) (hl0.i 88 (by decide) rfl) dX13_search_1 rfl ?_
  refine z_aload_n (q := 5) 0 dX13_search_4 rfl rfl ?_
  exact z_goV (q := 8) (av := []) (rest := [(2, 104)]) cb11 (hl0.i 88 (by decide) rfl) z_toi hl0 (u1) mo_X13_sum np_X13_sum k1628 k1630 k84 rfl (nle rfl) dX13_search_5 rfl
theorem b_X13_search_8 {D : zD} {d : Nat} {G : zG} {h : zH} {Q : zO → zG → zH → Prop} {s1 : Int} (p1 : 0 ≤ s1) (p2 : s1 < 4096)
    (u1 : z_Y D M_X13_search d 10 [(0, 2, 88), (1, 0, (h 104 s1))] [] G h Q) :
    z_Y D M_X13_search d 8 [(0, 2, 88)] [(0, s1), (2, 104)] G h Q := by
  intro hl0
  refine z_iale (q := 9) (v := (h 104 s1)) (hl0.a 104 (by decide) rfl) p1 p2 rfl dX13_search_8 rfl ?_
  refine z_istore_n (q := 10) (L' := [(0, 2, 88), (1, 0, (h 104 s1))]) dX13_search_9 rfl (by decide) rfl ?_
  exact u1 hl0
theorem b_X13_search_10 {D : zD} {d : Nat} {G : zG} {h : zH} {Q : zO → zG → zH → Prop} {x1 : Int} (p1 : z_in x1)
    (u1 : x1 = (-1) → Q (.inl (some (0, (-1)))) G h)
    (u2 : ¬ (x1 = (-1)) → z_Ki D M_X13_isState d [(2, 88), (0, x1)] G h (fun r G' h' => z_Y D M_X13_search d 20 [(0, 2, 88), (1, 0, x1)] [(0, r)] G' h' Q)) :
    z_Y D M_X13_search d 10 [(0, 2, 88), (1, 0, x1)] [] G h Q := by
  intro hl0
  refine z_iload_n (q := 11) 1 dX13_search_10 rfl rfl ?_
  refine z_iconst (q := 12) dX13_search_11 rfl ?_
  refine z_icmp_eq (q := 15) (t := 35) p1 ⟨by decide, by decide⟩ dX13_search_12 (by decide) rfl (fun c1 => ?_) (fun c1 => ?_)
  · refine z_iconst (q := 36) dX13_search_35 rfl ?_
    exact z_iret rfl dX13_search_36 ⟨hl0, u1 c1⟩
  · refine z_aload_n (q := 16) 0 dX13_search_15 rfl rfl ?_
    refine z_iload_n (q := 17) 1 dX13_search_16 rfl rfl ?_
    exact z_goV (q := 20) (av := [(0, x1)]) (rest := []) cb11 (hl0.i 88 (by decide) rfl) z_toi hl0 (u2 c1) mo_X13_isState np_X13_isState k1658 k1660 k91 rfl (nle rfl) dX13_search_17 rfl
theorem b_X13_search_20 {D : zD} {d : Nat} {G : zG} {h : zH} {Q : zO → zG → zH → Prop} {s0 x1 : Int} (p1 : z_in s0) (p2 : s0 = 0 → 0 ≤ x1) (p3 : s0 = 0 → x1 < 1500)
    (u1 : s0 = 0 → z_Y D M_X13_search d 10 [(0, 2, 88), (1, 0, (h 103 x1))] [] G h Q)
    (u2 : ¬ (s0 = 0) → Q (.inl (some (0, x1))) G h) :
    z_Y D M_X13_search d 20 [(0, 2, 88), (1, 0, x1)] [(0, s0)] G h Q := by
  intro hl0
  refine z_if_eq (q := 23) (t := 25) p1 dX13_search_20 (by decide) rfl (fun c1 => ?_) (fun c1 => ?_)
  · refine z_aload_n (q := 26) 0 dX13_search_25 rfl rfl ?_
    refine z_gf (q := 29) (ki := 24) (v := (2, 103)) fX13_63 rfl (z_ldr rfl (hl0.ref 95 rfl)) (hl0.i 88 (by decide) rfl) dX13_search_26 rfl ?_
    refine z_iload_n (q := 30) 1 dX13_search_29 rfl rfl ?_
    refine z_iale (q := 31) (v := (h 103 x1)) (hl0.a 103 (by decide) rfl) (p2 c1) (p3 c1) rfl dX13_search_30 rfl ?_
    refine z_istore_n (q := 32) (L' := [(0, 2, 88), (1, 0, (h 103 x1))]) dX13_search_31 rfl (by decide) rfl ?_
    refine z_goto (t := 10) dX13_search_32 (by decide) ?_
    exact u1 c1 hl0
  · refine z_iload_n (q := 24) 1 dX13_search_23 rfl rfl ?_
    exact z_iret rfl dX13_search_24 ⟨hl0, u2 c1⟩
theorem b_X13_keepState_0 {D : zD} {d : Nat} {G : zG} {h : zH} {Q : zO → zG → zH → Prop}
    (u1 : z_Ki D M_X13_sum d [(2, 88)] G h (fun r G' h' => z_Y D M_X13_keepState d 4 [(0, 2, 88)] [(0, r)] G' h' Q)) :
    z_Y D M_X13_keepState d 0 [(0, 2, 88)] [] G h Q := by
  intro hl0
  refine z_aload_n (q := 1) 0 dX13_keepState_0 rfl rfl ?_
  exact z_goV (q := 4) (av := []) (rest := []) cb11 (hl0.i 88 (by decide) rfl) z_toi hl0 (u1) mo_X13_sum np_X13_sum k1628 k1630 k84 rfl (nle rfl) dX13_keepState_1 rfl
theorem b_X13_keepState_4 {D : zD} {d : Nat} {G : zG} {h : zH} {Q : zO → zG → zH → Prop} {s0 : Int}
    (u1 : z_Ki D M_X13_shapeNow d [(2, 88)] G h (fun r G' h' => z_Y D M_X13_keepState d 17 [(0, 2, 88), (1, 0, s0)] [(0, r), (0, (h 88 29)), (2, 102)] G' h' Q)) :
    z_Y D M_X13_keepState d 4 [(0, 2, 88)] [(0, s0)] G h Q := by
  intro hl0
  refine z_istore_n (q := 5) (L' := [(0, 2, 88), (1, 0, s0)]) dX13_keepState_4 rfl (by decide) rfl ?_
  refine z_aload_n (q := 6) 0 dX13_keepState_5 rfl rfl ?_
  refine z_gf (q := 9) (ki := 23) (v := (2, 102)) fX13_60 rfl (z_ldr rfl (hl0.ref 94 rfl)) (hl0.i 88 (by decide) rfl) dX13_keepState_6 rfl ?_
  refine z_aload_n (q := 10) 0 dX13_keepState_9 rfl rfl ?_
  refine z_gf (q := 13) (ki := 29) (v := (0, (h 88 29))) fX13_359 rfl rfl (hl0.i 88 (by decide) rfl) dX13_keepState_10 rfl ?_
  refine z_aload_n (q := 14) 0 dX13_keepState_13 rfl rfl ?_
  exact z_goV (q := 17) (av := []) (rest := [(0, (h 88 29)), (2, 102)]) cb11 (hl0.i 88 (by decide) rfl) z_toi hl0 (u1) mo_X13_shapeNow np_X13_shapeNow k1632 k1634 k85 rfl (nle rfl) dX13_keepState_14 rfl
theorem b_X13_keepState_17 {D : zD} {d : Nat} {G : zG} {h : zH} {Q : zO → zG → zH → Prop} {s1 s2 x1 : Int} (p1 : 0 ≤ s1) (p2 : s1 < 1500)
    (u1 : z_Y D M_X13_keepState d 20 [(0, 2, 88), (1, 0, x1), (2, 0, 0)] [] G (z_wr h 102 s1 s2) Q) :
    z_Y D M_X13_keepState d 17 [(0, 2, 88), (1, 0, x1)] [(0, s2), (0, s1), (2, 102)] G h Q := by
  intro hl0
  refine z_isn (q := 18) (hl0.i 102 (by decide) rfl) (hl0.n 102 (by decide) rfl) p1 p2 dX13_keepState_17 rfl ?_
  have hl1 := hl0.wr (v := s2) (hl0.i 102 (by decide) rfl) (i := s1) rfl
  refine z_iconst (q := 19) dX13_keepState_18 rfl ?_
  refine z_istore_n (q := 20) (L' := [(0, 2, 88), (1, 0, x1), (2, 0, 0)]) dX13_keepState_19 rfl (by decide) rfl ?_
  exact u1 hl1
theorem b_X13_keepState_20 {D : zD} {d : Nat} {G : zG} {h : zH} {Q : zO → zG → zH → Prop} {x1 x2 : Int} (p1 : z_in x2) (p2 : 72 ≤ x2 → 0 ≤ x1) (p3 : 72 ≤ x2 → x1 < 4096) (p4 : 72 ≤ x2 → 0 ≤ (h 88 29)) (p5 : 72 ≤ x2 → (h 88 29) < 1500) (p6 : ¬ (72 ≤ x2) → 0 ≤ (576 + x2)) (p7 : ¬ (72 ≤ x2) → (576 + x2) < 864) (p8 : ¬ (72 ≤ x2) → 0 ≤ ((144 * (h 88 29)) + x2)) (p9 : ¬ (72 ≤ x2) → ((144 * (h 88 29)) + x2) < 216000) (p10 : ¬ (72 ≤ x2) → 0 ≤ (648 + x2)) (p11 : ¬ (72 ≤ x2) → (648 + x2) < 864) (p12 : ¬ (72 ≤ x2) → 0 ≤ (((144 * (h 88 29)) + 72) + x2)) (p13 : ¬ (72 ≤ x2) → (((144 * (h 88 29)) + 72) + x2) < 216000)
    (u1 : 72 ≤ x2 → Q (.inl none) G (z_wr (z_wr (z_wr h 103 (h 88 29) (h 104 x1)) 104 x1 (h 88 29)) 88 29 ((h 88 29) + 1)))
    (u2 : ¬ (72 ≤ x2) → z_Y D M_X13_keepState d 20 [(0, 2, 88), (1, 0, x1), (2, 0, (x2 + 1))] [] G (z_wr (z_wr h 101 ((144 * (h 88 29)) + x2) (h 91 (576 + x2))) 101 (((144 * (h 88 29)) + 72) + x2) (h 91 (648 + x2))) Q) :
    z_Y D M_X13_keepState d 20 [(0, 2, 88), (1, 0, x1), (2, 0, x2)] [] G h Q := by
  intro hl0
  refine z_iload_n (q := 21) 2 dX13_keepState_20 rfl rfl ?_
  refine z_bipush (q := 23) dX13_keepState_21 rfl (by decide) ?_
  refine z_icmp_ge (q := 26) (t := 85) p1 ⟨by decide, by decide⟩ dX13_keepState_23 (by decide) rfl (fun c1 => ?_) (fun c1 => ?_)
  · refine z_aload_n (q := 86) 0 dX13_keepState_85 rfl rfl ?_
    refine z_gf (q := 89) (ki := 24) (v := (2, 103)) fX13_63 rfl (z_ldr rfl (hl0.ref 95 rfl)) (hl0.i 88 (by decide) rfl) dX13_keepState_86 rfl ?_
    refine z_aload_n (q := 90) 0 dX13_keepState_89 rfl rfl ?_
    refine z_gf (q := 93) (ki := 29) (v := (0, (h 88 29))) fX13_359 rfl rfl (hl0.i 88 (by decide) rfl) dX13_keepState_90 rfl ?_
    refine z_aload_n (q := 94) 0 dX13_keepState_93 rfl rfl ?_
    refine z_gf (q := 97) (ki := 25) (v := (2, 104)) fX13_66 rfl (z_ldr rfl (hl0.ref 96 rfl)) (hl0.i 88 (by decide) rfl) dX13_keepState_94 rfl ?_
    refine z_iload_n (q := 98) 1 dX13_keepState_97 rfl rfl ?_
    refine z_iale (q := 99) (v := (h 104 x1)) (hl0.a 104 (by decide) rfl) (p2 c1) (p3 c1) rfl dX13_keepState_98 rfl ?_
    refine z_isn (q := 100) (hl0.i 103 (by decide) rfl) (hl0.n 103 (by decide) rfl) (p4 c1) (p5 c1) dX13_keepState_99 rfl ?_
    have hl1 := hl0.wr (v := (h 104 x1)) (hl0.i 103 (by decide) rfl) (i := (h 88 29)) rfl
    refine z_aload_n (q := 101) 0 dX13_keepState_100 rfl rfl ?_
    refine z_gf (q := 104) (ki := 25) (v := (2, 104)) fX13_66 rfl (z_ldr rfl (hl1.ref 96 rfl)) (hl1.i 88 (by decide) rfl) dX13_keepState_101 rfl ?_
    refine z_iload_n (q := 105) 1 dX13_keepState_104 rfl rfl ?_
    refine z_aload_n (q := 106) 0 dX13_keepState_105 rfl rfl ?_
    refine z_gf (q := 109) (ki := 29) (v := (0, (h 88 29))) fX13_359 rfl (z_ldi rfl (w_na (by decide))) (hl1.i 88 (by decide) rfl) dX13_keepState_106 rfl ?_
    refine z_isn (q := 110) (hl1.i 104 (by decide) rfl) (hl1.n 104 (by decide) rfl) (p2 c1) (p3 c1) dX13_keepState_109 rfl ?_
    have hl2 := hl1.wr (v := (h 88 29)) (hl1.i 104 (by decide) rfl) (i := x1) rfl
    refine z_aload_n (q := 111) 0 dX13_keepState_110 rfl rfl ?_
    refine z_dup (q := 112) (by decide) dX13_keepState_111 rfl ?_
    refine z_gf (q := 115) (ki := 29) (v := (0, (h 88 29))) fX13_359 rfl (z_ldi rfl ((w_na (by decide)).trans (w_na (by decide)))) (hl2.i 88 (by decide) rfl) dX13_keepState_112 rfl ?_
    refine z_iconst (q := 116) dX13_keepState_115 rfl ?_
    refine z_iadd (q := 117) dX13_keepState_116 rfl ?_
    refine z_pf (q := 120) (ki := 29) fX13_359 rfl (z_sv0 rfl) (hl2.i 88 (by decide) rfl) dX13_keepState_117 rfl ?_
    have hl3 := hl2.wr (v := ((h 88 29) + 1)) (hl2.i 88 (by decide) rfl) (i := 29) (by decide)
    exact z_vret rfl dX13_keepState_120 ⟨hl3, u1 c1⟩
  · refine z_aload_n (q := 27) 0 dX13_keepState_26 rfl rfl ?_
    refine z_gf (q := 30) (ki := 22) (v := (2, 101)) fX13_57 rfl (z_ldr rfl (hl0.ref 93 rfl)) (hl0.i 88 (by decide) rfl) dX13_keepState_27 rfl ?_
    refine z_sipush (q := 33) dX13_keepState_30 rfl (by decide) ?_
    refine z_aload_n (q := 34) 0 dX13_keepState_33 rfl rfl ?_
    refine z_gf (q := 37) (ki := 29) (v := (0, (h 88 29))) fX13_359 rfl rfl (hl0.i 88 (by decide) rfl) dX13_keepState_34 rfl ?_
    refine z_imul (q := 38) dX13_keepState_37 rfl ?_
    refine z_iload_n (q := 39) 2 dX13_keepState_38 rfl rfl ?_
    refine z_iadd (q := 40) dX13_keepState_39 rfl ?_
    refine z_aload_n (q := 41) 0 dX13_keepState_40 rfl rfl ?_
    refine z_gf (q := 44) (ki := 2) (v := (2, 91)) fX13_16 rfl (z_ldr rfl (hl0.ref 83 rfl)) (hl0.i 88 (by decide) rfl) dX13_keepState_41 rfl ?_
    refine z_sipush (q := 47) dX13_keepState_44 rfl (by decide) ?_
    refine z_iload_n (q := 48) 2 dX13_keepState_47 rfl rfl ?_
    refine z_iadd (q := 49) dX13_keepState_48 rfl ?_
    refine z_lale (q := 50) (v := (h 91 (576 + x2))) (hl0.a 91 (by decide) rfl) (p6 c1) (p7 c1) rfl dX13_keepState_49 rfl ?_
    refine z_lsn (q := 51) (hl0.i 101 (by decide) rfl) (hl0.n 101 (by decide) rfl) (p8 c1) (p9 c1) dX13_keepState_50 rfl ?_
    have hl1 := hl0.wr (v := (h 91 (576 + x2))) (hl0.i 101 (by decide) rfl) (i := ((144 * (h 88 29)) + x2)) rfl
    refine z_aload_n (q := 52) 0 dX13_keepState_51 rfl rfl ?_
    refine z_gf (q := 55) (ki := 22) (v := (2, 101)) fX13_57 rfl (z_ldr rfl (hl1.ref 93 rfl)) (hl1.i 88 (by decide) rfl) dX13_keepState_52 rfl ?_
    refine z_sipush (q := 58) dX13_keepState_55 rfl (by decide) ?_
    refine z_aload_n (q := 59) 0 dX13_keepState_58 rfl rfl ?_
    refine z_gf (q := 62) (ki := 29) (v := (0, (h 88 29))) fX13_359 rfl (z_ldi rfl (w_na (by decide))) (hl1.i 88 (by decide) rfl) dX13_keepState_59 rfl ?_
    refine z_imul (q := 63) dX13_keepState_62 rfl ?_
    refine z_bipush (q := 65) dX13_keepState_63 rfl (by decide) ?_
    refine z_iadd (q := 66) dX13_keepState_65 rfl ?_
    refine z_iload_n (q := 67) 2 dX13_keepState_66 rfl rfl ?_
    refine z_iadd (q := 68) dX13_keepState_67 rfl ?_
    refine z_aload_n (q := 69) 0 dX13_keepState_68 rfl rfl ?_
    refine z_gf (q := 72) (ki := 2) (v := (2, 91)) fX13_16 rfl (z_ldr rfl (hl1.ref 83 rfl)) (hl1.i 88 (by decide) rfl) dX13_keepState_69 rfl ?_
    refine z_sipush (q := 75) dX13_keepState_72 rfl (by decide) ?_
    refine z_iload_n (q := 76) 2 dX13_keepState_75 rfl rfl ?_
    refine z_iadd (q := 77) dX13_keepState_76 rfl ?_
    refine z_lale (q := 78) (v := (h 91 (648 + x2))) (hl1.a 91 (by decide) rfl) (p10 c1) (p11 c1) (w_na (by decide)) dX13_keepState_77 rfl ?_
    refine z_lsn (q := 79) (hl1.i 101 (by decide) rfl) (hl1.n 101 (by decide) rfl) (p12 c1) (p13 c1) dX13_keepState_78 rfl ?_
    have hl2 := hl1.wr (v := (h 91 (648 + x2))) (hl1.i 101 (by decide) rfl) (i := (((144 * (h 88 29)) + 72) + x2)) rfl
    refine z_iinc (q := 82) (L' := [(0, 2, 88), (1, 0, x1), (2, 0, (x2 + 1))]) 2 dX13_keepState_79 rfl rfl (by decide) rfl ?_
    refine z_goto (t := 20) dX13_keepState_82 (by decide) ?_
    exact u2 c1 hl2
theorem b_X13_takeState_0 {D : zD} {d : Nat} {G : zG} {h : zH} {Q : zO → zG → zH → Prop} {x1 : Int} (p1 : 0 ≤ x1) (p2 : x1 < 1500)
    (u1 : z_Y D M_X13_takeState d 62 [(0, 2, 88), (1, 0, x1), (3, 0, 0)] [] G (z_wr (z_wr (z_wr (z_wr h 89 8 (z_idiv (h 102 x1) 1024)) 90 8 (z_irem (z_idiv (h 102 x1) 128) 8)) 89 9 (z_idiv (z_irem (h 102 x1) 128) 8)) 90 9 (z_irem (h 102 x1) 8)) Q) :
    z_Y D M_X13_takeState d 0 [(0, 2, 88), (1, 0, x1)] [] G h Q := by
  intro hl0
  refine z_aload_n (q := 1) 0 dX13_takeState_0 rfl rfl ?_
  refine z_gf (q := 4) (ki := 23) (v := (2, 102)) fX13_60 rfl (z_ldr rfl (hl0.ref 94 rfl)) (hl0.i 88 (by decide) rfl) dX13_takeState_1 rfl ?_
  refine z_iload_n (q := 5) 1 dX13_takeState_4 rfl rfl ?_
  refine z_iale (q := 6) (v := (h 102 x1)) (hl0.a 102 (by decide) rfl) p1 p2 rfl dX13_takeState_5 rfl ?_
  refine z_istore_n (q := 7) (L' := [(0, 2, 88), (1, 0, x1), (2, 0, (h 102 x1))]) dX13_takeState_6 rfl (by decide) rfl ?_
  refine z_aload_n (q := 8) 0 dX13_takeState_7 rfl rfl ?_
  refine z_gf (q := 11) (ki := 0) (v := (2, 89)) fX13_9 rfl (z_ldr rfl (hl0.ref 81 rfl)) (hl0.i 88 (by decide) rfl) dX13_takeState_8 rfl ?_
  refine z_bipush (q := 13) dX13_takeState_11 rfl (by decide) ?_
  refine z_iload_n (q := 14) 2 dX13_takeState_13 rfl rfl ?_
  refine z_sipush (q := 17) dX13_takeState_14 rfl (by decide) ?_
  refine z_r_idiv (q := 18) (by decide) dX13_takeState_17 rfl ?_
  refine z_isn (q := 19) (hl0.i 89 (by decide) rfl) (hl0.n 89 (by decide) rfl) (by decide) (by decide) dX13_takeState_18 rfl ?_
  have hl1 := hl0.wr (v := (z_idiv (h 102 x1) 1024)) (hl0.i 89 (by decide) rfl) (i := 8) rfl
  refine z_aload_n (q := 20) 0 dX13_takeState_19 rfl rfl ?_
  refine z_gf (q := 23) (ki := 1) (v := (2, 90)) fX13_13 rfl (z_ldr rfl (hl1.ref 82 rfl)) (hl1.i 88 (by decide) rfl) dX13_takeState_20 rfl ?_
  refine z_bipush (q := 25) dX13_takeState_23 rfl (by decide) ?_
  refine z_iload_n (q := 26) 2 dX13_takeState_25 rfl rfl ?_
  refine z_sipush (q := 29) dX13_takeState_26 rfl (by decide) ?_
  refine z_r_idiv (q := 30) (by decide) dX13_takeState_29 rfl ?_
  refine z_bipush (q := 32) dX13_takeState_30 rfl (by decide) ?_
  refine z_r_irem (q := 33) (by decide) dX13_takeState_32 rfl ?_
  refine z_isn (q := 34) (hl1.i 90 (by decide) rfl) (hl1.n 90 (by decide) rfl) (by decide) (by decide) dX13_takeState_33 rfl ?_
  have hl2 := hl1.wr (v := (z_irem (z_idiv (h 102 x1) 128) 8)) (hl1.i 90 (by decide) rfl) (i := 8) rfl
  refine z_aload_n (q := 35) 0 dX13_takeState_34 rfl rfl ?_
  refine z_gf (q := 38) (ki := 0) (v := (2, 89)) fX13_9 rfl (z_ldr rfl (hl2.ref 81 rfl)) (hl2.i 88 (by decide) rfl) dX13_takeState_35 rfl ?_
  refine z_bipush (q := 40) dX13_takeState_38 rfl (by decide) ?_
  refine z_iload_n (q := 41) 2 dX13_takeState_40 rfl rfl ?_
  refine z_sipush (q := 44) dX13_takeState_41 rfl (by decide) ?_
  refine z_r_irem (q := 45) (by decide) dX13_takeState_44 rfl ?_
  refine z_bipush (q := 47) dX13_takeState_45 rfl (by decide) ?_
  refine z_r_idiv (q := 48) (by decide) dX13_takeState_47 rfl ?_
  refine z_isn (q := 49) (hl2.i 89 (by decide) rfl) (hl2.n 89 (by decide) rfl) (by decide) (by decide) dX13_takeState_48 rfl ?_
  have hl3 := hl2.wr (v := (z_idiv (z_irem (h 102 x1) 128) 8)) (hl2.i 89 (by decide) rfl) (i := 9) rfl
  refine z_aload_n (q := 50) 0 dX13_takeState_49 rfl rfl ?_
  refine z_gf (q := 53) (ki := 1) (v := (2, 90)) fX13_13 rfl (z_ldr rfl (hl3.ref 82 rfl)) (hl3.i 88 (by decide) rfl) dX13_takeState_50 rfl ?_
  refine z_bipush (q := 55) dX13_takeState_53 rfl (by decide) ?_
  refine z_iload_n (q := 56) 2 dX13_takeState_55 rfl rfl ?_
  refine z_bipush (q := 58) dX13_takeState_56 rfl (by decide) ?_
  refine z_r_irem (q := 59) (by decide) dX13_takeState_58 rfl ?_
  refine z_isn (q := 60) (hl3.i 90 (by decide) rfl) (hl3.n 90 (by decide) rfl) (by decide) (by decide) dX13_takeState_59 rfl ?_
  have hl4 := hl3.wr (v := (z_irem (h 102 x1) 8)) (hl3.i 90 (by decide) rfl) (i := 9) rfl
  refine z_iconst (q := 61) dX13_takeState_60 rfl ?_
  refine z_istore_n (q := 62) (L' := [(0, 2, 88), (1, 0, x1), (2, 0, (h 102 x1)), (3, 0, 0)]) dX13_takeState_61 rfl (by decide) rfl ?_
  refine z_sub (L' := [(0, 2, 88), (1, 0, x1), (3, 0, 0)]) [0, 1, 3] rfl ?_
  exact u1 hl4
theorem b_X13_takeState_62 {D : zD} {d : Nat} {G : zG} {h : zH} {Q : zO → zG → zH → Prop} {x1 x3 : Int} (p1 : z_in x3) (p2 : ¬ (72 ≤ x3) → 0 ≤ ((144 * x1) + x3)) (p3 : ¬ (72 ≤ x3) → ((144 * x1) + x3) < 216000) (p4 : ¬ (72 ≤ x3) → 0 ≤ (576 + x3)) (p5 : ¬ (72 ≤ x3) → (576 + x3) < 864) (p6 : ¬ (72 ≤ x3) → 0 ≤ (((144 * x1) + 72) + x3)) (p7 : ¬ (72 ≤ x3) → (((144 * x1) + 72) + x3) < 216000) (p8 : ¬ (72 ≤ x3) → 0 ≤ (648 + x3)) (p9 : ¬ (72 ≤ x3) → (648 + x3) < 864)
    (u1 : 72 ≤ x3 → Q (.inl none) G h)
    (u2 : ¬ (72 ≤ x3) → z_Y D M_X13_takeState d 62 [(0, 2, 88), (1, 0, x1), (3, 0, (x3 + 1))] [] G (z_wr (z_wr h 91 (576 + x3) (h 101 ((144 * x1) + x3))) 91 (648 + x3) (h 101 (((144 * x1) + 72) + x3))) Q) :
    z_Y D M_X13_takeState d 62 [(0, 2, 88), (1, 0, x1), (3, 0, x3)] [] G h Q := by
  intro hl0
  refine z_iload_n (q := 63) 2 dX13_takeState_62 rfl rfl ?_
  refine z_bipush (q := 65) dX13_takeState_63 rfl (by decide) ?_
  refine z_icmp_ge (q := 68) (t := 121) p1 ⟨by decide, by decide⟩ dX13_takeState_65 (by decide) rfl (fun c1 => ?_) (fun c1 => ?_)
  · exact z_vret rfl dX13_takeState_121 ⟨hl0, u1 c1⟩
  · refine z_aload_n (q := 69) 0 dX13_takeState_68 rfl rfl ?_
    refine z_gf (q := 72) (ki := 2) (v := (2, 91)) fX13_16 rfl (z_ldr rfl (hl0.ref 83 rfl)) (hl0.i 88 (by decide) rfl) dX13_takeState_69 rfl ?_
    refine z_sipush (q := 75) dX13_takeState_72 rfl (by decide) ?_
    refine z_iload_n (q := 76) 2 dX13_takeState_75 rfl rfl ?_
    refine z_iadd (q := 77) dX13_takeState_76 rfl ?_
    refine z_aload_n (q := 78) 0 dX13_takeState_77 rfl rfl ?_
    refine z_gf (q := 81) (ki := 22) (v := (2, 101)) fX13_57 rfl (z_ldr rfl (hl0.ref 93 rfl)) (hl0.i 88 (by decide) rfl) dX13_takeState_78 rfl ?_
    refine z_sipush (q := 84) dX13_takeState_81 rfl (by decide) ?_
    refine z_iload_n (q := 85) 1 dX13_takeState_84 rfl rfl ?_
    refine z_imul (q := 86) dX13_takeState_85 rfl ?_
    refine z_iload_n (q := 87) 2 dX13_takeState_86 rfl rfl ?_
    refine z_iadd (q := 88) dX13_takeState_87 rfl ?_
    refine z_lale (q := 89) (v := (h 101 ((144 * x1) + x3))) (hl0.a 101 (by decide) rfl) (p2 c1) (p3 c1) rfl dX13_takeState_88 rfl ?_
    refine z_lsn (q := 90) (hl0.i 91 (by decide) rfl) (hl0.n 91 (by decide) rfl) (p4 c1) (p5 c1) dX13_takeState_89 rfl ?_
    have hl1 := hl0.wr (v := (h 101 ((144 * x1) + x3))) (hl0.i 91 (by decide) rfl) (i := (576 + x3)) rfl
    refine z_aload_n (q := 91) 0 dX13_takeState_90 rfl rfl ?_
    refine z_gf (q := 94) (ki := 2) (v := (2, 91)) fX13_16 rfl (z_ldr rfl (hl1.ref 83 rfl)) (hl1.i 88 (by decide) rfl) dX13_takeState_91 rfl ?_
    refine z_sipush (q := 97) dX13_takeState_94 rfl (by decide) ?_
    refine z_iload_n (q := 98) 2 dX13_takeState_97 rfl rfl ?_
    refine z_iadd (q := 99) dX13_takeState_98 rfl ?_
    refine z_aload_n (q := 100) 0 dX13_takeState_99 rfl rfl ?_
    refine z_gf (q := 103) (ki := 22) (v := (2, 101)) fX13_57 rfl (z_ldr rfl (hl1.ref 93 rfl)) (hl1.i 88 (by decide) rfl) dX13_takeState_100 rfl ?_
    refine z_sipush (q := 106) dX13_takeState_103 rfl (by decide) ?_
    refine z_iload_n (q := 107) 1 dX13_takeState_106 rfl rfl ?_
    refine z_imul (q := 108) dX13_takeState_107 rfl ?_
    refine z_bipush (q := 110) dX13_takeState_108 rfl (by decide) ?_
    refine z_iadd (q := 111) dX13_takeState_110 rfl ?_
    refine z_iload_n (q := 112) 2 dX13_takeState_111 rfl rfl ?_
    refine z_iadd (q := 113) dX13_takeState_112 rfl ?_
    refine z_lale (q := 114) (v := (h 101 (((144 * x1) + 72) + x3))) (hl1.a 101 (by decide) rfl) (p6 c1) (p7 c1) (w_na (by decide)) dX13_takeState_113 rfl ?_
    refine z_lsn (q := 115) (hl1.i 91 (by decide) rfl) (hl1.n 91 (by decide) rfl) (p8 c1) (p9 c1) dX13_takeState_114 rfl ?_
    have hl2 := hl1.wr (v := (h 101 (((144 * x1) + 72) + x3))) (hl1.i 91 (by decide) rfl) (i := (648 + x3)) rfl
    refine z_iinc (q := 118) (L' := [(0, 2, 88), (1, 0, x1), (3, 0, (x3 + 1))]) 2 dX13_takeState_115 rfl rfl (by decide) rfl ?_
    refine z_goto (t := 62) dX13_takeState_118 (by decide) ?_
    exact u2 c1 hl2
theorem b_X13_goes_0 {D : zD} {d : Nat} {G : zG} {h : zH} {Q : zO → zG → zH → Prop} {x1 x2 x3 x4 : Int} (p1 : z_in x2)
    (u1 : x2 = 1 → z_Y D M_X13_goes d 23 [(0, 2, 88), (1, 0, x1), (2, 0, x2), (3, 0, x3), (4, 0, x4)] [] G h Q)
    (u2 : ¬ (x2 = 1) → x2 = 7 → z_Y D M_X13_goes d 23 [(0, 2, 88), (1, 0, x1), (2, 0, x2), (3, 0, x3), (4, 0, x4)] [] G h Q)
    (u3 : ¬ (x2 = 1) → ¬ (x2 = 7) → x2 = 9 → z_Y D M_X13_goes d 23 [(0, 2, 88), (1, 0, x1), (2, 0, x2), (3, 0, x3), (4, 0, x4)] [] G h Q)
    (u4 : ¬ (x2 = 1) → ¬ (x2 = 7) → ¬ (x2 = 9) → ¬ x2 = 13 → z_Y D M_X13_goes d 28 [(0, 2, 88), (1, 0, x1), (2, 0, x2), (3, 0, x3), (4, 0, x4)] [(0, 0)] G h Q)
    (u5 : ¬ (x2 = 1) → ¬ (x2 = 7) → ¬ (x2 = 9) → ¬ (¬ x2 = 13) → z_Y D M_X13_goes d 23 [(0, 2, 88), (1, 0, x1), (2, 0, x2), (3, 0, x3), (4, 0, x4)] [] G h Q) :
    z_Y D M_X13_goes d 0 [(0, 2, 88), (1, 0, x1), (2, 0, x2), (3, 0, x3), (4, 0, x4)] [] G h Q := by
  intro hl0
  refine z_iload_n (q := 1) 2 dX13_goes_0 rfl rfl ?_
  refine z_iconst (q := 2) dX13_goes_1 rfl ?_
  refine z_icmp_eq (q := 5) (t := 23) p1 ⟨by decide, by decide⟩ dX13_goes_2 (by decide) rfl (fun c1 => ?_) (fun c1 => ?_)
  · exact u1 c1 hl0
  · refine z_iload_n (q := 6) 2 dX13_goes_5 rfl rfl ?_
    refine z_bipush (q := 8) dX13_goes_6 rfl (by decide) ?_
    refine z_icmp_eq (q := 11) (t := 23) p1 ⟨by decide, by decide⟩ dX13_goes_8 (by decide) rfl (fun c2 => ?_) (fun c2 => ?_)
    · exact u2 c1 c2 hl0
    · refine z_iload_n (q := 12) 2 dX13_goes_11 rfl rfl ?_
      refine z_bipush (q := 14) dX13_goes_12 rfl (by decide) ?_
      refine z_icmp_eq (q := 17) (t := 23) p1 ⟨by decide, by decide⟩ dX13_goes_14 (by decide) rfl (fun c3 => ?_) (fun c3 => ?_)
      · exact u3 c1 c2 c3 hl0
      · refine z_iload_n (q := 18) 2 dX13_goes_17 rfl rfl ?_
        refine z_bipush (q := 20) dX13_goes_18 rfl (by decide) ?_
        refine z_icmp_ne (q := 23) (t := 27) p1 ⟨by decide, by decide⟩ dX13_goes_20 (by decide) rfl (fun c4 => ?_) (fun c4 => ?_)
        · refine z_iconst (q := 28) dX13_goes_27 rfl ?_
          exact u4 c1 c2 c3 c4 hl0
        · exact u5 c1 c2 c3 c4 hl0
theorem b_X13_goes_23 {D : zD} {d : Nat} {G : zG} {h : zH} {Q : zO → zG → zH → Prop} {x1 x2 x3 x4 : Int}
    (u1 : z_Y D M_X13_goes d 28 [(0, 2, 88), (1, 0, x1), (2, 0, x2), (3, 0, x3), (4, 0, x4)] [(0, 1)] G h Q) :
    z_Y D M_X13_goes d 23 [(0, 2, 88), (1, 0, x1), (2, 0, x2), (3, 0, x3), (4, 0, x4)] [] G h Q := by
  intro hl0
  refine z_iconst (q := 24) dX13_goes_23 rfl ?_
  refine z_goto (t := 28) dX13_goes_24 (by decide) ?_
  exact u1 hl0
theorem b_X13_goes_28 {D : zD} {d : Nat} {G : zG} {h : zH} {Q : zO → zG → zH → Prop} {s0 x1 x2 x3 x4 : Int} (p1 : z_in x2)
    (u1 : x2 = 3 → z_Y D M_X13_goes d 46 [(0, 2, 88), (1, 0, x1), (2, 0, x2), (3, 0, x3), (4, 0, x4), (5, 0, s0)] [] G h Q)
    (u2 : ¬ (x2 = 3) → x2 = 5 → z_Y D M_X13_goes d 46 [(0, 2, 88), (1, 0, x1), (2, 0, x2), (3, 0, x3), (4, 0, x4), (5, 0, s0)] [] G h Q)
    (u3 : ¬ (x2 = 3) → ¬ (x2 = 5) → ¬ x2 = 11 → z_Y D M_X13_goes d 51 [(0, 2, 88), (1, 0, x1), (2, 0, x2), (3, 0, x3), (4, 0, x4), (5, 0, s0)] [(0, 0)] G h Q)
    (u4 : ¬ (x2 = 3) → ¬ (x2 = 5) → ¬ (¬ x2 = 11) → z_Y D M_X13_goes d 46 [(0, 2, 88), (1, 0, x1), (2, 0, x2), (3, 0, x3), (4, 0, x4), (5, 0, s0)] [] G h Q) :
    z_Y D M_X13_goes d 28 [(0, 2, 88), (1, 0, x1), (2, 0, x2), (3, 0, x3), (4, 0, x4)] [(0, s0)] G h Q := by
  intro hl0
  refine z_istore (q := 30) (L' := [(0, 2, 88), (1, 0, x1), (2, 0, x2), (3, 0, x3), (4, 0, x4), (5, 0, s0)]) dX13_goes_28 rfl (by decide) rfl ?_
  refine z_iload_n (q := 31) 2 dX13_goes_30 rfl rfl ?_
  refine z_iconst (q := 32) dX13_goes_31 rfl ?_
  refine z_icmp_eq (q := 35) (t := 46) p1 ⟨by decide, by decide⟩ dX13_goes_32 (by decide) rfl (fun c1 => ?_) (fun c1 => ?_)
  · exact u1 c1 hl0
  · refine z_iload_n (q := 36) 2 dX13_goes_35 rfl rfl ?_
    refine z_iconst (q := 37) dX13_goes_36 rfl ?_
    refine z_icmp_eq (q := 40) (t := 46) p1 ⟨by decide, by decide⟩ dX13_goes_37 (by decide) rfl (fun c2 => ?_) (fun c2 => ?_)
    · exact u2 c1 c2 hl0
    · refine z_iload_n (q := 41) 2 dX13_goes_40 rfl rfl ?_
      refine z_bipush (q := 43) dX13_goes_41 rfl (by decide) ?_
      refine z_icmp_ne (q := 46) (t := 50) p1 ⟨by decide, by decide⟩ dX13_goes_43 (by decide) rfl (fun c3 => ?_) (fun c3 => ?_)
      · refine z_iconst (q := 51) dX13_goes_50 rfl ?_
        exact u3 c1 c2 c3 hl0
      · exact u4 c1 c2 c3 hl0
theorem b_X13_goes_46 {D : zD} {d : Nat} {G : zG} {h : zH} {Q : zO → zG → zH → Prop} {x1 x2 x3 x4 x5 : Int}
    (u1 : z_Y D M_X13_goes d 51 [(0, 2, 88), (1, 0, x1), (2, 0, x2), (3, 0, x3), (4, 0, x4), (5, 0, x5)] [(0, 1)] G h Q) :
    z_Y D M_X13_goes d 46 [(0, 2, 88), (1, 0, x1), (2, 0, x2), (3, 0, x3), (4, 0, x4), (5, 0, x5)] [] G h Q := by
  intro hl0
  refine z_iconst (q := 47) dX13_goes_46 rfl ?_
  refine z_goto (t := 51) dX13_goes_47 (by decide) ?_
  exact u1 hl0
theorem b_X13_goes_51 {D : zD} {d : Nat} {G : zG} {h : zH} {Q : zO → zG → zH → Prop} {s0 x1 x2 x3 x4 x5 : Int} (p1 : z_in x5) (p2 : ¬ (x5 = 0) → z_in x3)
    (u1 : x5 = 0 → z_Y D M_X13_goes d 62 [(0, 2, 88), (1, 0, x1), (2, 0, x2), (3, 0, x3), (4, 0, x4), (6, 0, s0)] [] G h Q)
    (u2 : ¬ (x5 = 0) → 0 < x3 → Q (.inl (some (0, 0))) G h)
    (u3 : ¬ (x5 = 0) → ¬ (0 < x3) → z_Y D M_X13_goes d 62 [(0, 2, 88), (1, 0, x1), (2, 0, x2), (3, 0, x3), (4, 0, x4), (6, 0, s0)] [] G h Q) :
    z_Y D M_X13_goes d 51 [(0, 2, 88), (1, 0, x1), (2, 0, x2), (3, 0, x3), (4, 0, x4), (5, 0, x5)] [(0, s0)] G h Q := by
  intro hl0
  refine z_istore (q := 53) (L' := [(0, 2, 88), (1, 0, x1), (2, 0, x2), (3, 0, x3), (4, 0, x4), (5, 0, x5), (6, 0, s0)]) dX13_goes_51 rfl (by decide) rfl ?_
  refine z_iload (q := 55) 5 dX13_goes_53 rfl rfl ?_
  refine z_if_eq (q := 58) (t := 62) p1 dX13_goes_55 (by decide) rfl (fun c1 => ?_) (fun c1 => ?_)
  · refine z_sub (L' := [(0, 2, 88), (1, 0, x1), (2, 0, x2), (3, 0, x3), (4, 0, x4), (6, 0, s0)]) [0, 1, 2, 3, 4, 6] rfl ?_
    exact u1 c1 hl0
  · refine z_iload_n (q := 59) 3 dX13_goes_58 rfl rfl ?_
    refine z_if_gt (q := 62) (t := 89) (p2 c1) dX13_goes_59 (by decide) rfl (fun c2 => ?_) (fun c2 => ?_)
    · refine z_iconst (q := 90) dX13_goes_89 rfl ?_
      exact z_bret rfl (by decide) dX13_goes_90 ⟨hl0, u2 c1 c2⟩
    · refine z_sub (L' := [(0, 2, 88), (1, 0, x1), (2, 0, x2), (3, 0, x3), (4, 0, x4), (6, 0, s0)]) [0, 1, 2, 3, 4, 6] rfl ?_
      exact u3 c1 c2 hl0
theorem b_X13_goes_62 {D : zD} {d : Nat} {G : zG} {h : zH} {Q : zO → zG → zH → Prop} {x1 x2 x3 x4 x6 : Int} (p1 : z_in x6) (p2 : ¬ (¬ x6 = 0) → z_in x4)
    (u1 : ¬ x6 = 0 → z_Y D M_X13_goes d 72 [(0, 2, 88), (1, 0, x1), (2, 0, x2), (3, 0, x3), (4, 0, x4)] [] G h Q)
    (u2 : ¬ (¬ x6 = 0) → 0 < x4 → Q (.inl (some (0, 0))) G h)
    (u3 : ¬ (¬ x6 = 0) → ¬ (0 < x4) → z_Y D M_X13_goes d 72 [(0, 2, 88), (1, 0, x1), (2, 0, x2), (3, 0, x3), (4, 0, x4)] [] G h Q) :
    z_Y D M_X13_goes d 62 [(0, 2, 88), (1, 0, x1), (2, 0, x2), (3, 0, x3), (4, 0, x4), (6, 0, x6)] [] G h Q := by
  intro hl0
  refine z_iload (q := 64) 5 dX13_goes_62 rfl rfl ?_
  refine z_if_ne (q := 67) (t := 72) p1 dX13_goes_64 (by decide) rfl (fun c1 => ?_) (fun c1 => ?_)
  · refine z_sub (L' := [(0, 2, 88), (1, 0, x1), (2, 0, x2), (3, 0, x3), (4, 0, x4)]) [0, 1, 2, 3, 4] rfl ?_
    exact u1 c1 hl0
  · refine z_iload (q := 69) 4 dX13_goes_67 rfl rfl ?_
    refine z_if_gt (q := 72) (t := 89) (p2 c1) dX13_goes_69 (by decide) rfl (fun c2 => ?_) (fun c2 => ?_)
    · refine z_iconst (q := 90) dX13_goes_89 rfl ?_
      exact z_bret rfl (by decide) dX13_goes_90 ⟨hl0, u2 c1 c2⟩
    · refine z_sub (L' := [(0, 2, 88), (1, 0, x1), (2, 0, x2), (3, 0, x3), (4, 0, x4)]) [0, 1, 2, 3, 4] rfl ?_
      exact u3 c1 c2 hl0
theorem b_X13_goes_72 {D : zD} {d : Nat} {G : zG} {h : zH} {Q : zO → zG → zH → Prop} {x1 x2 x3 x4 : Int} (p1 : 0 ≤ x1) (p2 : x1 < 1500) (p3 : z_in x3) (p4 : z_in (z_irem (z_idiv (h 102 x1) 128) 8))
    (u1 : x3 < (z_irem (z_idiv (h 102 x1) 128) 8) → z_Kv D M_X13_takeState d [(2, 88), (0, x1)] G h (fun G' h' => z_Y D M_X13_goes d 96 [(0, 2, 88), (2, 0, x2), (3, 0, x3), (4, 0, x4)] [] G' h' Q))
    (u2 : ¬ (x3 < (z_irem (z_idiv (h 102 x1) 128) 8)) → Q (.inl (some (0, 0))) G h) :
    z_Y D M_X13_goes d 72 [(0, 2, 88), (1, 0, x1), (2, 0, x2), (3, 0, x3), (4, 0, x4)] [] G h Q := by
  intro hl0
  refine z_iload_n (q := 73) 3 dX13_goes_72 rfl rfl ?_
  refine z_aload_n (q := 74) 0 dX13_goes_73 rfl rfl ?_
  refine z_gf (q := 77) (ki := 23) (v := (2, 102)) fX13_60 rfl (z_ldr rfl (hl0.ref 94 rfl)) (hl0.i 88 (by decide) rfl) dX13_goes_74 rfl ?_
  refine z_iload_n (q := 78) 1 dX13_goes_77 rfl rfl ?_
  refine z_iale (q := 79) (v := (h 102 x1)) (hl0.a 102 (by decide) rfl) p1 p2 rfl dX13_goes_78 rfl ?_
  refine z_sipush (q := 82) dX13_goes_79 rfl (by decide) ?_
  refine z_r_idiv (q := 83) (by decide) dX13_goes_82 rfl ?_
  refine z_bipush (q := 85) dX13_goes_83 rfl (by decide) ?_
  refine z_r_irem (q := 86) (by decide) dX13_goes_85 rfl ?_
  refine z_icmp_lt (q := 89) (t := 91) p3 p4 dX13_goes_86 (by decide) rfl (fun c1 => ?_) (fun c1 => ?_)
  · refine z_aload_n (q := 92) 0 dX13_goes_91 rfl rfl ?_
    refine z_iload_n (q := 93) 1 dX13_goes_92 rfl rfl ?_
    refine z_sub (L' := [(0, 2, 88), (2, 0, x2), (3, 0, x3), (4, 0, x4)]) [0, 2, 3, 4] rfl ?_
    exact z_goV (q := 96) (av := [(0, x1)]) (rest := []) cb11 (hl0.i 88 (by decide) rfl) z_tov hl0 (u1 c1) mo_X13_takeState np_X13_takeState k1650 k1652 k89 rfl (nle rfl) dX13_goes_93 rfl
  · refine z_iconst (q := 90) dX13_goes_89 rfl ?_
    exact z_bret rfl (by decide) dX13_goes_90 ⟨hl0, u2 c1⟩
theorem b_X13_goes_96 {D : zD} {d : Nat} {G : zG} {h : zH} {Q : zO → zG → zH → Prop} {x2 x3 x4 : Int}
    (u1 : z_Ki D M_X13_makes d [(2, 88), (0, 8), (0, x2), (0, x3), (0, x4)] G h (fun r G' h' => z_Y D M_X13_goes d 106 [(0, 2, 88), (2, 0, x2), (3, 0, x3), (4, 0, x4)] [(0, r)] G' h' Q)) :
    z_Y D M_X13_goes d 96 [(0, 2, 88), (2, 0, x2), (3, 0, x3), (4, 0, x4)] [] G h Q := by
  intro hl0
  refine z_aload_n (q := 97) 0 dX13_goes_96 rfl rfl ?_
  refine z_bipush (q := 99) dX13_goes_97 rfl (by decide) ?_
  refine z_iload_n (q := 100) 1 dX13_goes_99 rfl rfl ?_
  refine z_iload_n (q := 101) 2 dX13_goes_100 rfl rfl ?_
  refine z_iload (q := 103) 3 dX13_goes_101 rfl rfl ?_
  exact z_goV (q := 106) (av := [(0, 8), (0, x2), (0, x3), (0, x4)]) (rest := []) cb11 (hl0.i 88 (by decide) rfl) z_toi hl0 (u1) mo_X13_makes np_X13_makes k1495 k1497 k60 rfl (nle rfl) dX13_goes_103 rfl
theorem b_X13_goes_106 {D : zD} {d : Nat} {G : zG} {h : zH} {Q : zO → zG → zH → Prop} {s0 x2 x3 x4 : Int} (p1 : z_in s0)
    (u1 : ¬ s0 = 0 → z_Kv D M_X13_become d [(2, 88), (0, 8), (0, 10)] G h (fun G' h' => z_Y D M_X13_goes d 119 [(0, 2, 88), (2, 0, x2), (3, 0, x3), (4, 0, x4)] [] G' h' Q))
    (u2 : ¬ (¬ s0 = 0) → Q (.inl (some (0, 0))) G h) :
    z_Y D M_X13_goes d 106 [(0, 2, 88), (2, 0, x2), (3, 0, x3), (4, 0, x4)] [(0, s0)] G h Q := by
  intro hl0
  refine z_if_ne (q := 109) (t := 111) p1 dX13_goes_106 (by decide) rfl (fun c1 => ?_) (fun c1 => ?_)
  · refine z_aload_n (q := 112) 0 dX13_goes_111 rfl rfl ?_
    refine z_bipush (q := 114) dX13_goes_112 rfl (by decide) ?_
    refine z_bipush (q := 116) dX13_goes_114 rfl (by decide) ?_
    exact z_goV (q := 119) (av := [(0, 8), (0, 10)]) (rest := []) cb11 (hl0.i 88 (by decide) rfl) z_tov hl0 (u1 c1) mo_X13_become np_X13_become k1348 k1350 k48 rfl (nle rfl) dX13_goes_116 rfl
  · refine z_iconst (q := 110) dX13_goes_109 rfl ?_
    exact z_bret rfl (by decide) dX13_goes_110 ⟨hl0, u2 c1⟩
theorem b_X13_goes_119 {D : zD} {d : Nat} {G : zG} {h : zH} {Q : zO → zG → zH → Prop} {x2 x3 x4 : Int} (p1 : z_in ((h 88 32) % 2))
    (u1 : ¬ ((h 88 32) % 2) = 0 → z_Ki D M_X13_makes d [(2, 88), (0, 9), (0, x2), (0, x3), (0, x4)] G h (fun r G' h' => z_Y D M_X13_goes d 138 [(0, 2, 88)] [(0, r)] G' h' Q))
    (u2 : ¬ (¬ ((h 88 32) % 2) = 0) → Q (.inl (some (0, 1))) G h) :
    z_Y D M_X13_goes d 119 [(0, 2, 88), (2, 0, x2), (3, 0, x3), (4, 0, x4)] [] G h Q := by
  intro hl0
  refine z_aload_n (q := 120) 0 dX13_goes_119 rfl rfl ?_
  refine z_gf (q := 123) (ki := 32) (v := (0, ((h 88 32) % 2))) fX13_348 rfl rfl (hl0.i 88 (by decide) rfl) dX13_goes_120 rfl ?_
  refine z_if_ne (q := 126) (t := 128) p1 dX13_goes_123 (by decide) rfl (fun c1 => ?_) (fun c1 => ?_)
  · refine z_aload_n (q := 129) 0 dX13_goes_128 rfl rfl ?_
    refine z_bipush (q := 131) dX13_goes_129 rfl (by decide) ?_
    refine z_iload_n (q := 132) 1 dX13_goes_131 rfl rfl ?_
    refine z_iload_n (q := 133) 2 dX13_goes_132 rfl rfl ?_
    refine z_iload (q := 135) 3 dX13_goes_133 rfl rfl ?_
    refine z_sub (L' := [(0, 2, 88)]) [0] rfl ?_
    exact z_goV (q := 138) (av := [(0, 9), (0, x2), (0, x3), (0, x4)]) (rest := []) cb11 (hl0.i 88 (by decide) rfl) z_toi hl0 (u1 c1) mo_X13_makes np_X13_makes k1495 k1497 k60 rfl (nle rfl) dX13_goes_135 rfl
  · refine z_iconst (q := 127) dX13_goes_126 rfl ?_
    exact z_bret rfl (by decide) dX13_goes_127 ⟨hl0, u2 c1⟩
theorem b_X13_goes_138 {D : zD} {d : Nat} {G : zG} {h : zH} {Q : zO → zG → zH → Prop} {s0 : Int} (p1 : z_in s0)
    (u1 : ¬ s0 = 0 → z_Kv D M_X13_become d [(2, 88), (0, 9), (0, 10)] G h (fun G' h' => z_Y D M_X13_goes d 151 [] [] G' h' Q))
    (u2 : ¬ (¬ s0 = 0) → Q (.inl (some (0, 0))) G h) :
    z_Y D M_X13_goes d 138 [(0, 2, 88)] [(0, s0)] G h Q := by
  intro hl0
  refine z_if_ne (q := 141) (t := 143) p1 dX13_goes_138 (by decide) rfl (fun c1 => ?_) (fun c1 => ?_)
  · refine z_aload_n (q := 144) 0 dX13_goes_143 rfl rfl ?_
    refine z_bipush (q := 146) dX13_goes_144 rfl (by decide) ?_
    refine z_bipush (q := 148) dX13_goes_146 rfl (by decide) ?_
    refine z_sub (L' := []) [] rfl ?_
    exact z_goV (q := 151) (av := [(0, 9), (0, 10)]) (rest := []) cb11 (hl0.i 88 (by decide) rfl) z_tov hl0 (u1 c1) mo_X13_become np_X13_become k1348 k1350 k48 rfl (nle rfl) dX13_goes_148 rfl
  · refine z_iconst (q := 142) dX13_goes_141 rfl ?_
    exact z_bret rfl (by decide) dX13_goes_142 ⟨hl0, u2 c1⟩
theorem b_X13_goes_151 {D : zD} {d : Nat} {G : zG} {h : zH} {Q : zO → zG → zH → Prop}
    (u1 : Q (.inl (some (0, 1))) G h) :
    z_Y D M_X13_goes d 151 [] [] G h Q := by
  intro hl0
  refine z_iconst (q := 152) dX13_goes_151 rfl ?_
  exact z_bret rfl (by decide) dX13_goes_152 ⟨hl0, u1⟩
theorem b_X13_noteEnd_0 {D : zD} {d : Nat} {G : zG} {h : zH} {Q : zO → zG → zH → Prop} {x1 : Int}
    (u1 : z_Ki D M_X13_fit d [(2, 88), (0, 8), (0, (h 88 33)), (0, 1)] G h (fun r G' h' => z_Y D M_X13_noteEnd d 16 [(0, 2, 88), (1, 0, x1)] [(0, r), (0, x1), (2, 107)] G' h' Q)) :
    z_Y D M_X13_noteEnd d 0 [(0, 2, 88), (1, 0, x1)] [] G h Q := by
  intro hl0
  refine z_aload_n (q := 1) 0 dX13_noteEnd_0 rfl rfl ?_
  refine z_gf (q := 4) (ki := 28) (v := (2, 107)) fX13_75 rfl (z_ldr rfl (hl0.ref 99 rfl)) (hl0.i 88 (by decide) rfl) dX13_noteEnd_1 rfl ?_
  refine z_iload_n (q := 5) 1 dX13_noteEnd_4 rfl rfl ?_
  refine z_aload_n (q := 6) 0 dX13_noteEnd_5 rfl rfl ?_
  refine z_bipush (q := 8) dX13_noteEnd_6 rfl (by decide) ?_
  refine z_aload_n (q := 9) 0 dX13_noteEnd_8 rfl rfl ?_
  refine z_gf (q := 12) (ki := 33) (v := (0, (h 88 33))) fX13_365 rfl rfl (hl0.i 88 (by decide) rfl) dX13_noteEnd_9 rfl ?_
  refine z_iconst (q := 13) dX13_noteEnd_12 rfl ?_
  exact z_goV (q := 16) (av := [(0, 8), (0, (h 88 33)), (0, 1)]) (rest := [(0, x1), (2, 107)]) cb11 (hl0.i 88 (by decide) rfl) z_toi hl0 (u1) mo_X13_fit np_X13_fit k1486 k1488 k59 rfl (nle rfl) dX13_noteEnd_13 rfl
theorem b_X13_noteEnd_16 {D : zD} {d : Nat} {G : zG} {h : zH} {Q : zO → zG → zH → Prop} {s1 s2 x1 : Int} (p1 : z_in s2) (p2 : ¬ (s2 = 0) → z_in ((h 88 32) % 2))
    (u1 : s2 = 0 → z_Y D M_X13_noteEnd d 44 [(0, 2, 88), (1, 0, x1)] [(0, s1), (2, 107)] G h Q)
    (u2 : ¬ (s2 = 0) → ((h 88 32) % 2) = 0 → z_Y D M_X13_noteEnd d 40 [(0, 2, 88), (1, 0, x1)] [(0, s1), (2, 107)] G h Q)
    (u3 : ¬ (s2 = 0) → ¬ (((h 88 32) % 2) = 0) → z_Ki D M_X13_fit d [(2, 88), (0, 9), (0, (h 88 34)), (0, 1)] G h (fun r G' h' => z_Y D M_X13_noteEnd d 37 [(0, 2, 88), (1, 0, x1)] [(0, r), (0, s1), (2, 107)] G' h' Q)) :
    z_Y D M_X13_noteEnd d 16 [(0, 2, 88), (1, 0, x1)] [(0, s2), (0, s1), (2, 107)] G h Q := by
  intro hl0
  refine z_if_eq (q := 19) (t := 44) p1 dX13_noteEnd_16 (by decide) rfl (fun c1 => ?_) (fun c1 => ?_)
  · exact u1 c1 hl0
  · refine z_aload_n (q := 20) 0 dX13_noteEnd_19 rfl rfl ?_
    refine z_gf (q := 23) (ki := 32) (v := (0, ((h 88 32) % 2))) fX13_348 rfl rfl (hl0.i 88 (by decide) rfl) dX13_noteEnd_20 rfl ?_
    refine z_if_eq (q := 26) (t := 40) (p2 c1) dX13_noteEnd_23 (by decide) rfl (fun c2 => ?_) (fun c2 => ?_)
    · exact u2 c1 c2 hl0
    · refine z_aload_n (q := 27) 0 dX13_noteEnd_26 rfl rfl ?_
      refine z_bipush (q := 29) dX13_noteEnd_27 rfl (by decide) ?_
      refine z_aload_n (q := 30) 0 dX13_noteEnd_29 rfl rfl ?_
      refine z_gf (q := 33) (ki := 34) (v := (0, (h 88 34))) fX13_368 rfl rfl (hl0.i 88 (by decide) rfl) dX13_noteEnd_30 rfl ?_
      refine z_iconst (q := 34) dX13_noteEnd_33 rfl ?_
      exact z_goV (q := 37) (av := [(0, 9), (0, (h 88 34)), (0, 1)]) (rest := [(0, s1), (2, 107)]) cb11 (hl0.i 88 (by decide) rfl) z_toi hl0 (u3 c1 c2) mo_X13_fit np_X13_fit k1486 k1488 k59 rfl (nle rfl) dX13_noteEnd_34 rfl
theorem b_X13_noteEnd_44 {D : zD} {d : Nat} {G : zG} {h : zH} {Q : zO → zG → zH → Prop} {s1 x1 : Int}
    (u1 : z_Y D M_X13_noteEnd d 45 [(0, 2, 88), (1, 0, x1)] [(0, 0), (0, s1), (2, 107)] G h Q) :
    z_Y D M_X13_noteEnd d 44 [(0, 2, 88), (1, 0, x1)] [(0, s1), (2, 107)] G h Q := by
  intro hl0
  refine z_iconst (q := 45) dX13_noteEnd_44 rfl ?_
  exact u1 hl0
theorem b_X13_noteEnd_40 {D : zD} {d : Nat} {G : zG} {h : zH} {Q : zO → zG → zH → Prop} {s1 x1 : Int}
    (u1 : z_Y D M_X13_noteEnd d 45 [(0, 2, 88), (1, 0, x1)] [(0, 1), (0, s1), (2, 107)] G h Q) :
    z_Y D M_X13_noteEnd d 40 [(0, 2, 88), (1, 0, x1)] [(0, s1), (2, 107)] G h Q := by
  intro hl0
  refine z_iconst (q := 41) dX13_noteEnd_40 rfl ?_
  refine z_goto (t := 45) dX13_noteEnd_41 (by decide) ?_
  exact u1 hl0
theorem b_X13_noteEnd_37 {D : zD} {d : Nat} {G : zG} {h : zH} {Q : zO → zG → zH → Prop} {s1 s2 x1 : Int} (p1 : z_in s2)
    (u1 : s2 = 0 → z_Y D M_X13_noteEnd d 44 [(0, 2, 88), (1, 0, x1)] [(0, s1), (2, 107)] G h Q)
    (u2 : ¬ (s2 = 0) → z_Y D M_X13_noteEnd d 40 [(0, 2, 88), (1, 0, x1)] [(0, s1), (2, 107)] G h Q) :
    z_Y D M_X13_noteEnd d 37 [(0, 2, 88), (1, 0, x1)] [(0, s2), (0, s1), (2, 107)] G h Q := by
  intro hl0
  refine z_if_eq (q := 40) (t := 44) p1 dX13_noteEnd_37 (by decide) rfl (fun c1 => ?_) (fun c1 => ?_)
  · exact u1 c1 hl0
  · exact u2 c1 hl0
theorem b_X13_noteEnd_45 {D : zD} {d : Nat} {G : zG} {h : zH} {Q : zO → zG → zH → Prop} {s1 s2 x1 : Int} (p1 : 0 ≤ s1) (p2 : s1 < 1500) (p3 : s2 = 0 ∨ s2 = 1) (p4 : 0 ≤ x1) (p5 : x1 < 1500) (p6 : z_in (((z_wr h 107 s1 s2) 107 x1) % 2))
    (u1 : (((z_wr h 107 s1 s2) 107 x1) % 2) = 0 → Q (.inl none) G (z_wr (z_wr h 107 s1 s2) 88 30 ((h 88 30) + 0)))
    (u2 : ¬ ((((z_wr h 107 s1 s2) 107 x1) % 2) = 0) → Q (.inl none) G (z_wr (z_wr h 107 s1 s2) 88 30 ((h 88 30) + 1))) :
    z_Y D M_X13_noteEnd d 45 [(0, 2, 88), (1, 0, x1)] [(0, s2), (0, s1), (2, 107)] G h Q := by
  intro hl0
  refine z_zsn (q := 46) p3 (hl0.i 107 (by decide) rfl) (hl0.n 107 (by decide) rfl) p1 p2 dX13_noteEnd_45 rfl ?_
  have hl1 := hl0.wr (v := s2) (hl0.i 107 (by decide) rfl) (i := s1) rfl
  refine z_aload_n (q := 47) 0 dX13_noteEnd_46 rfl rfl ?_
  refine z_dup (q := 48) (by decide) dX13_noteEnd_47 rfl ?_
  refine z_gf (q := 51) (ki := 30) (v := (0, (h 88 30))) fX13_371 rfl (z_ldi rfl (w_na (by decide))) (hl1.i 88 (by decide) rfl) dX13_noteEnd_48 rfl ?_
  refine z_aload_n (q := 52) 0 dX13_noteEnd_51 rfl rfl ?_
  refine z_gf (q := 55) (ki := 28) (v := (2, 107)) fX13_75 rfl (z_ldr rfl (hl1.ref 99 rfl)) (hl1.i 88 (by decide) rfl) dX13_noteEnd_52 rfl ?_
  refine z_iload_n (q := 56) 1 dX13_noteEnd_55 rfl rfl ?_
  refine z_zale (q := 57) (v := ((z_wr h 107 s1 s2) 107 x1)) (hl1.a 107 (by decide) rfl) p4 p5 rfl dX13_noteEnd_56 rfl ?_
  refine z_if_eq (q := 60) (t := 64) p6 dX13_noteEnd_57 (by decide) rfl (fun c1 => ?_) (fun c1 => ?_)
  · refine z_iconst (q := 65) dX13_noteEnd_64 rfl ?_
    refine z_iadd (q := 66) dX13_noteEnd_65 rfl ?_
    refine z_pf (q := 69) (ki := 30) fX13_371 rfl (z_sv0 rfl) (hl1.i 88 (by decide) rfl) dX13_noteEnd_66 rfl ?_
    have hl2 := hl1.wr (v := ((h 88 30) + 0)) (hl1.i 88 (by decide) rfl) (i := 30) (by decide)
    exact z_vret rfl dX13_noteEnd_69 ⟨hl2, u1 c1⟩
  · refine z_iconst (q := 61) dX13_noteEnd_60 rfl ?_
    refine z_goto (t := 65) dX13_noteEnd_61 (by decide) ?_
    refine z_iadd (q := 66) dX13_noteEnd_65 rfl ?_
    refine z_pf (q := 69) (ki := 30) fX13_371 rfl (z_sv0 rfl) (hl1.i 88 (by decide) rfl) dX13_noteEnd_66 rfl ?_
    have hl2 := hl1.wr (v := ((h 88 30) + 1)) (hl1.i 88 (by decide) rfl) (i := 30) (by decide)
    exact z_vret rfl dX13_noteEnd_69 ⟨hl2, u2 c1⟩
theorem b_X13_spread_0 {D : zD} {d : Nat} {G : zG} {h : zH} {Q : zO → zG → zH → Prop} {x1 : Int}
    (u1 : z_Y D M_X13_spread d 2 [(0, 2, 88), (1, 0, x1), (2, 0, 1)] [] G h Q) :
    z_Y D M_X13_spread d 0 [(0, 2, 88), (1, 0, x1)] [] G h Q := by
  intro hl0
  refine z_iconst (q := 1) dX13_spread_0 rfl ?_
  refine z_istore_n (q := 2) (L' := [(0, 2, 88), (1, 0, x1), (2, 0, 1)]) dX13_spread_1 rfl (by decide) rfl ?_
  exact u1 hl0
theorem b_X13_spread_2 {D : zD} {d : Nat} {G : zG} {h : zH} {Q : zO → zG → zH → Prop} {x1 x2 : Int} (p1 : z_in x2)
    (u1 : 14 < x2 → Q (.inl (some (0, 1))) G h)
    (u2 : ¬ (14 < x2) → z_Y D M_X13_spread d 10 [(0, 2, 88), (1, 0, x1), (2, 0, x2), (3, 0, 0)] [] G h Q) :
    z_Y D M_X13_spread d 2 [(0, 2, 88), (1, 0, x1), (2, 0, x2)] [] G h Q := by
  intro hl0
  refine z_iload_n (q := 3) 2 dX13_spread_2 rfl rfl ?_
  refine z_bipush (q := 5) dX13_spread_3 rfl (by decide) ?_
  refine z_icmp_gt (q := 8) (t := 93) p1 ⟨by decide, by decide⟩ dX13_spread_5 (by decide) rfl (fun c1 => ?_) (fun c1 => ?_)
  · refine z_iconst (q := 94) dX13_spread_93 rfl ?_
    exact z_bret rfl (by decide) dX13_spread_94 ⟨hl0, u1 c1⟩
  · refine z_iconst (q := 9) dX13_spread_8 rfl ?_
    refine z_istore_n (q := 10) (L' := [(0, 2, 88), (1, 0, x1), (2, 0, x2), (3, 0, 0)]) dX13_spread_9 rfl (by decide) rfl ?_
    exact u2 c1 hl0
theorem b_X13_spread_10 {D : zD} {d : Nat} {G : zG} {h : zH} {Q : zO → zG → zH → Prop} {x1 x2 x3 : Int} (p1 : z_in x3)
    (u1 : 6 ≤ x3 → z_Y D M_X13_spread d 2 [(0, 2, 88), (1, 0, x1), (2, 0, (x2 + 1))] [] G h Q)
    (u2 : ¬ (6 ≤ x3) → z_Y D M_X13_spread d 19 [(0, 2, 88), (1, 0, x1), (2, 0, x2), (3, 0, x3), (4, 0, 0)] [] G h Q) :
    z_Y D M_X13_spread d 10 [(0, 2, 88), (1, 0, x1), (2, 0, x2), (3, 0, x3)] [] G h Q := by
  intro hl0
  refine z_iload_n (q := 11) 3 dX13_spread_10 rfl rfl ?_
  refine z_bipush (q := 13) dX13_spread_11 rfl (by decide) ?_
  refine z_icmp_ge (q := 16) (t := 87) p1 ⟨by decide, by decide⟩ dX13_spread_13 (by decide) rfl (fun c1 => ?_) (fun c1 => ?_)
  · refine z_iinc (q := 90) (L' := [(0, 2, 88), (1, 0, x1), (2, 0, (x2 + 1)), (3, 0, x3)]) 2 dX13_spread_87 rfl rfl (by decide) rfl ?_
    refine z_goto (t := 2) dX13_spread_90 (by decide) ?_
    refine z_sub (L' := [(0, 2, 88), (1, 0, x1), (2, 0, (x2 + 1))]) [0, 1, 2] rfl ?_
    exact u1 c1 hl0
  · refine z_iconst (q := 17) dX13_spread_16 rfl ?_
    refine z_istore (q := 19) (L' := [(0, 2, 88), (1, 0, x1), (2, 0, x2), (3, 0, x3), (4, 0, 0)]) dX13_spread_17 rfl (by decide) rfl ?_
    exact u2 c1 hl0
theorem b_X13_spread_19 {D : zD} {d : Nat} {G : zG} {h : zH} {Q : zO → zG → zH → Prop} {x1 x2 x3 x4 : Int} (p1 : z_in x4)
    (u1 : 6 ≤ x4 → z_Y D M_X13_spread d 10 [(0, 2, 88), (1, 0, x1), (2, 0, x2), (3, 0, (x3 + 1))] [] G h Q)
    (u2 : ¬ (6 ≤ x4) → z_Ki D M_X13_goes d [(2, 88), (0, x1), (0, x2), (0, x3), (0, x4)] G h (fun r G' h' => z_Y D M_X13_spread d 35 [(0, 2, 88), (1, 0, x1), (2, 0, x2), (3, 0, x3), (4, 0, x4)] [(0, r)] G' h' Q)) :
    z_Y D M_X13_spread d 19 [(0, 2, 88), (1, 0, x1), (2, 0, x2), (3, 0, x3), (4, 0, x4)] [] G h Q := by
  intro hl0
  refine z_iload (q := 21) 4 dX13_spread_19 rfl rfl ?_
  refine z_bipush (q := 23) dX13_spread_21 rfl (by decide) ?_
  refine z_icmp_ge (q := 26) (t := 81) p1 ⟨by decide, by decide⟩ dX13_spread_23 (by decide) rfl (fun c1 => ?_) (fun c1 => ?_)
  · refine z_iinc (q := 84) (L' := [(0, 2, 88), (1, 0, x1), (2, 0, x2), (3, 0, (x3 + 1)), (4, 0, x4)]) 3 dX13_spread_81 rfl rfl (by decide) rfl ?_
    refine z_goto (t := 10) dX13_spread_84 (by decide) ?_
    refine z_sub (L' := [(0, 2, 88), (1, 0, x1), (2, 0, x2), (3, 0, (x3 + 1))]) [0, 1, 2, 3] rfl ?_
    exact u1 c1 hl0
  · refine z_aload_n (q := 27) 0 dX13_spread_26 rfl rfl ?_
    refine z_iload_n (q := 28) 1 dX13_spread_27 rfl rfl ?_
    refine z_iload_n (q := 29) 2 dX13_spread_28 rfl rfl ?_
    refine z_iload_n (q := 30) 3 dX13_spread_29 rfl rfl ?_
    refine z_iload (q := 32) 4 dX13_spread_30 rfl rfl ?_
    exact z_goV (q := 35) (av := [(0, x1), (0, x2), (0, x3), (0, x4)]) (rest := []) cb11 (hl0.i 88 (by decide) rfl) z_toi hl0 (u2 c1) mo_X13_goes np_X13_goes k1646 k1648 k88 rfl (nle rfl) dX13_spread_32 rfl
theorem b_X13_spread_35 {D : zD} {d : Nat} {G : zG} {h : zH} {Q : zO → zG → zH → Prop} {s0 x1 x2 x3 x4 : Int} (p1 : z_in s0)
    (u1 : s0 = 0 → z_Y D M_X13_spread d 19 [(0, 2, 88), (1, 0, x1), (2, 0, x2), (3, 0, x3), (4, 0, (x4 + 1))] [] G h Q)
    (u2 : ¬ (s0 = 0) → z_Ki D M_X13_search d [(2, 88)] G h (fun r G' h' => z_Y D M_X13_spread d 42 [(0, 2, 88), (1, 0, x1), (2, 0, x2), (3, 0, x3), (4, 0, x4)] [(0, r)] G' h' Q)) :
    z_Y D M_X13_spread d 35 [(0, 2, 88), (1, 0, x1), (2, 0, x2), (3, 0, x3), (4, 0, x4)] [(0, s0)] G h Q := by
  intro hl0
  refine z_if_eq (q := 38) (t := 75) p1 dX13_spread_35 (by decide) rfl (fun c1 => ?_) (fun c1 => ?_)
  · refine z_iinc (q := 78) (L' := [(0, 2, 88), (1, 0, x1), (2, 0, x2), (3, 0, x3), (4, 0, (x4 + 1))]) 4 dX13_spread_75 rfl rfl (by decide) rfl ?_
    refine z_goto (t := 19) dX13_spread_78 (by decide) ?_
    exact u1 c1 hl0
  · refine z_aload_n (q := 39) 0 dX13_spread_38 rfl rfl ?_
    exact z_goV (q := 42) (av := []) (rest := []) cb11 (hl0.i 88 (by decide) rfl) z_toi hl0 (u2 c1) mo_X13_search np_X13_search k1654 k1656 k90 rfl (nle rfl) dX13_spread_39 rfl
theorem b_X13_spread_42 {D : zD} {d : Nat} {G : zG} {h : zH} {Q : zO → zG → zH → Prop} {s0 x1 x2 x3 x4 : Int} (p1 : z_in s0) (p2 : s0 = (-1) → z_in (h 88 29))
    (u1 : s0 = (-1) → ¬ (h 88 29) = 1500 → z_Kv D M_X13_keepState d [(2, 88)] G h (fun G' h' => z_Y D M_X13_spread d 65 [(0, 2, 88), (1, 0, x1), (2, 0, x2), (3, 0, x3), (4, 0, x4)] [] G' h' Q))
    (u2 : s0 = (-1) → ¬ (¬ (h 88 29) = 1500) → Q (.inl (some (0, 0))) G h)
    (u3 : ¬ (s0 = (-1)) → z_Y D M_X13_spread d 19 [(0, 2, 88), (1, 0, x1), (2, 0, x2), (3, 0, x3), (4, 0, (x4 + 1))] [] G h Q) :
    z_Y D M_X13_spread d 42 [(0, 2, 88), (1, 0, x1), (2, 0, x2), (3, 0, x3), (4, 0, x4)] [(0, s0)] G h Q := by
  intro hl0
  refine z_iconst (q := 43) dX13_spread_42 rfl ?_
  refine z_icmp_eq (q := 46) (t := 49) p1 ⟨by decide, by decide⟩ dX13_spread_43 (by decide) rfl (fun c1 => ?_) (fun c1 => ?_)
  · refine z_aload_n (q := 50) 0 dX13_spread_49 rfl rfl ?_
    refine z_gf (q := 53) (ki := 29) (v := (0, (h 88 29))) fX13_359 rfl rfl (hl0.i 88 (by decide) rfl) dX13_spread_50 rfl ?_
    refine z_sipush (q := 56) dX13_spread_53 rfl (by decide) ?_
    refine z_icmp_ne (q := 59) (t := 61) (p2 c1) ⟨by decide, by decide⟩ dX13_spread_56 (by decide) rfl (fun c2 => ?_) (fun c2 => ?_)
    · refine z_aload_n (q := 62) 0 dX13_spread_61 rfl rfl ?_
      exact z_goV (q := 65) (av := []) (rest := []) cb11 (hl0.i 88 (by decide) rfl) z_tov hl0 (u1 c1 c2) mo_X13_keepState np_X13_keepState k1624 k1626 k83 rfl (nle rfl) dX13_spread_62 rfl
    · refine z_iconst (q := 60) dX13_spread_59 rfl ?_
      exact z_bret rfl (by decide) dX13_spread_60 ⟨hl0, u2 c1 c2⟩
  · refine z_goto (t := 75) dX13_spread_46 (by decide) ?_
    refine z_iinc (q := 78) (L' := [(0, 2, 88), (1, 0, x1), (2, 0, x2), (3, 0, x3), (4, 0, (x4 + 1))]) 4 dX13_spread_75 rfl rfl (by decide) rfl ?_
    refine z_goto (t := 19) dX13_spread_78 (by decide) ?_
    exact u3 c1 hl0
theorem b_X13_spread_65 {D : zD} {d : Nat} {G : zG} {h : zH} {Q : zO → zG → zH → Prop} {x1 x2 x3 x4 : Int}
    (u1 : z_Kv D M_X13_noteEnd d [(2, 88), (0, ((h 88 29) - 1))] G h (fun G' h' => z_Y D M_X13_spread d 75 [(0, 2, 88), (1, 0, x1), (2, 0, x2), (3, 0, x3), (4, 0, x4)] [] G' h' Q)) :
    z_Y D M_X13_spread d 65 [(0, 2, 88), (1, 0, x1), (2, 0, x2), (3, 0, x3), (4, 0, x4)] [] G h Q := by
  intro hl0
  refine z_aload_n (q := 66) 0 dX13_spread_65 rfl rfl ?_
  refine z_aload_n (q := 67) 0 dX13_spread_66 rfl rfl ?_
  refine z_gf (q := 70) (ki := 29) (v := (0, (h 88 29))) fX13_359 rfl rfl (hl0.i 88 (by decide) rfl) dX13_spread_67 rfl ?_
  refine z_iconst (q := 71) dX13_spread_70 rfl ?_
  refine z_isub (q := 72) dX13_spread_71 rfl ?_
  exact z_goV (q := 75) (av := [(0, ((h 88 29) - 1))]) (rest := []) cb11 (hl0.i 88 (by decide) rfl) z_tov hl0 (u1) mo_X13_noteEnd np_X13_noteEnd k1638 k1640 k86 rfl (nle rfl) dX13_spread_72 rfl
theorem b_X13_spread_75 {D : zD} {d : Nat} {G : zG} {h : zH} {Q : zO → zG → zH → Prop} {x1 x2 x3 x4 : Int}
    (u1 : z_Y D M_X13_spread d 19 [(0, 2, 88), (1, 0, x1), (2, 0, x2), (3, 0, x3), (4, 0, (x4 + 1))] [] G h Q) :
    z_Y D M_X13_spread d 75 [(0, 2, 88), (1, 0, x1), (2, 0, x2), (3, 0, x3), (4, 0, x4)] [] G h Q := by
  intro hl0
  refine z_iinc (q := 78) (L' := [(0, 2, 88), (1, 0, x1), (2, 0, x2), (3, 0, x3), (4, 0, (x4 + 1))]) 4 dX13_spread_75 rfl rfl (by decide) rfl ?_
  refine z_goto (t := 19) dX13_spread_78 (by decide) ?_
  exact u1 hl0
theorem b_X13_countWays_0 {D : zD} {d : Nat} {G : zG} {h : zH} {Q : zO → zG → zH → Prop} {x1 : Int} (p1 : 0 ≤ x1) (p2 : x1 < 6)
    (u1 : z_Y D M_X13_countWays d 7 [(0, 2, 88), (1, 0, x1), (2, 0, (h 106 x1))] [] G h Q) :
    z_Y D M_X13_countWays d 0 [(0, 2, 88), (1, 0, x1)] [] G h Q := by
  intro hl0
  refine z_aload_n (q := 1) 0 dX13_countWays_0 rfl rfl ?_
  refine z_gf (q := 4) (ki := 27) (v := (2, 106)) fX13_72 rfl (z_ldr rfl (hl0.ref 98 rfl)) (hl0.i 88 (by decide) rfl) dX13_countWays_1 rfl ?_
  refine z_iload_n (q := 5) 1 dX13_countWays_4 rfl rfl ?_
  refine z_iale (q := 6) (v := (h 106 x1)) (hl0.a 106 (by decide) rfl) p1 p2 rfl dX13_countWays_5 rfl ?_
  refine z_istore_n (q := 7) (L' := [(0, 2, 88), (1, 0, x1), (2, 0, (h 106 x1))]) dX13_countWays_6 rfl (by decide) rfl ?_
  exact u1 hl0
theorem b_X13_countWays_7 {D : zD} {d : Nat} {G : zG} {h : zH} {Q : zO → zG → zH → Prop} {x1 x2 : Int} (p1 : z_in x2) (p2 : z_in (h 88 29)) (p3 : ¬ ((h 88 29) ≤ x2) → 0 ≤ x2) (p4 : ¬ ((h 88 29) ≤ x2) → x2 < 1500) (p5 : ¬ ((h 88 29) ≤ x2) → z_in ((h 107 x2) % 2))
    (u1 : (h 88 29) ≤ x2 → z_Y D M_X13_countWays d 45 [(0, 2, 88), (2, 0, (x1 - 1))] [] G h Q)
    (u2 : ¬ ((h 88 29) ≤ x2) → ((h 107 x2) % 2) = 0 → z_Y D M_X13_countWays d 34 [(0, 2, 88), (1, 0, x1), (2, 0, x2)] [(0, 0), (0, x2), (2, 105)] G h Q)
    (u3 : ¬ ((h 88 29) ≤ x2) → ¬ (((h 107 x2) % 2) = 0) → z_Y D M_X13_countWays d 34 [(0, 2, 88), (1, 0, x1), (2, 0, x2)] [(0, 1), (0, x2), (2, 105)] G h Q) :
    z_Y D M_X13_countWays d 7 [(0, 2, 88), (1, 0, x1), (2, 0, x2)] [] G h Q := by
  intro hl0
  refine z_iload_n (q := 8) 2 dX13_countWays_7 rfl rfl ?_
  refine z_aload_n (q := 9) 0 dX13_countWays_8 rfl rfl ?_
  refine z_gf (q := 12) (ki := 29) (v := (0, (h 88 29))) fX13_359 rfl rfl (hl0.i 88 (by decide) rfl) dX13_countWays_9 rfl ?_
  refine z_icmp_ge (q := 15) (t := 41) p1 p2 dX13_countWays_12 (by decide) rfl (fun c1 => ?_) (fun c1 => ?_)
  · refine z_iload_n (q := 42) 1 dX13_countWays_41 rfl rfl ?_
    refine z_iconst (q := 43) dX13_countWays_42 rfl ?_
    refine z_isub (q := 44) dX13_countWays_43 rfl ?_
    refine z_istore_n (q := 45) (L' := [(0, 2, 88), (1, 0, x1), (2, 0, (x1 - 1))]) dX13_countWays_44 rfl (by decide) rfl ?_
    refine z_sub (L' := [(0, 2, 88), (2, 0, (x1 - 1))]) [0, 2] rfl ?_
    exact u1 c1 hl0
  · refine z_aload_n (q := 16) 0 dX13_countWays_15 rfl rfl ?_
    refine z_gf (q := 19) (ki := 26) (v := (2, 105)) fX13_69 rfl (z_ldr rfl (hl0.ref 97 rfl)) (hl0.i 88 (by decide) rfl) dX13_countWays_16 rfl ?_
    refine z_iload_n (q := 20) 2 dX13_countWays_19 rfl rfl ?_
    refine z_aload_n (q := 21) 0 dX13_countWays_20 rfl rfl ?_
    refine z_gf (q := 24) (ki := 28) (v := (2, 107)) fX13_75 rfl (z_ldr rfl (hl0.ref 99 rfl)) (hl0.i 88 (by decide) rfl) dX13_countWays_21 rfl ?_
    refine z_iload_n (q := 25) 2 dX13_countWays_24 rfl rfl ?_
    refine z_zale (q := 26) (v := (h 107 x2)) (hl0.a 107 (by decide) rfl) (p3 c1) (p4 c1) rfl dX13_countWays_25 rfl ?_
    refine z_if_eq (q := 29) (t := 33) (p5 c1) dX13_countWays_26 (by decide) rfl (fun c2 => ?_) (fun c2 => ?_)
    · refine z_iconst (q := 34) dX13_countWays_33 rfl ?_
      exact u2 c1 c2 hl0
    · refine z_iconst (q := 30) dX13_countWays_29 rfl ?_
      refine z_goto (t := 34) dX13_countWays_30 (by decide) ?_
      exact u3 c1 c2 hl0
theorem b_X13_countWays_45 {D : zD} {d : Nat} {G : zG} {h : zH} {Q : zO → zG → zH → Prop} {x2 : Int} (p1 : z_in x2) (p2 : ¬ (x2 < 0) → 0 ≤ x2) (p3 : ¬ (x2 < 0) → x2 < 6)
    (u1 : x2 < 0 → Q (.inl none) G (z_wr h 88 31 (h 105 0)))
    (u2 : ¬ (x2 < 0) → z_Y D M_X13_countWays d 56 [(0, 2, 88), (2, 0, x2), (3, 0, (h 106 x2))] [] G h Q) :
    z_Y D M_X13_countWays d 45 [(0, 2, 88), (2, 0, x2)] [] G h Q := by
  intro hl0
  refine z_iload_n (q := 46) 1 dX13_countWays_45 rfl rfl ?_
  refine z_if_lt (q := 49) (t := 167) p1 dX13_countWays_46 (by decide) rfl (fun c1 => ?_) (fun c1 => ?_)
  · refine z_aload_n (q := 168) 0 dX13_countWays_167 rfl rfl ?_
    refine z_aload_n (q := 169) 0 dX13_countWays_168 rfl rfl ?_
    refine z_gf (q := 172) (ki := 26) (v := (2, 105)) fX13_69 rfl (z_ldr rfl (hl0.ref 97 rfl)) (hl0.i 88 (by decide) rfl) dX13_countWays_169 rfl ?_
    refine z_iconst (q := 173) dX13_countWays_172 rfl ?_
    refine z_iale (q := 174) (v := (h 105 0)) (hl0.a 105 (by decide) rfl) (by decide) (by decide) rfl dX13_countWays_173 rfl ?_
    refine z_pf (q := 177) (ki := 31) fX13_376 rfl (z_sv0 rfl) (hl0.i 88 (by decide) rfl) dX13_countWays_174 rfl ?_
    have hl1 := hl0.wr (v := (h 105 0)) (hl0.i 88 (by decide) rfl) (i := 31) (by decide)
    exact z_vret rfl dX13_countWays_177 ⟨hl1, u1 c1⟩
  · refine z_aload_n (q := 50) 0 dX13_countWays_49 rfl rfl ?_
    refine z_gf (q := 53) (ki := 27) (v := (2, 106)) fX13_72 rfl (z_ldr rfl (hl0.ref 98 rfl)) (hl0.i 88 (by decide) rfl) dX13_countWays_50 rfl ?_
    refine z_iload_n (q := 54) 1 dX13_countWays_53 rfl rfl ?_
    refine z_iale (q := 55) (v := (h 106 x2)) (hl0.a 106 (by decide) rfl) (p2 c1) (p3 c1) rfl dX13_countWays_54 rfl ?_
    refine z_istore_n (q := 56) (L' := [(0, 2, 88), (2, 0, x2), (3, 0, (h 106 x2))]) dX13_countWays_55 rfl (by decide) rfl ?_
    exact u2 c1 hl0
theorem b_X13_countWays_34 {D : zD} {d : Nat} {G : zG} {h : zH} {Q : zO → zG → zH → Prop} {s1 s2 x1 x2 : Int} (p1 : 0 ≤ s1) (p2 : s1 < 1500)
    (u1 : z_Y D M_X13_countWays d 7 [(0, 2, 88), (1, 0, x1), (2, 0, (x2 + 1))] [] G (z_wr h 105 s1 s2) Q) :
    z_Y D M_X13_countWays d 34 [(0, 2, 88), (1, 0, x1), (2, 0, x2)] [(0, s2), (0, s1), (2, 105)] G h Q := by
  intro hl0
  refine z_isn (q := 35) (hl0.i 105 (by decide) rfl) (hl0.n 105 (by decide) rfl) p1 p2 dX13_countWays_34 rfl ?_
  have hl1 := hl0.wr (v := s2) (hl0.i 105 (by decide) rfl) (i := s1) rfl
  refine z_iinc (q := 38) (L' := [(0, 2, 88), (1, 0, x1), (2, 0, (x2 + 1))]) 2 dX13_countWays_35 rfl rfl (by decide) rfl ?_
  refine z_goto (t := 7) dX13_countWays_38 (by decide) ?_
  exact u1 hl1
theorem b_X13_countWays_56 {D : zD} {d : Nat} {G : zG} {h : zH} {Q : zO → zG → zH → Prop} {x2 x3 : Int} (p1 : 0 ≤ (x2 + 1)) (p2 : (x2 + 1) < 6) (p3 : z_in x3) (p4 : z_in (h 106 (x2 + 1))) (p5 : ¬ ((h 106 (x2 + 1)) ≤ x3) → 0 ≤ x3) (p6 : ¬ ((h 106 (x2 + 1)) ≤ x3) → x3 < 1500)
    (u1 : (h 106 (x2 + 1)) ≤ x3 → z_Y D M_X13_countWays d 45 [(0, 2, 88), (2, 0, (x2 + (-1)))] [] G h Q)
    (u2 : ¬ ((h 106 (x2 + 1)) ≤ x3) → z_Y D M_X13_countWays d 78 [(0, 2, 88), (2, 0, x2), (3, 0, x3), (4, 0, 1)] [] G (z_wr h 105 x3 0) Q) :
    z_Y D M_X13_countWays d 56 [(0, 2, 88), (2, 0, x2), (3, 0, x3)] [] G h Q := by
  intro hl0
  refine z_iload_n (q := 57) 2 dX13_countWays_56 rfl rfl ?_
  refine z_aload_n (q := 58) 0 dX13_countWays_57 rfl rfl ?_
  refine z_gf (q := 61) (ki := 27) (v := (2, 106)) fX13_72 rfl (z_ldr rfl (hl0.ref 98 rfl)) (hl0.i 88 (by decide) rfl) dX13_countWays_58 rfl ?_
  refine z_iload_n (q := 62) 1 dX13_countWays_61 rfl rfl ?_
  refine z_iconst (q := 63) dX13_countWays_62 rfl ?_
  refine z_iadd (q := 64) dX13_countWays_63 rfl ?_
  refine z_iale (q := 65) (v := (h 106 (x2 + 1))) (hl0.a 106 (by decide) rfl) p1 p2 rfl dX13_countWays_64 rfl ?_
  refine z_icmp_ge (q := 68) (t := 161) p3 p4 dX13_countWays_65 (by decide) rfl (fun c1 => ?_) (fun c1 => ?_)
  · refine z_iinc (q := 164) (L' := [(0, 2, 88), (2, 0, (x2 + (-1))), (3, 0, x3)]) 1 dX13_countWays_161 rfl rfl (by decide) rfl ?_
    refine z_goto (t := 45) dX13_countWays_164 (by decide) ?_
    refine z_sub (L' := [(0, 2, 88), (2, 0, (x2 + (-1)))]) [0, 1] rfl ?_
    exact u1 c1 hl0
  · refine z_aload_n (q := 69) 0 dX13_countWays_68 rfl rfl ?_
    refine z_gf (q := 72) (ki := 26) (v := (2, 105)) fX13_69 rfl (z_ldr rfl (hl0.ref 97 rfl)) (hl0.i 88 (by decide) rfl) dX13_countWays_69 rfl ?_
    refine z_iload_n (q := 73) 2 dX13_countWays_72 rfl rfl ?_
    refine z_iconst (q := 74) dX13_countWays_73 rfl ?_
    refine z_isn (q := 75) (hl0.i 105 (by decide) rfl) (hl0.n 105 (by decide) rfl) (p5 c1) (p6 c1) dX13_countWays_74 rfl ?_
    have hl1 := hl0.wr (v := 0) (hl0.i 105 (by decide) rfl) (i := x3) rfl
    refine z_iconst (q := 76) dX13_countWays_75 rfl ?_
    refine z_istore (q := 78) (L' := [(0, 2, 88), (2, 0, x2), (3, 0, x3), (4, 0, 1)]) dX13_countWays_76 rfl (by decide) rfl ?_
    exact u2 c1 hl1
theorem b_X13_countWays_78 {D : zD} {d : Nat} {G : zG} {h : zH} {Q : zO → zG → zH → Prop} {x2 x3 x4 : Int} (p1 : z_in x4)
    (u1 : 14 < x4 → z_Y D M_X13_countWays d 56 [(0, 2, 88), (2, 0, x2), (3, 0, (x3 + 1))] [] G h Q)
    (u2 : ¬ (14 < x4) → z_Y D M_X13_countWays d 88 [(0, 2, 88), (2, 0, x2), (3, 0, x3), (4, 0, x4), (5, 0, 0)] [] G h Q) :
    z_Y D M_X13_countWays d 78 [(0, 2, 88), (2, 0, x2), (3, 0, x3), (4, 0, x4)] [] G h Q := by
  intro hl0
  refine z_iload (q := 80) 3 dX13_countWays_78 rfl rfl ?_
  refine z_bipush (q := 82) dX13_countWays_80 rfl (by decide) ?_
  refine z_icmp_gt (q := 85) (t := 155) p1 ⟨by decide, by decide⟩ dX13_countWays_82 (by decide) rfl (fun c1 => ?_) (fun c1 => ?_)
  · refine z_iinc (q := 158) (L' := [(0, 2, 88), (2, 0, x2), (3, 0, (x3 + 1)), (4, 0, x4)]) 2 dX13_countWays_155 rfl rfl (by decide) rfl ?_
    refine z_goto (t := 56) dX13_countWays_158 (by decide) ?_
    refine z_sub (L' := [(0, 2, 88), (2, 0, x2), (3, 0, (x3 + 1))]) [0, 1, 2] rfl ?_
    exact u1 c1 hl0
  · refine z_iconst (q := 86) dX13_countWays_85 rfl ?_
    refine z_istore (q := 88) (L' := [(0, 2, 88), (2, 0, x2), (3, 0, x3), (4, 0, x4), (5, 0, 0)]) dX13_countWays_86 rfl (by decide) rfl ?_
    exact u2 c1 hl0
theorem b_X13_countWays_88 {D : zD} {d : Nat} {G : zG} {h : zH} {Q : zO → zG → zH → Prop} {x2 x3 x4 x5 : Int} (p1 : z_in x5)
    (u1 : 6 ≤ x5 → z_Y D M_X13_countWays d 78 [(0, 2, 88), (2, 0, x2), (3, 0, x3), (4, 0, (x4 + 1))] [] G h Q)
    (u2 : ¬ (6 ≤ x5) → z_Y D M_X13_countWays d 98 [(0, 2, 88), (2, 0, x2), (3, 0, x3), (4, 0, x4), (5, 0, x5), (6, 0, 0)] [] G h Q) :
    z_Y D M_X13_countWays d 88 [(0, 2, 88), (2, 0, x2), (3, 0, x3), (4, 0, x4), (5, 0, x5)] [] G h Q := by
  intro hl0
  refine z_iload (q := 90) 4 dX13_countWays_88 rfl rfl ?_
  refine z_bipush (q := 92) dX13_countWays_90 rfl (by decide) ?_
  refine z_icmp_ge (q := 95) (t := 149) p1 ⟨by decide, by decide⟩ dX13_countWays_92 (by decide) rfl (fun c1 => ?_) (fun c1 => ?_)
  · refine z_iinc (q := 152) (L' := [(0, 2, 88), (2, 0, x2), (3, 0, x3), (4, 0, (x4 + 1)), (5, 0, x5)]) 3 dX13_countWays_149 rfl rfl (by decide) rfl ?_
    refine z_goto (t := 78) dX13_countWays_152 (by decide) ?_
    refine z_sub (L' := [(0, 2, 88), (2, 0, x2), (3, 0, x3), (4, 0, (x4 + 1))]) [0, 1, 2, 3] rfl ?_
    exact u1 c1 hl0
  · refine z_iconst (q := 96) dX13_countWays_95 rfl ?_
    refine z_istore (q := 98) (L' := [(0, 2, 88), (2, 0, x2), (3, 0, x3), (4, 0, x4), (5, 0, x5), (6, 0, 0)]) dX13_countWays_96 rfl (by decide) rfl ?_
    exact u2 c1 hl0
theorem b_X13_countWays_98 {D : zD} {d : Nat} {G : zG} {h : zH} {Q : zO → zG → zH → Prop} {x2 x3 x4 x5 x6 : Int} (p1 : z_in x6) (p2 : ¬ (6 ≤ x6) → 0 ≤ x3) (p3 : ¬ (6 ≤ x6) → x3 < 1500)
    (u1 : 6 ≤ x6 → z_Y D M_X13_countWays d 88 [(0, 2, 88), (2, 0, x2), (3, 0, x3), (4, 0, x4), (5, 0, (x5 + 1))] [] G h Q)
    (u2 : ¬ (6 ≤ x6) → z_Ki D M_X13_leadsBy d [(2, 88), (0, x3), (0, x4), (0, x5), (0, x6), (0, (x2 + 1))] G h (fun r G' h' => z_Y D M_X13_countWays d 132 [(0, 2, 88), (2, 0, x2), (3, 0, x3), (4, 0, x4), (5, 0, x5), (6, 0, x6)] [(0, r), (0, (h 105 x3)), (0, 1000000), (0, x3), (2, 105)] G' h' Q)) :
    z_Y D M_X13_countWays d 98 [(0, 2, 88), (2, 0, x2), (3, 0, x3), (4, 0, x4), (5, 0, x5), (6, 0, x6)] [] G h Q := by
  intro hl0
  refine z_iload (q := 100) 5 dX13_countWays_98 rfl rfl ?_
  refine z_bipush (q := 102) dX13_countWays_100 rfl (by decide) ?_
  refine z_icmp_ge (q := 105) (t := 143) p1 ⟨by decide, by decide⟩ dX13_countWays_102 (by decide) rfl (fun c1 => ?_) (fun c1 => ?_)
  · refine z_iinc (q := 146) (L' := [(0, 2, 88), (2, 0, x2), (3, 0, x3), (4, 0, x4), (5, 0, (x5 + 1)), (6, 0, x6)]) 4 dX13_countWays_143 rfl rfl (by decide) rfl ?_
    refine z_goto (t := 88) dX13_countWays_146 (by decide) ?_
    refine z_sub (L' := [(0, 2, 88), (2, 0, x2), (3, 0, x3), (4, 0, x4), (5, 0, (x5 + 1))]) [0, 1, 2, 3, 4] rfl ?_
    exact u1 c1 hl0
  · refine z_aload_n (q := 106) 0 dX13_countWays_105 rfl rfl ?_
    refine z_gf (q := 109) (ki := 26) (v := (2, 105)) fX13_69 rfl (z_ldr rfl (hl0.ref 97 rfl)) (hl0.i 88 (by decide) rfl) dX13_countWays_106 rfl ?_
    refine z_iload_n (q := 110) 2 dX13_countWays_109 rfl rfl ?_
    refine z_ldc (q := 112) (n := 1000000) k1582 (by decide) dX13_countWays_110 rfl ?_
    refine z_aload_n (q := 113) 0 dX13_countWays_112 rfl rfl ?_
    refine z_gf (q := 116) (ki := 26) (v := (2, 105)) fX13_69 rfl (z_ldr rfl (hl0.ref 97 rfl)) (hl0.i 88 (by decide) rfl) dX13_countWays_113 rfl ?_
    refine z_iload_n (q := 117) 2 dX13_countWays_116 rfl rfl ?_
    refine z_iale (q := 118) (v := (h 105 x3)) (hl0.a 105 (by decide) rfl) (p2 c1) (p3 c1) rfl dX13_countWays_117 rfl ?_
    refine z_aload_n (q := 119) 0 dX13_countWays_118 rfl rfl ?_
    refine z_iload_n (q := 120) 2 dX13_countWays_119 rfl rfl ?_
    refine z_iload (q := 122) 3 dX13_countWays_120 rfl rfl ?_
    refine z_iload (q := 124) 4 dX13_countWays_122 rfl rfl ?_
    refine z_iload (q := 126) 5 dX13_countWays_124 rfl rfl ?_
    refine z_iload_n (q := 127) 1 dX13_countWays_126 rfl rfl ?_
    refine z_iconst (q := 128) dX13_countWays_127 rfl ?_
    refine z_iadd (q := 129) dX13_countWays_128 rfl ?_
    exact z_goV (q := 132) (av := [(0, x3), (0, x4), (0, x5), (0, x6), (0, (x2 + 1))]) (rest := [(0, (h 105 x3)), (0, 1000000), (0, x3), (2, 105)]) cb11 (hl0.i 88 (by decide) rfl) z_toi hl0 (u2 c1) mo_X13_leadsBy np_X13_leadsBy k1666 k1668 k93 rfl (nle rfl) dX13_countWays_129 rfl
theorem b_X13_countWays_132 {D : zD} {d : Nat} {G : zG} {h : zH} {Q : zO → zG → zH → Prop} {s1 s2 s3 s4 x2 x3 x4 x5 x6 : Int} (hd : 1 ≤ d) (p1 : z_in s2) (p2 : z_in (s3 + s4)) (p3 : 0 ≤ s1) (p4 : s1 < 1500)
    (u1 : z_Y D M_X13_countWays d 98 [(0, 2, 88), (2, 0, x2), (3, 0, x3), (4, 0, x4), (5, 0, x5), (6, 0, (x6 + 1))] [] G (z_wr h 105 s1 (if (s3 + s4) < s2 then (s3 + s4) else s2)) Q) :
    z_Y D M_X13_countWays d 132 [(0, 2, 88), (2, 0, x2), (3, 0, x3), (4, 0, x4), (5, 0, x5), (6, 0, x6)] [(0, s4), (0, s3), (0, s2), (0, s1), (2, 105)] G h Q := by
  intro hl0
  refine z_iadd (q := 133) dX13_countWays_132 rfl ?_
  refine z_min (q := 136) p1 p2 k1670 k981 k117 k982 (by omega) (nle rfl) dX13_countWays_133 rfl ?_
  refine z_isn (q := 137) (hl0.i 105 (by decide) rfl) (hl0.n 105 (by decide) rfl) p3 p4 dX13_countWays_136 rfl ?_
  have hl1 := hl0.wr (v := (if (s3 + s4) < s2 then (s3 + s4) else s2)) (hl0.i 105 (by decide) rfl) (i := s1) rfl
  refine z_iinc (q := 140) (L' := [(0, 2, 88), (2, 0, x2), (3, 0, x3), (4, 0, x4), (5, 0, x5), (6, 0, (x6 + 1))]) 5 dX13_countWays_137 rfl rfl (by decide) rfl ?_
  refine z_goto (t := 98) dX13_countWays_140 (by decide) ?_
  exact u1 hl1
theorem b_X13_leadsBy_0 {D : zD} {d : Nat} {G : zG} {h : zH} {Q : zO → zG → zH → Prop} {x1 x2 x3 x4 x5 : Int}
    (u1 : z_Ki D M_X13_goes d [(2, 88), (0, x1), (0, x2), (0, x3), (0, x4)] G h (fun r G' h' => z_Y D M_X13_leadsBy d 9 [(0, 2, 88), (5, 0, x5)] [(0, r)] G' h' Q)) :
    z_Y D M_X13_leadsBy d 0 [(0, 2, 88), (1, 0, x1), (2, 0, x2), (3, 0, x3), (4, 0, x4), (5, 0, x5)] [] G h Q := by
  intro hl0
  refine z_aload_n (q := 1) 0 dX13_leadsBy_0 rfl rfl ?_
  refine z_iload_n (q := 2) 1 dX13_leadsBy_1 rfl rfl ?_
  refine z_iload_n (q := 3) 2 dX13_leadsBy_2 rfl rfl ?_
  refine z_iload_n (q := 4) 3 dX13_leadsBy_3 rfl rfl ?_
  refine z_iload (q := 6) 4 dX13_leadsBy_4 rfl rfl ?_
  refine z_sub (L' := [(0, 2, 88), (5, 0, x5)]) [0, 5] rfl ?_
  exact z_goV (q := 9) (av := [(0, x1), (0, x2), (0, x3), (0, x4)]) (rest := []) cb11 (hl0.i 88 (by decide) rfl) z_toi hl0 (u1) mo_X13_goes np_X13_goes k1646 k1648 k88 rfl (nle rfl) dX13_leadsBy_6 rfl
theorem b_X13_leadsBy_9 {D : zD} {d : Nat} {G : zG} {h : zH} {Q : zO → zG → zH → Prop} {s0 x5 : Int} (p1 : z_in s0)
    (u1 : ¬ s0 = 0 → z_Ki D M_X13_search d [(2, 88)] G h (fun r G' h' => z_Y D M_X13_leadsBy d 18 [(0, 2, 88), (5, 0, x5)] [(0, r)] G' h' Q))
    (u2 : ¬ (¬ s0 = 0) → Q (.inl (some (0, 0))) G h) :
    z_Y D M_X13_leadsBy d 9 [(0, 2, 88), (5, 0, x5)] [(0, s0)] G h Q := by
  intro hl0
  refine z_if_ne (q := 12) (t := 14) p1 dX13_leadsBy_9 (by decide) rfl (fun c1 => ?_) (fun c1 => ?_)
  · refine z_aload_n (q := 15) 0 dX13_leadsBy_14 rfl rfl ?_
    exact z_goV (q := 18) (av := []) (rest := []) cb11 (hl0.i 88 (by decide) rfl) z_toi hl0 (u1 c1) mo_X13_search np_X13_search k1654 k1656 k90 rfl (nle rfl) dX13_leadsBy_15 rfl
  · refine z_iconst (q := 13) dX13_leadsBy_12 rfl ?_
    exact z_iret rfl dX13_leadsBy_13 ⟨hl0, u2 c1⟩
theorem b_X13_leadsBy_18 {D : zD} {d : Nat} {G : zG} {h : zH} {Q : zO → zG → zH → Prop} {s0 x5 : Int} (p1 : 0 ≤ x5) (p2 : x5 < 6) (p3 : z_in s0) (p4 : z_in (h 106 x5)) (p5 : ¬ (s0 < (h 106 x5)) → 0 ≤ (x5 + 1)) (p6 : ¬ (s0 < (h 106 x5)) → (x5 + 1) < 6) (p7 : ¬ (s0 < (h 106 x5)) → z_in (h 106 (x5 + 1))) (p8 : ¬ (s0 < (h 106 x5)) → s0 < (h 106 (x5 + 1)) → 0 ≤ s0) (p9 : ¬ (s0 < (h 106 x5)) → s0 < (h 106 (x5 + 1)) → s0 < 1500)
    (u1 : s0 < (h 106 x5) → Q (.inl (some (0, 0))) G h)
    (u2 : ¬ (s0 < (h 106 x5)) → s0 < (h 106 (x5 + 1)) → Q (.inl (some (0, (h 105 s0)))) G h)
    (u3 : ¬ (s0 < (h 106 x5)) → ¬ (s0 < (h 106 (x5 + 1))) → Q (.inl (some (0, 0))) G h) :
    z_Y D M_X13_leadsBy d 18 [(0, 2, 88), (5, 0, x5)] [(0, s0)] G h Q := by
  intro hl0
  refine z_istore (q := 20) (L' := [(0, 2, 88), (5, 0, x5), (6, 0, s0)]) dX13_leadsBy_18 rfl (by decide) rfl ?_
  refine z_iload (q := 22) 2 dX13_leadsBy_20 rfl rfl ?_
  refine z_aload_n (q := 23) 0 dX13_leadsBy_22 rfl rfl ?_
  refine z_gf (q := 26) (ki := 27) (v := (2, 106)) fX13_72 rfl (z_ldr rfl (hl0.ref 98 rfl)) (hl0.i 88 (by decide) rfl) dX13_leadsBy_23 rfl ?_
  refine z_iload (q := 28) 1 dX13_leadsBy_26 rfl rfl ?_
  refine z_iale (q := 29) (v := (h 106 x5)) (hl0.a 106 (by decide) rfl) p1 p2 rfl dX13_leadsBy_28 rfl ?_
  refine z_icmp_lt (q := 32) (t := 46) p3 p4 dX13_leadsBy_29 (by decide) rfl (fun c1 => ?_) (fun c1 => ?_)
  · refine z_iconst (q := 47) dX13_leadsBy_46 rfl ?_
    refine z_goto (t := 57) dX13_leadsBy_47 (by decide) ?_
    exact z_iret rfl dX13_leadsBy_57 ⟨hl0, u1 c1⟩
  · refine z_iload (q := 34) 2 dX13_leadsBy_32 rfl rfl ?_
    refine z_aload_n (q := 35) 0 dX13_leadsBy_34 rfl rfl ?_
    refine z_gf (q := 38) (ki := 27) (v := (2, 106)) fX13_72 rfl (z_ldr rfl (hl0.ref 98 rfl)) (hl0.i 88 (by decide) rfl) dX13_leadsBy_35 rfl ?_
    refine z_iload (q := 40) 1 dX13_leadsBy_38 rfl rfl ?_
    refine z_iconst (q := 41) dX13_leadsBy_40 rfl ?_
    refine z_iadd (q := 42) dX13_leadsBy_41 rfl ?_
    refine z_iale (q := 43) (v := (h 106 (x5 + 1))) (hl0.a 106 (by decide) rfl) (p5 c1) (p6 c1) rfl dX13_leadsBy_42 rfl ?_
    refine z_icmp_lt (q := 46) (t := 50) p3 (p7 c1) dX13_leadsBy_43 (by decide) rfl (fun c2 => ?_) (fun c2 => ?_)
    · refine z_aload_n (q := 51) 0 dX13_leadsBy_50 rfl rfl ?_
      refine z_gf (q := 54) (ki := 26) (v := (2, 105)) fX13_69 rfl (z_ldr rfl (hl0.ref 97 rfl)) (hl0.i 88 (by decide) rfl) dX13_leadsBy_51 rfl ?_
      refine z_iload (q := 56) 2 dX13_leadsBy_54 rfl rfl ?_
      refine z_iale (q := 57) (v := (h 105 s0)) (hl0.a 105 (by decide) rfl) (p8 c1 c2) (p9 c1 c2) rfl dX13_leadsBy_56 rfl ?_
      exact z_iret rfl dX13_leadsBy_57 ⟨hl0, u2 c1 c2⟩
    · refine z_iconst (q := 47) dX13_leadsBy_46 rfl ?_
      refine z_goto (t := 57) dX13_leadsBy_47 (by decide) ?_
      exact z_iret rfl dX13_leadsBy_57 ⟨hl0, u3 c1 c2⟩
theorem b_X13_tellWays_0 {D : zD} {d : Nat} {G : zG} {h : zH} {Q : zO → zG → zH → Prop} {x1 x2 x3 : Int} (p1 : z_in (h 88 41)) (p2 : ¬ (h 88 41) = 60 → z_in x2) (p3 : ¬ (h 88 41) = 60 → z_in x3)
    (u1 : ¬ (h 88 41) = 60 → ¬ x2 = x3 → z_Y D M_X13_tellWays d 112 [(0, 2, 88), (1, 0, x1), (2, 0, x2), (3, 0, x3), (4, 0, 1)] [] G h Q)
    (u2 : ¬ (h 88 41) = 60 → ¬ (¬ x2 = x3) → z_Y D M_X13_tellWays d 18 [(0, 2, 88), (3, 0, x3), (4, 0, 0)] [] G h Q)
    (u3 : ¬ (¬ (h 88 41) = 60) → Q (.inl none) G h) :
    z_Y D M_X13_tellWays d 0 [(0, 2, 88), (1, 0, x1), (2, 0, x2), (3, 0, x3)] [] G h Q := by
  intro hl0
  refine z_aload_n (q := 1) 0 dX13_tellWays_0 rfl rfl ?_
  refine z_gf (q := 4) (ki := 41) (v := (0, (h 88 41))) fX13_379 rfl rfl (hl0.i 88 (by decide) rfl) dX13_tellWays_1 rfl ?_
  refine z_bipush (q := 6) dX13_tellWays_4 rfl (by decide) ?_
  refine z_icmp_ne (q := 9) (t := 10) p1 ⟨by decide, by decide⟩ dX13_tellWays_6 (by decide) rfl (fun c1 => ?_) (fun c1 => ?_)
  · refine z_iload_n (q := 11) 2 dX13_tellWays_10 rfl rfl ?_
    refine z_iload_n (q := 12) 3 dX13_tellWays_11 rfl rfl ?_
    refine z_icmp_ne (q := 15) (t := 109) (p2 c1) (p3 c1) dX13_tellWays_12 (by decide) rfl (fun c2 => ?_) (fun c2 => ?_)
    · refine z_iconst (q := 110) dX13_tellWays_109 rfl ?_
      refine z_istore (q := 112) (L' := [(0, 2, 88), (1, 0, x1), (2, 0, x2), (3, 0, x3), (4, 0, 1)]) dX13_tellWays_110 rfl (by decide) rfl ?_
      exact u1 c1 c2 hl0
    · refine z_iconst (q := 16) dX13_tellWays_15 rfl ?_
      refine z_istore (q := 18) (L' := [(0, 2, 88), (1, 0, x1), (2, 0, x2), (3, 0, x3), (4, 0, 0)]) dX13_tellWays_16 rfl (by decide) rfl ?_
      refine z_sub (L' := [(0, 2, 88), (3, 0, x3), (4, 0, 0)]) [0, 3, 4] rfl ?_
      exact u2 c1 c2 hl0
  · exact z_vret rfl dX13_tellWays_9 ⟨hl0, u3 c1⟩
theorem b_X13_tellWays_112 {D : zD} {d : Nat} {G : zG} {h : zH} {Q : zO → zG → zH → Prop} {x1 x2 x3 x4 : Int} (p1 : z_in x4)
    (u1 : 14 < x4 → Q (.inl none) G h)
    (u2 : ¬ (14 < x4) → z_Y D M_X13_tellWays d 122 [(0, 2, 88), (1, 0, x1), (2, 0, x2), (3, 0, x3), (4, 0, x4), (5, 0, 0)] [] G h Q) :
    z_Y D M_X13_tellWays d 112 [(0, 2, 88), (1, 0, x1), (2, 0, x2), (3, 0, x3), (4, 0, x4)] [] G h Q := by
  intro hl0
  refine z_iload (q := 114) 4 dX13_tellWays_112 rfl rfl ?_
  refine z_bipush (q := 116) dX13_tellWays_114 rfl (by decide) ?_
  refine z_icmp_gt (q := 119) (t := 226) p1 ⟨by decide, by decide⟩ dX13_tellWays_116 (by decide) rfl (fun c1 => ?_) (fun c1 => ?_)
  · exact z_vret rfl dX13_tellWays_226 ⟨hl0, u1 c1⟩
  · refine z_iconst (q := 120) dX13_tellWays_119 rfl ?_
    refine z_istore (q := 122) (L' := [(0, 2, 88), (1, 0, x1), (2, 0, x2), (3, 0, x3), (4, 0, x4), (5, 0, 0)]) dX13_tellWays_120 rfl (by decide) rfl ?_
    exact u2 c1 hl0
theorem b_X13_tellWays_18 {D : zD} {d : Nat} {G : zG} {h : zH} {Q : zO → zG → zH → Prop} {x3 x4 : Int} (p1 : z_in x4) (p2 : z_in x3) (p3 : ¬ (x3 ≤ x4) → 0 ≤ x4) (p4 : ¬ (x3 ≤ x4) → x4 < 4) (p5 : ¬ (x3 ≤ x4) → 0 ≤ ((4 * (h 88 41)) + x4)) (p6 : ¬ (x3 ≤ x4) → ((4 * (h 88 41)) + x4) < 240)
    (u1 : x3 ≤ x4 → Q (.inl none) G (z_wr (z_wr h 88 42 x3) 88 41 ((h 88 41) + 1)))
    (u2 : ¬ (x3 ≤ x4) → z_Y D M_X13_tellWays d 18 [(0, 2, 88), (3, 0, x3), (4, 0, (x4 + 1))] [] G (z_wr (z_wr (z_wr h 111 ((4 * (h 88 41)) + x4) (h 108 x4)) 112 ((4 * (h 88 41)) + x4) (h 109 x4)) 113 ((4 * (h 88 41)) + x4) (h 110 x4)) Q) :
    z_Y D M_X13_tellWays d 18 [(0, 2, 88), (3, 0, x3), (4, 0, x4)] [] G h Q := by
  intro hl0
  refine z_iload (q := 20) 2 dX13_tellWays_18 rfl rfl ?_
  refine z_iload_n (q := 21) 1 dX13_tellWays_20 rfl rfl ?_
  refine z_icmp_ge (q := 24) (t := 93) p1 p2 dX13_tellWays_21 (by decide) rfl (fun c1 => ?_) (fun c1 => ?_)
  · refine z_aload_n (q := 94) 0 dX13_tellWays_93 rfl rfl ?_
    refine z_iload_n (q := 95) 1 dX13_tellWays_94 rfl rfl ?_
    refine z_pf (q := 98) (ki := 42) fX13_415 rfl (z_sv0 rfl) (hl0.i 88 (by decide) rfl) dX13_tellWays_95 rfl ?_
    have hl1 := hl0.wr (v := x3) (hl0.i 88 (by decide) rfl) (i := 42) (by decide)
    refine z_aload_n (q := 99) 0 dX13_tellWays_98 rfl rfl ?_
    refine z_dup (q := 100) (by decide) dX13_tellWays_99 rfl ?_
    refine z_gf (q := 103) (ki := 41) (v := (0, (h 88 41))) fX13_379 rfl (z_ldi rfl (w_nj (by decide))) (hl1.i 88 (by decide) rfl) dX13_tellWays_100 rfl ?_
    refine z_iconst (q := 104) dX13_tellWays_103 rfl ?_
    refine z_iadd (q := 105) dX13_tellWays_104 rfl ?_
    refine z_pf (q := 108) (ki := 41) fX13_379 rfl (z_sv0 rfl) (hl1.i 88 (by decide) rfl) dX13_tellWays_105 rfl ?_
    have hl2 := hl1.wr (v := ((h 88 41) + 1)) (hl1.i 88 (by decide) rfl) (i := 41) (by decide)
    exact z_vret rfl dX13_tellWays_108 ⟨hl2, u1 c1⟩
  · refine z_aload_n (q := 25) 0 dX13_tellWays_24 rfl rfl ?_
    refine z_gf (q := 28) (ki := 38) (v := (2, 111)) fX13_88 rfl (z_ldr rfl (hl0.ref 103 rfl)) (hl0.i 88 (by decide) rfl) dX13_tellWays_25 rfl ?_
    refine z_iconst (q := 29) dX13_tellWays_28 rfl ?_
    refine z_aload_n (q := 30) 0 dX13_tellWays_29 rfl rfl ?_
    refine z_gf (q := 33) (ki := 41) (v := (0, (h 88 41))) fX13_379 rfl rfl (hl0.i 88 (by decide) rfl) dX13_tellWays_30 rfl ?_
    refine z_imul (q := 34) dX13_tellWays_33 rfl ?_
    refine z_iload (q := 36) 2 dX13_tellWays_34 rfl rfl ?_
    refine z_iadd (q := 37) dX13_tellWays_36 rfl ?_
    refine z_aload_n (q := 38) 0 dX13_tellWays_37 rfl rfl ?_
    refine z_gf (q := 41) (ki := 35) (v := (2, 108)) fX13_79 rfl (z_ldr rfl (hl0.ref 100 rfl)) (hl0.i 88 (by decide) rfl) dX13_tellWays_38 rfl ?_
    refine z_iload (q := 43) 2 dX13_tellWays_41 rfl rfl ?_
    refine z_iale (q := 44) (v := (h 108 x4)) (hl0.a 108 (by decide) rfl) (p3 c1) (p4 c1) rfl dX13_tellWays_43 rfl ?_
    refine z_isn (q := 45) (hl0.i 111 (by decide) rfl) (hl0.n 111 (by decide) rfl) (p5 c1) (p6 c1) dX13_tellWays_44 rfl ?_
    have hl1 := hl0.wr (v := (h 108 x4)) (hl0.i 111 (by decide) rfl) (i := ((4 * (h 88 41)) + x4)) rfl
    refine z_aload_n (q := 46) 0 dX13_tellWays_45 rfl rfl ?_
    refine z_gf (q := 49) (ki := 39) (v := (2, 112)) fX13_91 rfl (z_ldr rfl (hl1.ref 104 rfl)) (hl1.i 88 (by decide) rfl) dX13_tellWays_46 rfl ?_
    refine z_iconst (q := 50) dX13_tellWays_49 rfl ?_
    refine z_aload_n (q := 51) 0 dX13_tellWays_50 rfl rfl ?_
    refine z_gf (q := 54) (ki := 41) (v := (0, (h 88 41))) fX13_379 rfl (z_ldi rfl (w_na (by decide))) (hl1.i 88 (by decide) rfl) dX13_tellWays_51 rfl ?_
    refine z_imul (q := 55) dX13_tellWays_54 rfl ?_
    refine z_iload (q := 57) 2 dX13_tellWays_55 rfl rfl ?_
    refine z_iadd (q := 58) dX13_tellWays_57 rfl ?_
    refine z_aload_n (q := 59) 0 dX13_tellWays_58 rfl rfl ?_
    refine z_gf (q := 62) (ki := 36) (v := (2, 109)) fX13_82 rfl (z_ldr rfl (hl1.ref 101 rfl)) (hl1.i 88 (by decide) rfl) dX13_tellWays_59 rfl ?_
    refine z_iload (q := 64) 2 dX13_tellWays_62 rfl rfl ?_
    refine z_iale (q := 65) (v := (h 109 x4)) (hl1.a 109 (by decide) rfl) (p3 c1) (p4 c1) (w_na (by decide)) dX13_tellWays_64 rfl ?_
    refine z_isn (q := 66) (hl1.i 112 (by decide) rfl) (hl1.n 112 (by decide) rfl) (p5 c1) (p6 c1) dX13_tellWays_65 rfl ?_
    have hl2 := hl1.wr (v := (h 109 x4)) (hl1.i 112 (by decide) rfl) (i := ((4 * (h 88 41)) + x4)) rfl
    refine z_aload_n (q := 67) 0 dX13_tellWays_66 rfl rfl ?_
    refine z_gf (q := 70) (ki := 40) (v := (2, 113)) fX13_94 rfl (z_ldr rfl (hl2.ref 105 rfl)) (hl2.i 88 (by decide) rfl) dX13_tellWays_67 rfl ?_
    refine z_iconst (q := 71) dX13_tellWays_70 rfl ?_
    refine z_aload_n (q := 72) 0 dX13_tellWays_71 rfl rfl ?_
    refine z_gf (q := 75) (ki := 41) (v := (0, (h 88 41))) fX13_379 rfl (z_ldi rfl ((w_na (by decide)).trans (w_na (by decide)))) (hl2.i 88 (by decide) rfl) dX13_tellWays_72 rfl ?_
    refine z_imul (q := 76) dX13_tellWays_75 rfl ?_
    refine z_iload (q := 78) 2 dX13_tellWays_76 rfl rfl ?_
    refine z_iadd (q := 79) dX13_tellWays_78 rfl ?_
    refine z_aload_n (q := 80) 0 dX13_tellWays_79 rfl rfl ?_
    refine z_gf (q := 83) (ki := 37) (v := (2, 110)) fX13_85 rfl (z_ldr rfl (hl2.ref 102 rfl)) (hl2.i 88 (by decide) rfl) dX13_tellWays_80 rfl ?_
    refine z_iload (q := 85) 2 dX13_tellWays_83 rfl rfl ?_
    refine z_iale (q := 86) (v := (h 110 x4)) (hl2.a 110 (by decide) rfl) (p3 c1) (p4 c1) ((w_na (by decide)).trans (w_na (by decide))) dX13_tellWays_85 rfl ?_
    refine z_isn (q := 87) (hl2.i 113 (by decide) rfl) (hl2.n 113 (by decide) rfl) (p5 c1) (p6 c1) dX13_tellWays_86 rfl ?_
    have hl3 := hl2.wr (v := (h 110 x4)) (hl2.i 113 (by decide) rfl) (i := ((4 * (h 88 41)) + x4)) rfl
    refine z_iinc (q := 90) (L' := [(0, 2, 88), (3, 0, x3), (4, 0, (x4 + 1))]) 2 dX13_tellWays_87 rfl rfl (by decide) rfl ?_
    refine z_goto (t := 18) dX13_tellWays_90 (by decide) ?_
    exact u2 c1 hl3
theorem b_X13_tellWays_122 {D : zD} {d : Nat} {G : zG} {h : zH} {Q : zO → zG → zH → Prop} {x1 x2 x3 x4 x5 : Int} (p1 : z_in x5)
    (u1 : 6 ≤ x5 → z_Y D M_X13_tellWays d 112 [(0, 2, 88), (1, 0, x1), (2, 0, x2), (3, 0, x3), (4, 0, (x4 + 1))] [] G h Q)
    (u2 : ¬ (6 ≤ x5) → z_Y D M_X13_tellWays d 132 [(0, 2, 88), (1, 0, x1), (2, 0, x2), (3, 0, x3), (4, 0, x4), (5, 0, x5), (6, 0, 0)] [] G h Q) :
    z_Y D M_X13_tellWays d 122 [(0, 2, 88), (1, 0, x1), (2, 0, x2), (3, 0, x3), (4, 0, x4), (5, 0, x5)] [] G h Q := by
  intro hl0
  refine z_iload (q := 124) 5 dX13_tellWays_122 rfl rfl ?_
  refine z_bipush (q := 126) dX13_tellWays_124 rfl (by decide) ?_
  refine z_icmp_ge (q := 129) (t := 220) p1 ⟨by decide, by decide⟩ dX13_tellWays_126 (by decide) rfl (fun c1 => ?_) (fun c1 => ?_)
  · refine z_iinc (q := 223) (L' := [(0, 2, 88), (1, 0, x1), (2, 0, x2), (3, 0, x3), (4, 0, (x4 + 1)), (5, 0, x5)]) 4 dX13_tellWays_220 rfl rfl (by decide) rfl ?_
    refine z_goto (t := 112) dX13_tellWays_223 (by decide) ?_
    refine z_sub (L' := [(0, 2, 88), (1, 0, x1), (2, 0, x2), (3, 0, x3), (4, 0, (x4 + 1))]) [0, 1, 2, 3, 4] rfl ?_
    exact u1 c1 hl0
  · refine z_iconst (q := 130) dX13_tellWays_129 rfl ?_
    refine z_istore (q := 132) (L' := [(0, 2, 88), (1, 0, x1), (2, 0, x2), (3, 0, x3), (4, 0, x4), (5, 0, x5), (6, 0, 0)]) dX13_tellWays_130 rfl (by decide) rfl ?_
    exact u2 c1 hl0
theorem b_X13_tellWays_132 {D : zD} {d : Nat} {G : zG} {h : zH} {Q : zO → zG → zH → Prop} {x1 x2 x3 x4 x5 x6 : Int} (p1 : z_in x6) (p2 : ¬ (6 ≤ x6) → z_in (h 88 41))
    (u1 : 6 ≤ x6 → z_Y D M_X13_tellWays d 122 [(0, 2, 88), (1, 0, x1), (2, 0, x2), (3, 0, x3), (4, 0, x4), (5, 0, (x5 + 1))] [] G h Q)
    (u2 : ¬ (6 ≤ x6) → (h 88 41) = 60 → z_Y D M_X13_tellWays d 132 [(0, 2, 88), (1, 0, x1), (2, 0, x2), (3, 0, x3), (4, 0, x4), (5, 0, x5), (6, 0, (x6 + 1))] [] G h Q)
    (u3 : ¬ (6 ≤ x6) → ¬ ((h 88 41) = 60) → z_Ki D M_X13_leadsBy d [(2, 88), (0, x1), (0, x4), (0, x5), (0, x6), (0, (x2 + 1))] G h (fun r G' h' => z_Y D M_X13_tellWays d 162 [(0, 2, 88), (1, 0, x1), (2, 0, x2), (3, 0, x3), (4, 0, x4), (5, 0, x5), (6, 0, x6)] [(0, r)] G' h' Q)) :
    z_Y D M_X13_tellWays d 132 [(0, 2, 88), (1, 0, x1), (2, 0, x2), (3, 0, x3), (4, 0, x4), (5, 0, x5), (6, 0, x6)] [] G h Q := by
  intro hl0
  refine z_iload (q := 134) 6 dX13_tellWays_132 rfl rfl ?_
  refine z_bipush (q := 136) dX13_tellWays_134 rfl (by decide) ?_
  refine z_icmp_ge (q := 139) (t := 214) p1 ⟨by decide, by decide⟩ dX13_tellWays_136 (by decide) rfl (fun c1 => ?_) (fun c1 => ?_)
  · refine z_iinc (q := 217) (L' := [(0, 2, 88), (1, 0, x1), (2, 0, x2), (3, 0, x3), (4, 0, x4), (5, 0, (x5 + 1)), (6, 0, x6)]) 5 dX13_tellWays_214 rfl rfl (by decide) rfl ?_
    refine z_goto (t := 122) dX13_tellWays_217 (by decide) ?_
    refine z_sub (L' := [(0, 2, 88), (1, 0, x1), (2, 0, x2), (3, 0, x3), (4, 0, x4), (5, 0, (x5 + 1))]) [0, 1, 2, 3, 4, 5] rfl ?_
    exact u1 c1 hl0
  · refine z_aload_n (q := 140) 0 dX13_tellWays_139 rfl rfl ?_
    refine z_gf (q := 143) (ki := 41) (v := (0, (h 88 41))) fX13_379 rfl rfl (hl0.i 88 (by decide) rfl) dX13_tellWays_140 rfl ?_
    refine z_bipush (q := 145) dX13_tellWays_143 rfl (by decide) ?_
    refine z_icmp_eq (q := 148) (t := 208) (p2 c1) ⟨by decide, by decide⟩ dX13_tellWays_145 (by decide) rfl (fun c2 => ?_) (fun c2 => ?_)
    · refine z_iinc (q := 211) (L' := [(0, 2, 88), (1, 0, x1), (2, 0, x2), (3, 0, x3), (4, 0, x4), (5, 0, x5), (6, 0, (x6 + 1))]) 6 dX13_tellWays_208 rfl rfl (by decide) rfl ?_
      refine z_goto (t := 132) dX13_tellWays_211 (by decide) ?_
      exact u2 c1 c2 hl0
    · refine z_aload_n (q := 149) 0 dX13_tellWays_148 rfl rfl ?_
      refine z_iload_n (q := 150) 1 dX13_tellWays_149 rfl rfl ?_
      refine z_iload (q := 152) 4 dX13_tellWays_150 rfl rfl ?_
      refine z_iload (q := 154) 5 dX13_tellWays_152 rfl rfl ?_
      refine z_iload (q := 156) 6 dX13_tellWays_154 rfl rfl ?_
      refine z_iload_n (q := 157) 2 dX13_tellWays_156 rfl rfl ?_
      refine z_iconst (q := 158) dX13_tellWays_157 rfl ?_
      refine z_iadd (q := 159) dX13_tellWays_158 rfl ?_
      exact z_goV (q := 162) (av := [(0, x1), (0, x4), (0, x5), (0, x6), (0, (x2 + 1))]) (rest := []) cb11 (hl0.i 88 (by decide) rfl) z_toi hl0 (u3 c1 c2) mo_X13_leadsBy np_X13_leadsBy k1666 k1668 k93 rfl (nle rfl) dX13_tellWays_159 rfl
theorem b_X13_tellWays_162 {D : zD} {d : Nat} {G : zG} {h : zH} {Q : zO → zG → zH → Prop} {s0 x1 x2 x3 x4 x5 x6 : Int} (p1 : z_in s0)
    (u1 : ¬ s0 = 0 → z_Ki D M_X13_search d [(2, 88)] G h (fun r G' h' => z_Y D M_X13_tellWays d 172 [(0, 2, 88), (1, 0, x1), (2, 0, x2), (3, 0, x3), (4, 0, x4), (5, 0, x5), (6, 0, x6)] [(0, r)] G' h' Q))
    (u2 : ¬ (¬ s0 = 0) → z_Y D M_X13_tellWays d 132 [(0, 2, 88), (1, 0, x1), (2, 0, x2), (3, 0, x3), (4, 0, x4), (5, 0, x5), (6, 0, (x6 + 1))] [] G h Q) :
    z_Y D M_X13_tellWays d 162 [(0, 2, 88), (1, 0, x1), (2, 0, x2), (3, 0, x3), (4, 0, x4), (5, 0, x5), (6, 0, x6)] [(0, s0)] G h Q := by
  intro hl0
  refine z_if_ne (q := 165) (t := 168) p1 dX13_tellWays_162 (by decide) rfl (fun c1 => ?_) (fun c1 => ?_)
  · refine z_aload_n (q := 169) 0 dX13_tellWays_168 rfl rfl ?_
    exact z_goV (q := 172) (av := []) (rest := []) cb11 (hl0.i 88 (by decide) rfl) z_toi hl0 (u1 c1) mo_X13_search np_X13_search k1654 k1656 k90 rfl (nle rfl) dX13_tellWays_169 rfl
  · refine z_goto (t := 208) dX13_tellWays_165 (by decide) ?_
    refine z_iinc (q := 211) (L' := [(0, 2, 88), (1, 0, x1), (2, 0, x2), (3, 0, x3), (4, 0, x4), (5, 0, x5), (6, 0, (x6 + 1))]) 6 dX13_tellWays_208 rfl rfl (by decide) rfl ?_
    refine z_goto (t := 132) dX13_tellWays_211 (by decide) ?_
    exact u2 c1 hl0
theorem b_X13_tellWays_172 {D : zD} {d : Nat} {G : zG} {h : zH} {Q : zO → zG → zH → Prop} {s0 x1 x2 x3 x4 x5 x6 : Int} (p1 : 0 ≤ x2) (p2 : x2 < 4)
    (u1 : z_Kv D M_X13_tellWays d [(2, 88), (0, s0), (0, (x2 + 1)), (0, x3)] G (z_wr (z_wr (z_wr h 108 x2 x4) 109 x2 x5) 110 x2 x6) (fun G' h' => z_Y D M_X13_tellWays d 208 [(0, 2, 88), (1, 0, x1), (2, 0, x2), (3, 0, x3), (4, 0, x4), (5, 0, x5), (6, 0, x6)] [] G' h' Q)) :
    z_Y D M_X13_tellWays d 172 [(0, 2, 88), (1, 0, x1), (2, 0, x2), (3, 0, x3), (4, 0, x4), (5, 0, x5), (6, 0, x6)] [(0, s0)] G h Q := by
  intro hl0
  refine z_istore (q := 174) (L' := [(0, 2, 88), (1, 0, x1), (2, 0, x2), (3, 0, x3), (4, 0, x4), (5, 0, x5), (6, 0, x6), (7, 0, s0)]) dX13_tellWays_172 rfl (by decide) rfl ?_
  refine z_aload_n (q := 175) 0 dX13_tellWays_174 rfl rfl ?_
  refine z_gf (q := 178) (ki := 35) (v := (2, 108)) fX13_79 rfl (z_ldr rfl (hl0.ref 100 rfl)) (hl0.i 88 (by decide) rfl) dX13_tellWays_175 rfl ?_
  refine z_iload_n (q := 179) 2 dX13_tellWays_178 rfl rfl ?_
  refine z_iload (q := 181) 4 dX13_tellWays_179 rfl rfl ?_
  refine z_isn (q := 182) (hl0.i 108 (by decide) rfl) (hl0.n 108 (by decide) rfl) p1 p2 dX13_tellWays_181 rfl ?_
  have hl1 := hl0.wr (v := x4) (hl0.i 108 (by decide) rfl) (i := x2) rfl
  refine z_aload_n (q := 183) 0 dX13_tellWays_182 rfl rfl ?_
  refine z_gf (q := 186) (ki := 36) (v := (2, 109)) fX13_82 rfl (z_ldr rfl (hl1.ref 101 rfl)) (hl1.i 88 (by decide) rfl) dX13_tellWays_183 rfl ?_
  refine z_iload_n (q := 187) 2 dX13_tellWays_186 rfl rfl ?_
  refine z_iload (q := 189) 5 dX13_tellWays_187 rfl rfl ?_
  refine z_isn (q := 190) (hl1.i 109 (by decide) rfl) (hl1.n 109 (by decide) rfl) p1 p2 dX13_tellWays_189 rfl ?_
  have hl2 := hl1.wr (v := x5) (hl1.i 109 (by decide) rfl) (i := x2) rfl
  refine z_aload_n (q := 191) 0 dX13_tellWays_190 rfl rfl ?_
  refine z_gf (q := 194) (ki := 37) (v := (2, 110)) fX13_85 rfl (z_ldr rfl (hl2.ref 102 rfl)) (hl2.i 88 (by decide) rfl) dX13_tellWays_191 rfl ?_
  refine z_iload_n (q := 195) 2 dX13_tellWays_194 rfl rfl ?_
  refine z_iload (q := 197) 6 dX13_tellWays_195 rfl rfl ?_
  refine z_isn (q := 198) (hl2.i 110 (by decide) rfl) (hl2.n 110 (by decide) rfl) p1 p2 dX13_tellWays_197 rfl ?_
  have hl3 := hl2.wr (v := x6) (hl2.i 110 (by decide) rfl) (i := x2) rfl
  refine z_aload_n (q := 199) 0 dX13_tellWays_198 rfl rfl ?_
  refine z_iload (q := 201) 7 dX13_tellWays_199 rfl rfl ?_
  refine z_iload_n (q := 202) 2 dX13_tellWays_201 rfl rfl ?_
  refine z_iconst (q := 203) dX13_tellWays_202 rfl ?_
  refine z_iadd (q := 204) dX13_tellWays_203 rfl ?_
  refine z_iload_n (q := 205) 3 dX13_tellWays_204 rfl rfl ?_
  refine z_sub (L' := [(0, 2, 88), (1, 0, x1), (2, 0, x2), (3, 0, x3), (4, 0, x4), (5, 0, x5), (6, 0, x6)]) [0, 1, 2, 3, 4, 5, 6] rfl ?_
  exact z_goV (q := 208) (av := [(0, s0), (0, (x2 + 1)), (0, x3)]) (rest := []) cb11 (hl3.i 88 (by decide) rfl) z_tov hl3 (u1) mo_X13_tellWays np_X13_tellWays k1671 k1673 k94 rfl (nle rfl) dX13_tellWays_205 rfl
theorem b_X13_tellWays_208 {D : zD} {d : Nat} {G : zG} {h : zH} {Q : zO → zG → zH → Prop} {x1 x2 x3 x4 x5 x6 : Int}
    (u1 : z_Y D M_X13_tellWays d 132 [(0, 2, 88), (1, 0, x1), (2, 0, x2), (3, 0, x3), (4, 0, x4), (5, 0, x5), (6, 0, (x6 + 1))] [] G h Q) :
    z_Y D M_X13_tellWays d 208 [(0, 2, 88), (1, 0, x1), (2, 0, x2), (3, 0, x3), (4, 0, x4), (5, 0, x5), (6, 0, x6)] [] G h Q := by
  intro hl0
  refine z_iinc (q := 211) (L' := [(0, 2, 88), (1, 0, x1), (2, 0, x2), (3, 0, x3), (4, 0, x4), (5, 0, x5), (6, 0, (x6 + 1))]) 6 dX13_tellWays_208 rfl rfl (by decide) rfl ?_
  refine z_goto (t := 132) dX13_tellWays_211 (by decide) ?_
  exact u1 hl0
theorem b_X13_fit_0 {D : zD} {d : Nat} {G : zG} {h : zH} {Q : zO → zG → zH → Prop} {x1 x2 x3 : Int} (p1 : 0 ≤ x1) (p2 : x1 < 12) (p3 : 0 ≤ x2) (p4 : x2 < 12) (p5 : z_in (h 89 x1)) (p6 : z_in (h 89 x2)) (p7 : ¬ (¬ (h 89 x1) = (h 89 x2)) → z_in (h 90 x1)) (p8 : ¬ (¬ (h 89 x1) = (h 89 x2)) → z_in (h 90 x2))
    (u1 : ¬ (h 89 x1) = (h 89 x2) → Q (.inl (some (0, 0))) G h)
    (u2 : ¬ (¬ (h 89 x1) = (h 89 x2)) → (h 90 x1) = (h 90 x2) → z_Y D M_X13_fit d 35 [(0, 2, 88), (1, 0, x1), (2, 0, x2), (3, 0, x3), (4, 0, 0)] [] G h Q)
    (u3 : ¬ (¬ (h 89 x1) = (h 89 x2)) → ¬ ((h 90 x1) = (h 90 x2)) → Q (.inl (some (0, 0))) G h) :
    z_Y D M_X13_fit d 0 [(0, 2, 88), (1, 0, x1), (2, 0, x2), (3, 0, x3)] [] G h Q := by
  intro hl0
  refine z_aload_n (q := 1) 0 dX13_fit_0 rfl rfl ?_
  refine z_gf (q := 4) (ki := 0) (v := (2, 89)) fX13_9 rfl (z_ldr rfl (hl0.ref 81 rfl)) (hl0.i 88 (by decide) rfl) dX13_fit_1 rfl ?_
  refine z_iload_n (q := 5) 1 dX13_fit_4 rfl rfl ?_
  refine z_iale (q := 6) (v := (h 89 x1)) (hl0.a 89 (by decide) rfl) p1 p2 rfl dX13_fit_5 rfl ?_
  refine z_aload_n (q := 7) 0 dX13_fit_6 rfl rfl ?_
  refine z_gf (q := 10) (ki := 0) (v := (2, 89)) fX13_9 rfl (z_ldr rfl (hl0.ref 81 rfl)) (hl0.i 88 (by decide) rfl) dX13_fit_7 rfl ?_
  refine z_iload_n (q := 11) 2 dX13_fit_10 rfl rfl ?_
  refine z_iale (q := 12) (v := (h 89 x2)) (hl0.a 89 (by decide) rfl) p3 p4 rfl dX13_fit_11 rfl ?_
  refine z_icmp_ne (q := 15) (t := 30) p5 p6 dX13_fit_12 (by decide) rfl (fun c1 => ?_) (fun c1 => ?_)
  · refine z_iconst (q := 31) dX13_fit_30 rfl ?_
    exact z_bret rfl (by decide) dX13_fit_31 ⟨hl0, u1 c1⟩
  · refine z_aload_n (q := 16) 0 dX13_fit_15 rfl rfl ?_
    refine z_gf (q := 19) (ki := 1) (v := (2, 90)) fX13_13 rfl (z_ldr rfl (hl0.ref 82 rfl)) (hl0.i 88 (by decide) rfl) dX13_fit_16 rfl ?_
    refine z_iload_n (q := 20) 1 dX13_fit_19 rfl rfl ?_
    refine z_iale (q := 21) (v := (h 90 x1)) (hl0.a 90 (by decide) rfl) p1 p2 rfl dX13_fit_20 rfl ?_
    refine z_aload_n (q := 22) 0 dX13_fit_21 rfl rfl ?_
    refine z_gf (q := 25) (ki := 1) (v := (2, 90)) fX13_13 rfl (z_ldr rfl (hl0.ref 82 rfl)) (hl0.i 88 (by decide) rfl) dX13_fit_22 rfl ?_
    refine z_iload_n (q := 26) 2 dX13_fit_25 rfl rfl ?_
    refine z_iale (q := 27) (v := (h 90 x2)) (hl0.a 90 (by decide) rfl) p3 p4 rfl dX13_fit_26 rfl ?_
    refine z_icmp_eq (q := 30) (t := 32) (p7 c1) (p8 c1) dX13_fit_27 (by decide) rfl (fun c2 => ?_) (fun c2 => ?_)
    · refine z_iconst (q := 33) dX13_fit_32 rfl ?_
      refine z_istore (q := 35) (L' := [(0, 2, 88), (1, 0, x1), (2, 0, x2), (3, 0, x3), (4, 0, 0)]) dX13_fit_33 rfl (by decide) rfl ?_
      exact u2 c1 c2 hl0
    · refine z_iconst (q := 31) dX13_fit_30 rfl ?_
      exact z_bret rfl (by decide) dX13_fit_31 ⟨hl0, u3 c1 c2⟩
theorem b_X13_fit_35 {D : zD} {d : Nat} {G : zG} {h : zH} {Q : zO → zG → zH → Prop} {x1 x2 x3 x4 : Int} (p1 : 0 ≤ x1) (p2 : x1 < 12) (p3 : z_in x4) (p4 : z_in (h 89 x1))
    (u1 : (h 89 x1) ≤ x4 → Q (.inl (some (0, 1))) G h)
    (u2 : ¬ ((h 89 x1) ≤ x4) → z_Y D M_X13_fit d 49 [(0, 2, 88), (1, 0, x1), (2, 0, x2), (3, 0, x3), (4, 0, x4), (5, 0, 0)] [] G h Q) :
    z_Y D M_X13_fit d 35 [(0, 2, 88), (1, 0, x1), (2, 0, x2), (3, 0, x3), (4, 0, x4)] [] G h Q := by
  intro hl0
  refine z_iload (q := 37) 4 dX13_fit_35 rfl rfl ?_
  refine z_aload_n (q := 38) 0 dX13_fit_37 rfl rfl ?_
  refine z_gf (q := 41) (ki := 0) (v := (2, 89)) fX13_9 rfl (z_ldr rfl (hl0.ref 81 rfl)) (hl0.i 88 (by decide) rfl) dX13_fit_38 rfl ?_
  refine z_iload_n (q := 42) 1 dX13_fit_41 rfl rfl ?_
  refine z_iale (q := 43) (v := (h 89 x1)) (hl0.a 89 (by decide) rfl) p1 p2 rfl dX13_fit_42 rfl ?_
  refine z_icmp_ge (q := 46) (t := 134) p3 p4 dX13_fit_43 (by decide) rfl (fun c1 => ?_) (fun c1 => ?_)
  · refine z_iconst (q := 135) dX13_fit_134 rfl ?_
    exact z_bret rfl (by decide) dX13_fit_135 ⟨hl0, u1 c1⟩
  · refine z_iconst (q := 47) dX13_fit_46 rfl ?_
    refine z_istore (q := 49) (L' := [(0, 2, 88), (1, 0, x1), (2, 0, x2), (3, 0, x3), (4, 0, x4), (5, 0, 0)]) dX13_fit_47 rfl (by decide) rfl ?_
    exact u2 c1 hl0
theorem b_X13_fit_49 {D : zD} {d : Nat} {G : zG} {h : zH} {Q : zO → zG → zH → Prop} {x1 x2 x3 x4 x5 : Int} (hd : 2 ≤ d) (p1 : 0 ≤ x1) (p2 : x1 < 12) (p3 : z_in x5) (p4 : z_in (h 90 x1)) (p5 : ¬ ((h 90 x1) ≤ x5) → 0 ≤ (72 * x1 + 6 * x4 + x5)) (p6 : ¬ ((h 90 x1) ≤ x5) → (72 * x1 + 6 * x4 + x5) < 864) (p7 : ¬ ((h 90 x1) ≤ x5) → 0 ≤ (72 * x2 + 6 * x4 + x5)) (p8 : ¬ ((h 90 x1) ≤ x5) → (72 * x2 + 6 * x4 + x5) < 864) (p9 : ¬ ((h 90 x1) ≤ x5) → z_in64 (h 91 (72 * x1 + 6 * x4 + x5))) (p10 : ¬ ((h 90 x1) ≤ x5) → z_in64 (h 91 (72 * x2 + 6 * x4 + x5))) (p11 : ¬ ((h 90 x1) ≤ x5) → ¬ ((h 91 (72 * x1 + 6 * x4 + x5)) = (h 91 (72 * x2 + 6 * x4 + x5))) → z_in x3)
    (u1 : (h 90 x1) ≤ x5 → z_Y D M_X13_fit d 35 [(0, 2, 88), (1, 0, x1), (2, 0, x2), (3, 0, x3), (4, 0, (x4 + 1))] [] G h Q)
    (u2 : ¬ ((h 90 x1) ≤ x5) → (h 91 (72 * x1 + 6 * x4 + x5)) = (h 91 (72 * x2 + 6 * x4 + x5)) → z_Y D M_X13_fit d 49 [(0, 2, 88), (1, 0, x1), (2, 0, x2), (3, 0, x3), (4, 0, x4), (5, 0, (x5 + 1))] [] G h Q)
    (u3 : ¬ ((h 90 x1) ≤ x5) → ¬ ((h 91 (72 * x1 + 6 * x4 + x5)) = (h 91 (72 * x2 + 6 * x4 + x5))) → x3 = 0 → Q (.inl (some (0, 0))) G h)
    (u4 : ¬ ((h 90 x1) ≤ x5) → ¬ ((h 91 (72 * x1 + 6 * x4 + x5)) = (h 91 (72 * x2 + 6 * x4 + x5))) → ¬ (x3 = 0) → (h 91 (72 * x1 + 6 * x4 + x5)) = (-1) → z_Y D M_X13_fit d 49 [(0, 2, 88), (1, 0, x1), (2, 0, x2), (3, 0, x3), (4, 0, x4), (5, 0, (x5 + 1))] [] G h Q)
    (u5 : ¬ ((h 90 x1) ≤ x5) → ¬ ((h 91 (72 * x1 + 6 * x4 + x5)) = (h 91 (72 * x2 + 6 * x4 + x5))) → ¬ (x3 = 0) → ¬ ((h 91 (72 * x1 + 6 * x4 + x5)) = (-1)) → (h 91 (72 * x2 + 6 * x4 + x5)) = (-1) → z_Y D M_X13_fit d 49 [(0, 2, 88), (1, 0, x1), (2, 0, x2), (3, 0, x3), (4, 0, x4), (5, 0, (x5 + 1))] [] G h Q)
    (u6 : ¬ ((h 90 x1) ≤ x5) → ¬ ((h 91 (72 * x1 + 6 * x4 + x5)) = (h 91 (72 * x2 + 6 * x4 + x5))) → ¬ (x3 = 0) → ¬ ((h 91 (72 * x1 + 6 * x4 + x5)) = (-1)) → ¬ ((h 91 (72 * x2 + 6 * x4 + x5)) = (-1)) → Q (.inl (some (0, 0))) G h) :
    z_Y D M_X13_fit d 49 [(0, 2, 88), (1, 0, x1), (2, 0, x2), (3, 0, x3), (4, 0, x4), (5, 0, x5)] [] G h Q := by
  intro hl0
  refine z_iload (q := 51) 5 dX13_fit_49 rfl rfl ?_
  refine z_aload_n (q := 52) 0 dX13_fit_51 rfl rfl ?_
  refine z_gf (q := 55) (ki := 1) (v := (2, 90)) fX13_13 rfl (z_ldr rfl (hl0.ref 82 rfl)) (hl0.i 88 (by decide) rfl) dX13_fit_52 rfl ?_
  refine z_iload_n (q := 56) 1 dX13_fit_55 rfl rfl ?_
  refine z_iale (q := 57) (v := (h 90 x1)) (hl0.a 90 (by decide) rfl) p1 p2 rfl dX13_fit_56 rfl ?_
  refine z_icmp_ge (q := 60) (t := 128) p3 p4 dX13_fit_57 (by decide) rfl (fun c1 => ?_) (fun c1 => ?_)
  · refine z_iinc (q := 131) (L' := [(0, 2, 88), (1, 0, x1), (2, 0, x2), (3, 0, x3), (4, 0, (x4 + 1)), (5, 0, x5)]) 4 dX13_fit_128 rfl rfl (by decide) rfl ?_
    refine z_goto (t := 35) dX13_fit_131 (by decide) ?_
    refine z_sub (L' := [(0, 2, 88), (1, 0, x1), (2, 0, x2), (3, 0, x3), (4, 0, (x4 + 1))]) [0, 1, 2, 3, 4] rfl ?_
    exact u1 c1 hl0
  · refine z_aload_n (q := 61) 0 dX13_fit_60 rfl rfl ?_
    refine z_gf (q := 64) (ki := 2) (v := (2, 91)) fX13_16 rfl (z_ldr rfl (hl0.ref 83 rfl)) (hl0.i 88 (by decide) rfl) dX13_fit_61 rfl ?_
    refine z_iload_n (q := 65) 1 dX13_fit_64 rfl rfl ?_
    refine z_iload (q := 67) 4 dX13_fit_65 rfl rfl ?_
    refine z_iload (q := 69) 5 dX13_fit_67 rfl rfl ?_
    have e1 := a_X13_at (D := D) (G := G) (h := h) (d := d - 1) (by omega) x1 x4 x5
    refine z_goS (q := 72) (av := [(0, x1), (0, x4), (0, x5)]) (rest := [(2, 91)]) (z_toi) hl0 (z_Ei.K e1 (by omega) ?_) mo_X13_at np_X13_at k1345 k1346 rfl (nle rfl) dX13_fit_69 rfl
    refine z_lale (q := 73) (v := (h 91 (72 * x1 + 6 * x4 + x5))) (hl0.a 91 (by decide) rfl) (p5 c1) (p6 c1) rfl dX13_fit_72 rfl ?_
    refine z_lstore (q := 75) (L' := [(0, 2, 88), (1, 0, x1), (2, 0, x2), (3, 0, x3), (4, 0, x4), (5, 0, x5), (6, 1, (h 91 (72 * x1 + 6 * x4 + x5)))]) dX13_fit_73 rfl (by decide) rfl ?_
    refine z_aload_n (q := 76) 0 dX13_fit_75 rfl rfl ?_
    refine z_gf (q := 79) (ki := 2) (v := (2, 91)) fX13_16 rfl (z_ldr rfl (hl0.ref 83 rfl)) (hl0.i 88 (by decide) rfl) dX13_fit_76 rfl ?_
    refine z_iload_n (q := 80) 2 dX13_fit_79 rfl rfl ?_
    refine z_iload (q := 82) 4 dX13_fit_80 rfl rfl ?_
    refine z_iload (q := 84) 5 dX13_fit_82 rfl rfl ?_
    have e2 := a_X13_at (D := D) (G := G) (h := h) (d := d - 1) (by omega) x2 x4 x5
    refine z_goS (q := 87) (av := [(0, x2), (0, x4), (0, x5)]) (rest := [(2, 91)]) (z_toi) hl0 (z_Ei.K e2 (by omega) ?_) mo_X13_at np_X13_at k1345 k1346 rfl (nle rfl) dX13_fit_84 rfl
    refine z_lale (q := 88) (v := (h 91 (72 * x2 + 6 * x4 + x5))) (hl0.a 91 (by decide) rfl) (p7 c1) (p8 c1) rfl dX13_fit_87 rfl ?_
    refine z_lstore (q := 90) (L' := [(0, 2, 88), (1, 0, x1), (2, 0, x2), (3, 0, x3), (4, 0, x4), (5, 0, x5), (6, 1, (h 91 (72 * x1 + 6 * x4 + x5))), (8, 1, (h 91 (72 * x2 + 6 * x4 + x5)))]) dX13_fit_88 rfl (by decide) rfl ?_
    refine z_lload (q := 92) 6 dX13_fit_90 rfl rfl ?_
    refine z_lload (q := 94) 7 dX13_fit_92 rfl rfl ?_
    refine z_lcmp_eq (q := 98) (t := 122) (p9 c1) (p10 c1) dX13_fit_94 (rfl : _ = 95) dX13_fit_95 (by decide) rfl (fun c2 => ?_) (fun c2 => ?_)
    · refine z_iinc (q := 125) (L' := [(0, 2, 88), (1, 0, x1), (2, 0, x2), (3, 0, x3), (4, 0, x4), (5, 0, (x5 + 1)), (6, 1, (h 91 (72 * x1 + 6 * x4 + x5))), (8, 1, (h 91 (72 * x2 + 6 * x4 + x5)))]) 5 dX13_fit_122 rfl rfl (by decide) rfl ?_
      refine z_goto (t := 49) dX13_fit_125 (by decide) ?_
      refine z_sub (L' := [(0, 2, 88), (1, 0, x1), (2, 0, x2), (3, 0, x3), (4, 0, x4), (5, 0, (x5 + 1))]) [0, 1, 2, 3, 4, 5] rfl ?_
      exact u2 c1 c2 hl0
    · refine z_iload_n (q := 99) 3 dX13_fit_98 rfl rfl ?_
      refine z_if_eq (q := 102) (t := 120) (p11 c1 c2) dX13_fit_99 (by decide) rfl (fun c3 => ?_) (fun c3 => ?_)
      · refine z_iconst (q := 121) dX13_fit_120 rfl ?_
        exact z_bret rfl (by decide) dX13_fit_121 ⟨hl0, u3 c1 c2 c3⟩
      · refine z_lload (q := 104) 6 dX13_fit_102 rfl rfl ?_
        refine z_ldc2 (q := 107) (n := (-1)) k1327 (by decide) dX13_fit_104 rfl ?_
        refine z_lcmp_eq (q := 111) (t := 122) (p9 c1) ⟨by decide, by decide⟩ dX13_fit_107 (rfl : _ = 108) dX13_fit_108 (by decide) rfl (fun c4 => ?_) (fun c4 => ?_)
        · refine z_iinc (q := 125) (L' := [(0, 2, 88), (1, 0, x1), (2, 0, x2), (3, 0, x3), (4, 0, x4), (5, 0, (x5 + 1)), (6, 1, (h 91 (72 * x1 + 6 * x4 + x5))), (8, 1, (h 91 (72 * x2 + 6 * x4 + x5)))]) 5 dX13_fit_122 rfl rfl (by decide) rfl ?_
          refine z_goto (t := 49) dX13_fit_125 (by decide) ?_
          refine z_sub (L' := [(0, 2, 88), (1, 0, x1), (2, 0, x2), (3, 0, x3), (4, 0, x4), (5, 0, (x5 + 1))]) [0, 1, 2, 3, 4, 5] rfl ?_
          exact u4 c1 c2 c3 c4 hl0
        · refine z_lload (q := 113) 7 dX13_fit_111 rfl rfl ?_
          refine z_ldc2 (q := 116) (n := (-1)) k1327 (by decide) dX13_fit_113 rfl ?_
          refine z_lcmp_eq (q := 120) (t := 122) (p10 c1) ⟨by decide, by decide⟩ dX13_fit_116 (rfl : _ = 117) dX13_fit_117 (by decide) rfl (fun c5 => ?_) (fun c5 => ?_)
          · refine z_iinc (q := 125) (L' := [(0, 2, 88), (1, 0, x1), (2, 0, x2), (3, 0, x3), (4, 0, x4), (5, 0, (x5 + 1)), (6, 1, (h 91 (72 * x1 + 6 * x4 + x5))), (8, 1, (h 91 (72 * x2 + 6 * x4 + x5)))]) 5 dX13_fit_122 rfl rfl (by decide) rfl ?_
            refine z_goto (t := 49) dX13_fit_125 (by decide) ?_
            refine z_sub (L' := [(0, 2, 88), (1, 0, x1), (2, 0, x2), (3, 0, x3), (4, 0, x4), (5, 0, (x5 + 1))]) [0, 1, 2, 3, 4, 5] rfl ?_
            exact u5 c1 c2 c3 c4 c5 hl0
          · refine z_iconst (q := 121) dX13_fit_120 rfl ?_
            exact z_bret rfl (by decide) dX13_fit_121 ⟨hl0, u6 c1 c2 c3 c4 c5⟩
theorem b_X13_clean_0 {D : zD} {d : Nat} {G : zG} {h : zH} {Q : zO → zG → zH → Prop} {x1 : Int}
    (u1 : z_Y D M_X13_clean d 2 [(0, 2, 88), (1, 0, x1), (2, 0, 0)] [] G h Q) :
    z_Y D M_X13_clean d 0 [(0, 2, 88), (1, 0, x1)] [] G h Q := by
  intro hl0
  refine z_iconst (q := 1) dX13_clean_0 rfl ?_
  refine z_istore_n (q := 2) (L' := [(0, 2, 88), (1, 0, x1), (2, 0, 0)]) dX13_clean_1 rfl (by decide) rfl ?_
  exact u1 hl0
theorem b_X13_clean_2 {D : zD} {d : Nat} {G : zG} {h : zH} {Q : zO → zG → zH → Prop} {x1 x2 : Int} (p1 : z_in x2)
    (u1 : 12 ≤ x2 → Q (.inl none) G h)
    (u2 : ¬ (12 ≤ x2) → z_Y D M_X13_clean d 10 [(0, 2, 88), (1, 0, x1), (2, 0, x2), (3, 0, 0)] [] G h Q) :
    z_Y D M_X13_clean d 2 [(0, 2, 88), (1, 0, x1), (2, 0, x2)] [] G h Q := by
  intro hl0
  refine z_iload_n (q := 3) 2 dX13_clean_2 rfl rfl ?_
  refine z_bipush (q := 5) dX13_clean_3 rfl (by decide) ?_
  refine z_icmp_ge (q := 8) (t := 60) p1 ⟨by decide, by decide⟩ dX13_clean_5 (by decide) rfl (fun c1 => ?_) (fun c1 => ?_)
  · exact z_vret rfl dX13_clean_60 ⟨hl0, u1 c1⟩
  · refine z_iconst (q := 9) dX13_clean_8 rfl ?_
    refine z_istore_n (q := 10) (L' := [(0, 2, 88), (1, 0, x1), (2, 0, x2), (3, 0, 0)]) dX13_clean_9 rfl (by decide) rfl ?_
    exact u2 c1 hl0
theorem b_X13_clean_10 {D : zD} {d : Nat} {G : zG} {h : zH} {Q : zO → zG → zH → Prop} {x1 x2 x3 : Int} (p1 : z_in x3) (p2 : ¬ (6 ≤ x3) → 0 ≤ x1) (p3 : ¬ (6 ≤ x3) → x1 < 12) (p4 : ¬ (6 ≤ x3) → z_in x2) (p5 : ¬ (6 ≤ x3) → z_in (h 89 x1)) (p6 : ¬ (6 ≤ x3) → ¬ ((h 89 x1) ≤ x2) → z_in (h 90 x1))
    (u1 : 6 ≤ x3 → z_Y D M_X13_clean d 2 [(0, 2, 88), (1, 0, x1), (2, 0, (x2 + 1))] [] G h Q)
    (u2 : ¬ (6 ≤ x3) → (h 89 x1) ≤ x2 → z_Y D M_X13_clean d 36 [(0, 2, 88), (1, 0, x1), (2, 0, x2), (3, 0, x3)] [] G h Q)
    (u3 : ¬ (6 ≤ x3) → ¬ ((h 89 x1) ≤ x2) → x3 < (h 90 x1) → z_Y D M_X13_clean d 10 [(0, 2, 88), (1, 0, x1), (2, 0, x2), (3, 0, (x3 + 1))] [] G h Q)
    (u4 : ¬ (6 ≤ x3) → ¬ ((h 89 x1) ≤ x2) → ¬ (x3 < (h 90 x1)) → z_Y D M_X13_clean d 36 [(0, 2, 88), (1, 0, x1), (2, 0, x2), (3, 0, x3)] [] G h Q) :
    z_Y D M_X13_clean d 10 [(0, 2, 88), (1, 0, x1), (2, 0, x2), (3, 0, x3)] [] G h Q := by
  intro hl0
  refine z_iload_n (q := 11) 3 dX13_clean_10 rfl rfl ?_
  refine z_bipush (q := 13) dX13_clean_11 rfl (by decide) ?_
  refine z_icmp_ge (q := 16) (t := 54) p1 ⟨by decide, by decide⟩ dX13_clean_13 (by decide) rfl (fun c1 => ?_) (fun c1 => ?_)
  · refine z_iinc (q := 57) (L' := [(0, 2, 88), (1, 0, x1), (2, 0, (x2 + 1)), (3, 0, x3)]) 2 dX13_clean_54 rfl rfl (by decide) rfl ?_
    refine z_goto (t := 2) dX13_clean_57 (by decide) ?_
    refine z_sub (L' := [(0, 2, 88), (1, 0, x1), (2, 0, (x2 + 1))]) [0, 1, 2] rfl ?_
    exact u1 c1 hl0
  · refine z_iload_n (q := 17) 2 dX13_clean_16 rfl rfl ?_
    refine z_aload_n (q := 18) 0 dX13_clean_17 rfl rfl ?_
    refine z_gf (q := 21) (ki := 0) (v := (2, 89)) fX13_9 rfl (z_ldr rfl (hl0.ref 81 rfl)) (hl0.i 88 (by decide) rfl) dX13_clean_18 rfl ?_
    refine z_iload_n (q := 22) 1 dX13_clean_21 rfl rfl ?_
    refine z_iale (q := 23) (v := (h 89 x1)) (hl0.a 89 (by decide) rfl) (p2 c1) (p3 c1) rfl dX13_clean_22 rfl ?_
    refine z_icmp_ge (q := 26) (t := 36) (p4 c1) (p5 c1) dX13_clean_23 (by decide) rfl (fun c2 => ?_) (fun c2 => ?_)
    · exact u2 c1 c2 hl0
    · refine z_iload_n (q := 27) 3 dX13_clean_26 rfl rfl ?_
      refine z_aload_n (q := 28) 0 dX13_clean_27 rfl rfl ?_
      refine z_gf (q := 31) (ki := 1) (v := (2, 90)) fX13_13 rfl (z_ldr rfl (hl0.ref 82 rfl)) (hl0.i 88 (by decide) rfl) dX13_clean_28 rfl ?_
      refine z_iload_n (q := 32) 1 dX13_clean_31 rfl rfl ?_
      refine z_iale (q := 33) (v := (h 90 x1)) (hl0.a 90 (by decide) rfl) (p2 c1) (p3 c1) rfl dX13_clean_32 rfl ?_
      refine z_icmp_lt (q := 36) (t := 48) p1 (p6 c1 c2) dX13_clean_33 (by decide) rfl (fun c3 => ?_) (fun c3 => ?_)
      · refine z_iinc (q := 51) (L' := [(0, 2, 88), (1, 0, x1), (2, 0, x2), (3, 0, (x3 + 1))]) 3 dX13_clean_48 rfl rfl (by decide) rfl ?_
        refine z_goto (t := 10) dX13_clean_51 (by decide) ?_
        exact u3 c1 c2 c3 hl0
      · exact u4 c1 c2 c3 hl0
theorem b_X13_clean_36 {D : zD} {d : Nat} {G : zG} {h : zH} {Q : zO → zG → zH → Prop} {x1 x2 x3 : Int} (hd : 2 ≤ d) (p1 : 0 ≤ (72 * x1 + 6 * x2 + x3)) (p2 : (72 * x1 + 6 * x2 + x3) < 864)
    (u1 : z_Y D M_X13_clean d 10 [(0, 2, 88), (1, 0, x1), (2, 0, x2), (3, 0, (x3 + 1))] [] G (z_wr h 91 (72 * x1 + 6 * x2 + x3) 0) Q) :
    z_Y D M_X13_clean d 36 [(0, 2, 88), (1, 0, x1), (2, 0, x2), (3, 0, x3)] [] G h Q := by
  intro hl0
  refine z_aload_n (q := 37) 0 dX13_clean_36 rfl rfl ?_
  refine z_gf (q := 40) (ki := 2) (v := (2, 91)) fX13_16 rfl (z_ldr rfl (hl0.ref 83 rfl)) (hl0.i 88 (by decide) rfl) dX13_clean_37 rfl ?_
  refine z_iload_n (q := 41) 1 dX13_clean_40 rfl rfl ?_
  refine z_iload_n (q := 42) 2 dX13_clean_41 rfl rfl ?_
  refine z_iload_n (q := 43) 3 dX13_clean_42 rfl rfl ?_
  have e1 := a_X13_at (D := D) (G := G) (h := h) (d := d - 1) (by omega) x1 x2 x3
  refine z_goS (q := 46) (av := [(0, x1), (0, x2), (0, x3)]) (rest := [(2, 91)]) (z_toi) hl0 (z_Ei.K e1 (by omega) ?_) mo_X13_at np_X13_at k1345 k1346 rfl (nle rfl) dX13_clean_43 rfl
  refine z_lconst0 (q := 47) dX13_clean_46 rfl ?_
  refine z_lsn (q := 48) (hl0.i 91 (by decide) rfl) (hl0.n 91 (by decide) rfl) p1 p2 dX13_clean_47 rfl ?_
  have hl1 := hl0.wr (v := 0) (hl0.i 91 (by decide) rfl) (i := (72 * x1 + 6 * x2 + x3)) rfl
  refine z_iinc (q := 51) (L' := [(0, 2, 88), (1, 0, x1), (2, 0, x2), (3, 0, (x3 + 1))]) 3 dX13_clean_48 rfl rfl (by decide) rfl ?_
  refine z_goto (t := 10) dX13_clean_51 (by decide) ?_
  exact u1 hl1
