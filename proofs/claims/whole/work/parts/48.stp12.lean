theorem b_X3_tally_0 {D : zD} {d : Nat} {G : zG} {h : zH} {Q : zO → zG → zH → Prop} {x1 x2 x3 : Int}
    (u1 : z_Ki D M_X3_group d [(2, x1), (0, x3), (0, (x3 + 1)), (2, 13), (2, 14)] G h (fun r G' h' => z_Y D M_X3_tally d 16 [(0, 2, 12), (1, 2, x1), (2, 2, x2), (3, 0, x3)] [(0, r)] G' h' Q)) :
    z_Y D M_X3_tally d 0 [(0, 2, 12), (1, 2, x1), (2, 2, x2), (3, 0, x3)] [] G h Q := by
  intro hl0
  refine z_aload_n (q := 1) 1 dX3_tally_0 rfl rfl ?_
  refine z_iload_n (q := 2) 3 dX3_tally_1 rfl rfl ?_
  refine z_iload_n (q := 3) 3 dX3_tally_2 rfl rfl ?_
  refine z_iconst (q := 4) dX3_tally_3 rfl ?_
  refine z_iadd (q := 5) dX3_tally_4 rfl ?_
  refine z_aload_n (q := 6) 0 dX3_tally_5 rfl rfl ?_
  refine z_gf (q := 9) (ki := 0) (v := (2, 13)) fX3_11 rfl (z_ldr rfl (hl0.ref 11 rfl)) (hl0.i 12 (by decide) rfl) dX3_tally_6 rfl ?_
  refine z_aload_n (q := 10) 0 dX3_tally_9 rfl rfl ?_
  refine z_gf (q := 13) (ki := 1) (v := (2, 14)) fX3_17 rfl (z_ldr rfl (hl0.ref 12 rfl)) (hl0.i 12 (by decide) rfl) dX3_tally_10 rfl ?_
  exact z_goS (q := 16) (av := [(2, x1), (0, x3), (0, (x3 + 1)), (2, 13), (2, 14)]) (rest := []) z_toi hl0 (u1) mo_X3_group np_X3_group k786 k787 rfl (nle rfl) dX3_tally_13 rfl
theorem b_X3_tally_16 {D : zD} {d : Nat} {G : zG} {h : zH} {Q : zO → zG → zH → Prop} {s0 x1 x2 x3 : Int}
    (u1 : z_Kv D M_J7_fill_53178 d [(2, 17), (0, 0)] G h (fun G' h' => z_Y D M_X3_tally d 26 [(0, 2, 12), (1, 2, x1), (2, 2, x2), (3, 0, x3), (4, 0, s0)] [] G' h' Q)) :
    z_Y D M_X3_tally d 16 [(0, 2, 12), (1, 2, x1), (2, 2, x2), (3, 0, x3)] [(0, s0)] G h Q := by
  intro hl0
  refine z_istore (q := 18) (L' := [(0, 2, 12), (1, 2, x1), (2, 2, x2), (3, 0, x3), (4, 0, s0)]) dX3_tally_16 rfl (by decide) rfl ?_
  refine z_aload_n (q := 19) 0 dX3_tally_18 rfl rfl ?_
  refine z_gf (q := 22) (ki := 4) (v := (2, 17)) fX3_26 rfl (z_ldr rfl (hl0.ref 15 rfl)) (hl0.i 12 (by decide) rfl) dX3_tally_19 rfl ?_
  refine z_iconst (q := 23) dX3_tally_22 rfl ?_
  exact z_goS (q := 26) (av := [(2, 17), (0, 0)]) (rest := []) z_tov hl0 (u1) mo_J7_fill_53178 np_J7_fill_53178 k815 k816 rfl (nle rfl) dX3_tally_23 rfl
theorem b_X3_tally_26 {D : zD} {d : Nat} {G : zG} {h : zH} {Q : zO → zG → zH → Prop} {x1 x2 x3 x4 : Int}
    (u1 : z_Y D M_X3_tally d 29 [(0, 2, 12), (1, 2, x1), (2, 2, x2), (3, 0, x3), (4, 0, x4), (5, 0, 0)] [] G h Q) :
    z_Y D M_X3_tally d 26 [(0, 2, 12), (1, 2, x1), (2, 2, x2), (3, 0, x3), (4, 0, x4)] [] G h Q := by
  intro hl0
  refine z_iconst (q := 27) dX3_tally_26 rfl ?_
  refine z_istore (q := 29) (L' := [(0, 2, 12), (1, 2, x1), (2, 2, x2), (3, 0, x3), (4, 0, x4), (5, 0, 0)]) dX3_tally_27 rfl (by decide) rfl ?_
  exact u1 hl0
theorem b_X3_tally_29 {D : zD} {d : Nat} {G : zG} {h : zH} {Q : zO → zG → zH → Prop} {x1 x2 x3 x4 x5 : Int} (p1 : z_is G x1 3) (p2 : z_in x5) (p3 : z_in (h x1 1)) (p4 : ¬ ((h x1 1) ≤ x5) → 0 ≤ x5) (p5 : ¬ ((h x1 1) ≤ x5) → x5 < 12) (p6 : ¬ ((h x1 1) ≤ x5) → 0 ≤ (h 13 x5)) (p7 : ¬ ((h x1 1) ≤ x5) → (h 13 x5) < 12)
    (u1 : (h x1 1) ≤ x5 → z_Ki D M_X3_writeAmounts d [(2, 12), (2, x1), (2, x2), (0, x3), (0, x4)] G h (fun r G' h' => z_Y D M_X3_tally d 69 [] [(0, r)] G' h' Q))
    (u2 : ¬ ((h x1 1) ≤ x5) → z_Y D M_X3_tally d 29 [(0, 2, 12), (1, 2, x1), (2, 2, x2), (3, 0, x3), (4, 0, x4), (5, 0, (x5 + 1))] [] G (z_wr h 17 (h 13 x5) ((h 17 (h 13 x5)) + 1)) Q) :
    z_Y D M_X3_tally d 29 [(0, 2, 12), (1, 2, x1), (2, 2, x2), (3, 0, x3), (4, 0, x4), (5, 0, x5)] [] G h Q := by
  intro hl0
  refine z_iload (q := 31) 5 dX3_tally_29 rfl rfl ?_
  refine z_aload_n (q := 32) 1 dX3_tally_31 rfl rfl ?_
  refine z_gf (q := 35) (ki := 1) (v := (0, (h x1 1))) fX3_106 rfl rfl p1 dX3_tally_32 rfl ?_
  refine z_icmp_ge (q := 38) (t := 60) p2 p3 dX3_tally_35 (by decide) rfl (fun c1 => ?_) (fun c1 => ?_)
  · refine z_aload_n (q := 61) 0 dX3_tally_60 rfl rfl ?_
    refine z_aload_n (q := 62) 1 dX3_tally_61 rfl rfl ?_
    refine z_aload_n (q := 63) 2 dX3_tally_62 rfl rfl ?_
    refine z_iload_n (q := 64) 3 dX3_tally_63 rfl rfl ?_
    refine z_iload (q := 66) 4 dX3_tally_64 rfl rfl ?_
    refine z_sub (L' := []) [] rfl ?_
    exact z_goV (q := 69) (av := [(2, x1), (2, x2), (0, x3), (0, x4)]) (rest := []) cb2 (hl0.i 12 (by decide) rfl) z_toi hl0 (u1 c1) mo_X3_writeAmounts np_X3_writeAmounts k818 k820 k23 rfl (nle rfl) dX3_tally_66 rfl
  · refine z_aload_n (q := 39) 0 dX3_tally_38 rfl rfl ?_
    refine z_gf (q := 42) (ki := 4) (v := (2, 17)) fX3_26 rfl (z_ldr rfl (hl0.ref 15 rfl)) (hl0.i 12 (by decide) rfl) dX3_tally_39 rfl ?_
    refine z_aload_n (q := 43) 0 dX3_tally_42 rfl rfl ?_
    refine z_gf (q := 46) (ki := 0) (v := (2, 13)) fX3_11 rfl (z_ldr rfl (hl0.ref 11 rfl)) (hl0.i 12 (by decide) rfl) dX3_tally_43 rfl ?_
    refine z_iload (q := 48) 5 dX3_tally_46 rfl rfl ?_
    refine z_iale (q := 49) (v := (h 13 x5)) (hl0.a 13 (by decide) rfl) (p4 c1) (p5 c1) rfl dX3_tally_48 rfl ?_
    refine z_dup2 (q := 50) (by decide) (by decide) dX3_tally_49 rfl ?_
    refine z_iale (q := 51) (v := (h 17 (h 13 x5))) (hl0.a 17 (by decide) rfl) (p6 c1) (p7 c1) rfl dX3_tally_50 rfl ?_
    refine z_iconst (q := 52) dX3_tally_51 rfl ?_
    refine z_iadd (q := 53) dX3_tally_52 rfl ?_
    refine z_isn (q := 54) (hl0.i 17 (by decide) rfl) (hl0.n 17 (by decide) rfl) (p6 c1) (p7 c1) dX3_tally_53 rfl ?_
    have hl1 := hl0.wr (v := ((h 17 (h 13 x5)) + 1)) (hl0.i 17 (by decide) rfl) (i := (h 13 x5)) rfl
    refine z_iinc (q := 57) (L' := [(0, 2, 12), (1, 2, x1), (2, 2, x2), (3, 0, x3), (4, 0, x4), (5, 0, (x5 + 1))]) 5 dX3_tally_54 rfl rfl (by decide) rfl ?_
    refine z_goto (t := 29) dX3_tally_57 (by decide) ?_
    exact u2 c1 hl1
theorem b_X3_tally_69 {D : zD} {d : Nat} {G : zG} {h : zH} {Q : zO → zG → zH → Prop} {s0 : Int} (p1 : s0 = 0 ∨ s0 = 1)
    (u1 : Q (.inl (some (0, s0))) G h) :
    z_Y D M_X3_tally d 69 [] [(0, s0)] G h Q := by
  intro hl0
  exact z_bret rfl p1 dX3_tally_69 ⟨hl0, u1⟩
theorem b_X3_sum_0 {D : zD} {d : Nat} {G : zG} {h : zH} {Q : zO → zG → zH → Prop} {x1 x2 x3 x4 : Int}
    (u1 : z_Ki D M_X3_group d [(2, x1), (0, x3), (0, (x3 + 1)), (2, 13), (2, 14)] G h (fun r G' h' => z_Y D M_X3_sum d 16 [(0, 2, 12), (1, 2, x1), (2, 2, x2), (3, 0, x3), (4, 0, x4)] [(0, r)] G' h' Q)) :
    z_Y D M_X3_sum d 0 [(0, 2, 12), (1, 2, x1), (2, 2, x2), (3, 0, x3), (4, 0, x4)] [] G h Q := by
  intro hl0
  refine z_aload_n (q := 1) 1 dX3_sum_0 rfl rfl ?_
  refine z_iload_n (q := 2) 3 dX3_sum_1 rfl rfl ?_
  refine z_iload_n (q := 3) 3 dX3_sum_2 rfl rfl ?_
  refine z_iconst (q := 4) dX3_sum_3 rfl ?_
  refine z_iadd (q := 5) dX3_sum_4 rfl ?_
  refine z_aload_n (q := 6) 0 dX3_sum_5 rfl rfl ?_
  refine z_gf (q := 9) (ki := 0) (v := (2, 13)) fX3_11 rfl (z_ldr rfl (hl0.ref 11 rfl)) (hl0.i 12 (by decide) rfl) dX3_sum_6 rfl ?_
  refine z_aload_n (q := 10) 0 dX3_sum_9 rfl rfl ?_
  refine z_gf (q := 13) (ki := 1) (v := (2, 14)) fX3_17 rfl (z_ldr rfl (hl0.ref 12 rfl)) (hl0.i 12 (by decide) rfl) dX3_sum_10 rfl ?_
  exact z_goS (q := 16) (av := [(2, x1), (0, x3), (0, (x3 + 1)), (2, 13), (2, 14)]) (rest := []) z_toi hl0 (u1) mo_X3_group np_X3_group k786 k787 rfl (nle rfl) dX3_sum_13 rfl
theorem b_X3_sum_16 {D : zD} {d : Nat} {G : zG} {h : zH} {Q : zO → zG → zH → Prop} {s0 x1 x2 x3 x4 : Int}
    (u1 : z_Kv D M_J7_fill_53178 d [(2, 17), (0, 0)] G h (fun G' h' => z_Y D M_X3_sum d 26 [(0, 2, 12), (1, 2, x1), (2, 2, x2), (3, 0, x3), (4, 0, x4), (5, 0, s0)] [] G' h' Q)) :
    z_Y D M_X3_sum d 16 [(0, 2, 12), (1, 2, x1), (2, 2, x2), (3, 0, x3), (4, 0, x4)] [(0, s0)] G h Q := by
  intro hl0
  refine z_istore (q := 18) (L' := [(0, 2, 12), (1, 2, x1), (2, 2, x2), (3, 0, x3), (4, 0, x4), (5, 0, s0)]) dX3_sum_16 rfl (by decide) rfl ?_
  refine z_aload_n (q := 19) 0 dX3_sum_18 rfl rfl ?_
  refine z_gf (q := 22) (ki := 4) (v := (2, 17)) fX3_26 rfl (z_ldr rfl (hl0.ref 15 rfl)) (hl0.i 12 (by decide) rfl) dX3_sum_19 rfl ?_
  refine z_iconst (q := 23) dX3_sum_22 rfl ?_
  exact z_goS (q := 26) (av := [(2, 17), (0, 0)]) (rest := []) z_tov hl0 (u1) mo_J7_fill_53178 np_J7_fill_53178 k815 k816 rfl (nle rfl) dX3_sum_23 rfl
theorem b_X3_sum_26 {D : zD} {d : Nat} {G : zG} {h : zH} {Q : zO → zG → zH → Prop} {x1 x2 x3 x4 x5 : Int}
    (u1 : z_Y D M_X3_sum d 29 [(0, 2, 12), (1, 2, x1), (2, 2, x2), (3, 0, x3), (4, 0, x4), (5, 0, x5), (6, 0, 0)] [] G h Q) :
    z_Y D M_X3_sum d 26 [(0, 2, 12), (1, 2, x1), (2, 2, x2), (3, 0, x3), (4, 0, x4), (5, 0, x5)] [] G h Q := by
  intro hl0
  refine z_iconst (q := 27) dX3_sum_26 rfl ?_
  refine z_istore (q := 29) (L' := [(0, 2, 12), (1, 2, x1), (2, 2, x2), (3, 0, x3), (4, 0, x4), (5, 0, x5), (6, 0, 0)]) dX3_sum_27 rfl (by decide) rfl ?_
  exact u1 hl0
theorem b_X3_sum_29 {D : zD} {d : Nat} {G : zG} {h : zH} {Q : zO → zG → zH → Prop} {x1 x2 x3 x4 x5 x6 : Int} (hd : 3 ≤ d) (p1 : z_is G x1 3) (p2 : z_in x6) (p3 : z_in (h x1 1)) (p4 : ¬ ((h x1 1) ≤ x6) → 0 ≤ (x6 * (h x1 2) + x4)) (p5 : ¬ ((h x1 1) ≤ x6) → (x6 * (h x1 2) + x4) < 72) (p6 : ¬ ((h x1 1) ≤ x6) → -1 ≤ (h (x1 + 1) (x6 * (h x1 2) + x4))) (p7 : ¬ ((h x1 1) ≤ x6) → (h (x1 + 1) (x6 * (h x1 2) + x4)) < 72057594037927936) (p8 : ¬ ((h x1 1) ≤ x6) → znum (h (x1 + 1) (x6 * (h x1 2) + x4)) → 0 ≤ x6) (p9 : ¬ ((h x1 1) ≤ x6) → znum (h (x1 + 1) (x6 * (h x1 2) + x4)) → x6 < 12) (p10 : ¬ ((h x1 1) ≤ x6) → znum (h (x1 + 1) (x6 * (h x1 2) + x4)) → 0 ≤ (h 13 x6)) (p11 : ¬ ((h x1 1) ≤ x6) → znum (h (x1 + 1) (x6 * (h x1 2) + x4)) → (h 13 x6) < 12) (p12 : ¬ ((h x1 1) ≤ x6) → znum (h (x1 + 1) (x6 * (h x1 2) + x4)) → 0 ≤ (h (x1 + 1) (x6 * (h x1 2) + x4)))
    (u1 : (h x1 1) ≤ x6 → z_Ki D M_X3_writeAmounts d [(2, 12), (2, x1), (2, x2), (0, x3), (0, x5)] G h (fun r G' h' => z_Y D M_X3_sum d 93 [] [(0, r)] G' h' Q))
    (u2 : ¬ ((h x1 1) ≤ x6) → znum (h (x1 + 1) (x6 * (h x1 2) + x4)) → z_Y D M_X3_sum d 29 [(0, 2, 12), (1, 2, x1), (2, 2, x2), (3, 0, x3), (4, 0, x4), (5, 0, x5), (6, 0, (x6 + 1))] [] G (z_wr h 17 (h 13 x6) ((h 17 (h 13 x6)) + (zval (h (x1 + 1) (x6 * (h x1 2) + x4))))) Q)
    (u3 : ¬ ((h x1 1) ≤ x6) → ¬ (znum (h (x1 + 1) (x6 * (h x1 2) + x4))) → Q (.inl (some (0, 0))) G h) :
    z_Y D M_X3_sum d 29 [(0, 2, 12), (1, 2, x1), (2, 2, x2), (3, 0, x3), (4, 0, x4), (5, 0, x5), (6, 0, x6)] [] G h Q := by
  intro hl0
  refine z_iload (q := 31) 6 dX3_sum_29 rfl rfl ?_
  refine z_aload_n (q := 32) 1 dX3_sum_31 rfl rfl ?_
  refine z_gf (q := 35) (ki := 1) (v := (0, (h x1 1))) fX3_106 rfl rfl p1 dX3_sum_32 rfl ?_
  refine z_icmp_ge (q := 38) (t := 84) p2 p3 dX3_sum_35 (by decide) rfl (fun c1 => ?_) (fun c1 => ?_)
  · refine z_aload_n (q := 85) 0 dX3_sum_84 rfl rfl ?_
    refine z_aload_n (q := 86) 1 dX3_sum_85 rfl rfl ?_
    refine z_aload_n (q := 87) 2 dX3_sum_86 rfl rfl ?_
    refine z_iload_n (q := 88) 3 dX3_sum_87 rfl rfl ?_
    refine z_iload (q := 90) 5 dX3_sum_88 rfl rfl ?_
    refine z_sub (L' := []) [] rfl ?_
    exact z_goV (q := 93) (av := [(2, x1), (2, x2), (0, x3), (0, x5)]) (rest := []) cb2 (hl0.i 12 (by decide) rfl) z_toi hl0 (u1 c1) mo_X3_writeAmounts np_X3_writeAmounts k818 k820 k23 rfl (nle rfl) dX3_sum_90 rfl
  · refine z_aload_n (q := 39) 1 dX3_sum_38 rfl rfl ?_
    refine z_iload (q := 41) 6 dX3_sum_39 rfl rfl ?_
    refine z_iload (q := 43) 4 dX3_sum_41 rfl rfl ?_
    have e1 := a_X4_at (D := D) (G := G) (h := h) (d := d - 1) (by omega) x1 x6 x4 (h x1 2) (h (x1 + 1) (x6 * (h x1 2) + x4)) p1 rfl (p4 c1) (p5 c1) rfl
    refine z_goV (q := 46) (av := [(0, x6), (0, x4)]) (rest := []) cb3 p1 (z_tol) hl0 (z_El.K e1 (by omega) ?_) mo_X4_at np_X4_at k743 k704 k705 rfl (nle rfl) dX3_sum_43 rfl
    refine z_lstore (q := 48) (L' := [(0, 2, 12), (1, 2, x1), (2, 2, x2), (3, 0, x3), (4, 0, x4), (5, 0, x5), (6, 0, x6), (7, 1, (h (x1 + 1) (x6 * (h x1 2) + x4)))]) dX3_sum_46 rfl (by decide) rfl ?_
    refine z_lload (q := 50) 7 dX3_sum_48 rfl rfl ?_
    have e2 := a_X6_isNumber (D := D) (G := G) (h := h) (d := d - 1) (by omega) (h (x1 + 1) (x6 * (h x1 2) + x4)) (p6 c1) (p7 c1)
    refine z_goS (q := 53) (av := [(1, (h (x1 + 1) (x6 * (h x1 2) + x4)))]) (rest := []) (z_toi) hl0 (z_Ei.K e2 (by omega) ?_) mo_X6_isNumber np_X6_isNumber k830 k683 rfl (nle rfl) dX3_sum_50 rfl
    by_cases c2 : znum (h (x1 + 1) (x6 * (h x1 2) + x4))
    · rw [z_b1 c2]
      refine z_if_ne (q := 56) (t := 58) ⟨by decide, by decide⟩ dX3_sum_53 (by decide) rfl (fun _ => ?_) (fun c => absurd c (by decide))
      refine z_aload_n (q := 59) 0 dX3_sum_58 rfl rfl ?_
      refine z_gf (q := 62) (ki := 4) (v := (2, 17)) fX3_26 rfl (z_ldr rfl (hl0.ref 15 rfl)) (hl0.i 12 (by decide) rfl) dX3_sum_59 rfl ?_
      refine z_aload_n (q := 63) 0 dX3_sum_62 rfl rfl ?_
      refine z_gf (q := 66) (ki := 0) (v := (2, 13)) fX3_11 rfl (z_ldr rfl (hl0.ref 11 rfl)) (hl0.i 12 (by decide) rfl) dX3_sum_63 rfl ?_
      refine z_iload (q := 68) 6 dX3_sum_66 rfl rfl ?_
      refine z_iale (q := 69) (v := (h 13 x6)) (hl0.a 13 (by decide) rfl) (p8 c1 c2) (p9 c1 c2) rfl dX3_sum_68 rfl ?_
      refine z_dup2 (q := 70) (by decide) (by decide) dX3_sum_69 rfl ?_
      refine z_iale (q := 71) (v := (h 17 (h 13 x6))) (hl0.a 17 (by decide) rfl) (p10 c1 c2) (p11 c1 c2) rfl dX3_sum_70 rfl ?_
      refine z_lload (q := 73) 7 dX3_sum_71 rfl rfl ?_
      have e3 := a_X6_valueOf (D := D) (G := G) (h := h) (d := d - 1) (by omega) (h (x1 + 1) (x6 * (h x1 2) + x4)) (p12 c1 c2) (p7 c1)
      refine z_goS (q := 76) (av := [(1, (h (x1 + 1) (x6 * (h x1 2) + x4)))]) (rest := [(0, (h 17 (h 13 x6))), (0, (h 13 x6)), (2, 17)]) (z_toi) hl0 (z_Ei.K e3 (by omega) ?_) mo_X6_valueOf np_X6_valueOf k831 k832 rfl (nle rfl) dX3_sum_73 rfl
      refine z_iadd (q := 77) dX3_sum_76 rfl ?_
      refine z_isn (q := 78) (hl0.i 17 (by decide) rfl) (hl0.n 17 (by decide) rfl) (p10 c1 c2) (p11 c1 c2) dX3_sum_77 rfl ?_
      have hl1 := hl0.wr (v := ((h 17 (h 13 x6)) + (zval (h (x1 + 1) (x6 * (h x1 2) + x4))))) (hl0.i 17 (by decide) rfl) (i := (h 13 x6)) rfl
      refine z_iinc (q := 81) (L' := [(0, 2, 12), (1, 2, x1), (2, 2, x2), (3, 0, x3), (4, 0, x4), (5, 0, x5), (6, 0, (x6 + 1)), (7, 1, (h (x1 + 1) (x6 * (h x1 2) + x4)))]) 6 dX3_sum_78 rfl rfl (by decide) rfl ?_
      refine z_goto (t := 29) dX3_sum_81 (by decide) ?_
      refine z_sub (L' := [(0, 2, 12), (1, 2, x1), (2, 2, x2), (3, 0, x3), (4, 0, x4), (5, 0, x5), (6, 0, (x6 + 1))]) [0, 1, 2, 3, 4, 5, 6] rfl ?_
      exact u2 c1 c2 hl1
    · rw [z_b0 c2]
      refine z_if_ne (q := 56) (t := 58) ⟨by decide, by decide⟩ dX3_sum_53 (by decide) rfl (fun c => absurd c (by decide)) (fun _ => ?_)
      refine z_iconst (q := 57) dX3_sum_56 rfl ?_
      exact z_bret rfl (by decide) dX3_sum_57 ⟨hl0, u3 c1 c2⟩
theorem b_X3_sum_93 {D : zD} {d : Nat} {G : zG} {h : zH} {Q : zO → zG → zH → Prop} {s0 : Int} (p1 : s0 = 0 ∨ s0 = 1)
    (u1 : Q (.inl (some (0, s0))) G h) :
    z_Y D M_X3_sum d 93 [] [(0, s0)] G h Q := by
  intro hl0
  exact z_bret rfl p1 dX3_sum_93 ⟨hl0, u1⟩
theorem b_X3_writeAmounts_0 {D : zD} {d : Nat} {G : zG} {h : zH} {Q : zO → zG → zH → Prop} {x1 x2 x3 x4 : Int} (hd : 2 ≤ d) (p1 : z_is G x2 3) (p2 : z_in x4)
    (u1 : (1 ≤ x4 ∧ x4 ≤ 12) ∧ 1 ≤ (2 : Int) ∧ (2 : Int) ≤ 6 → z_Y D M_X3_writeAmounts d 15 [(0, 2, 12), (1, 2, x1), (2, 2, x2), (3, 0, x3), (4, 0, x4), (5, 0, 0)] [] G (z_wr (z_wr h x2 1 x4) x2 2 2) Q)
    (u2 : ¬ ((1 ≤ x4 ∧ x4 ≤ 12) ∧ 1 ≤ (2 : Int) ∧ (2 : Int) ≤ 6) → Q (.inl (some (0, 0))) G h) :
    z_Y D M_X3_writeAmounts d 0 [(0, 2, 12), (1, 2, x1), (2, 2, x2), (3, 0, x3), (4, 0, x4)] [] G h Q := by
  intro hl0
  refine z_aload_n (q := 1) 2 dX3_writeAmounts_0 rfl rfl ?_
  refine z_iload (q := 3) 4 dX3_writeAmounts_1 rfl rfl ?_
  refine z_iconst (q := 4) dX3_writeAmounts_3 rfl ?_
  by_cases c1 : (1 ≤ x4 ∧ x4 ≤ 12) ∧ 1 ≤ (2 : Int) ∧ (2 : Int) ≤ 6
  · have e1 := a_X4_shape1 (D := D) (G := G) (h := h) (d := d - 1) (by omega) x2 x4 2 p1 p2 ⟨by decide, by decide⟩ c1
    refine z_goV (q := 7) (av := [(0, x4), (0, 2)]) (rest := []) cb3 p1 (z_toi) hl0 (z_Ei.K e1 (by omega) ?_) mo_X4_shape np_X4_shape k742 k505 k506 rfl (nle rfl) dX3_writeAmounts_4 rfl
    have hl1 : lay G (z_wr (z_wr h x2 1 x4) x2 2 2) := e1.lay hl0
    refine z_if_ne (q := 10) (t := 12) ⟨by decide, by decide⟩ dX3_writeAmounts_7 (by decide) rfl (fun _ => ?_) (fun c => absurd c (by decide))
    refine z_iconst (q := 13) dX3_writeAmounts_12 rfl ?_
    refine z_istore (q := 15) (L' := [(0, 2, 12), (1, 2, x1), (2, 2, x2), (3, 0, x3), (4, 0, x4), (5, 0, 0)]) dX3_writeAmounts_13 rfl (by decide) rfl ?_
    exact u1 c1 hl1
  · have e2 := a_X4_shape0 (D := D) (G := G) (h := h) (d := d - 1) (by omega) x2 x4 2 p1 p2 ⟨by decide, by decide⟩ c1
    refine z_goV (q := 7) (av := [(0, x4), (0, 2)]) (rest := []) cb3 p1 (z_toi) hl0 (z_Ei.K e2 (by omega) ?_) mo_X4_shape np_X4_shape k742 k505 k506 rfl (nle rfl) dX3_writeAmounts_4 rfl
    refine z_if_ne (q := 10) (t := 12) ⟨by decide, by decide⟩ dX3_writeAmounts_7 (by decide) rfl (fun c => absurd c (by decide)) (fun _ => ?_)
    refine z_iconst (q := 11) dX3_writeAmounts_10 rfl ?_
    exact z_bret rfl (by decide) dX3_writeAmounts_11 ⟨hl0, u2 c1⟩
theorem b_X3_writeAmounts_15 {D : zD} {d : Nat} {G : zG} {h : zH} {Q : zO → zG → zH → Prop} {x1 x2 x3 x4 x5 : Int} (hd : 2 ≤ d) (p1 : z_in x5) (p2 : z_in x4) (p3 : ¬ (x4 ≤ x5) → 0 ≤ x5) (p4 : ¬ (x4 ≤ x5) → x5 < 12) (p5 : ¬ (x4 ≤ x5) → z_in (h 17 x5)) (p6 : ¬ (x4 ≤ x5) → (h 17 x5) < 1000000 → z_is G x1 3) (p7 : ¬ (x4 ≤ x5) → (h 17 x5) < 1000000 → 0 ≤ ((h 14 x5) * (h x1 2) + x3)) (p8 : ¬ (x4 ≤ x5) → (h 17 x5) < 1000000 → ((h 14 x5) * (h x1 2) + x3) < 72) (p9 : ¬ (x4 ≤ x5) → (h 17 x5) < 1000000 → z_is G x2 3) (p10 : ¬ (x4 ≤ x5) → (h 17 x5) < 1000000 → 0 ≤ (x5 * (h x2 2) + 0)) (p11 : ¬ (x4 ≤ x5) → (h 17 x5) < 1000000 → (x5 * (h x2 2) + 0) < 72) (p12 : ¬ (x4 ≤ x5) → (h 17 x5) < 1000000 → 0 ≤ (h 17 x5)) (p13 : ¬ (x4 ≤ x5) → (h 17 x5) < 1000000 → (h 17 x5) < 1000000) (p14 : ¬ (x4 ≤ x5) → (h 17 x5) < 1000000 → 0 ≤ (x5 * (h x2 2) + 1)) (p15 : ¬ (x4 ≤ x5) → (h 17 x5) < 1000000 → (x5 * (h x2 2) + 1) < 72)
    (u1 : x4 ≤ x5 → Q (.inl (some (0, 1))) G h)
    (u2 : ¬ (x4 ≤ x5) → (h 17 x5) < 1000000 → z_Y D M_X3_writeAmounts d 15 [(0, 2, 12), (1, 2, x1), (2, 2, x2), (3, 0, x3), (4, 0, x4), (5, 0, (x5 + 1))] [] G (z_wr (z_wr h (x2 + 1) (x5 * (h x2 2) + 0) (h (x1 + 1) ((h 14 x5) * (h x1 2) + x3))) (x2 + 1) (x5 * (h x2 2) + 1) (ztx 6 (h 17 x5))) Q)
    (u3 : ¬ (x4 ≤ x5) → ¬ ((h 17 x5) < 1000000) → Q (.inl (some (0, 0))) G h) :
    z_Y D M_X3_writeAmounts d 15 [(0, 2, 12), (1, 2, x1), (2, 2, x2), (3, 0, x3), (4, 0, x4), (5, 0, x5)] [] G h Q := by
  intro hl0
  refine z_iload (q := 17) 5 dX3_writeAmounts_15 rfl rfl ?_
  refine z_iload (q := 19) 4 dX3_writeAmounts_17 rfl rfl ?_
  refine z_icmp_ge (q := 22) (t := 78) p1 p2 dX3_writeAmounts_19 (by decide) rfl (fun c1 => ?_) (fun c1 => ?_)
  · refine z_iconst (q := 79) dX3_writeAmounts_78 rfl ?_
    exact z_bret rfl (by decide) dX3_writeAmounts_79 ⟨hl0, u1 c1⟩
  · refine z_aload_n (q := 23) 0 dX3_writeAmounts_22 rfl rfl ?_
    refine z_gf (q := 26) (ki := 4) (v := (2, 17)) fX3_26 rfl (z_ldr rfl (hl0.ref 15 rfl)) (hl0.i 12 (by decide) rfl) dX3_writeAmounts_23 rfl ?_
    refine z_iload (q := 28) 5 dX3_writeAmounts_26 rfl rfl ?_
    refine z_iale (q := 29) (v := (h 17 x5)) (hl0.a 17 (by decide) rfl) (p3 c1) (p4 c1) rfl dX3_writeAmounts_28 rfl ?_
    refine z_ldc (q := 31) (n := 1000000) k822 (by decide) dX3_writeAmounts_29 rfl ?_
    refine z_icmp_lt (q := 34) (t := 36) (p5 c1) ⟨by decide, by decide⟩ dX3_writeAmounts_31 (by decide) rfl (fun c2 => ?_) (fun c2 => ?_)
    · refine z_aload_n (q := 37) 2 dX3_writeAmounts_36 rfl rfl ?_
      refine z_iload (q := 39) 5 dX3_writeAmounts_37 rfl rfl ?_
      refine z_iconst (q := 40) dX3_writeAmounts_39 rfl ?_
      refine z_aload_n (q := 41) 1 dX3_writeAmounts_40 rfl rfl ?_
      refine z_aload_n (q := 42) 0 dX3_writeAmounts_41 rfl rfl ?_
      refine z_gf (q := 45) (ki := 1) (v := (2, 14)) fX3_17 rfl (z_ldr rfl (hl0.ref 12 rfl)) (hl0.i 12 (by decide) rfl) dX3_writeAmounts_42 rfl ?_
      refine z_iload (q := 47) 5 dX3_writeAmounts_45 rfl rfl ?_
      refine z_iale (q := 48) (v := (h 14 x5)) (hl0.a 14 (by decide) rfl) (p3 c1) (p4 c1) rfl dX3_writeAmounts_47 rfl ?_
      refine z_iload_n (q := 49) 3 dX3_writeAmounts_48 rfl rfl ?_
      have e1 := a_X4_at (D := D) (G := G) (h := h) (d := d - 1) (by omega) x1 (h 14 x5) x3 (h x1 2) (h (x1 + 1) ((h 14 x5) * (h x1 2) + x3)) (p6 c1 c2) rfl (p7 c1 c2) (p8 c1 c2) rfl
      refine z_goV (q := 52) (av := [(0, (h 14 x5)), (0, x3)]) (rest := [(0, 0), (0, x5), (2, x2)]) cb3 (p6 c1 c2) (z_tol) hl0 (z_El.K e1 (by omega) ?_) mo_X4_at np_X4_at k743 k704 k705 rfl (nle rfl) dX3_writeAmounts_49 rfl
      have e2 := a_X4_put (D := D) (G := G) (h := h) (d := d - 1) (by omega) x2 x5 0 (h (x1 + 1) ((h 14 x5) * (h x1 2) + x3)) (h x2 2) (p9 c1 c2) rfl (p10 c1 c2) (p11 c1 c2)
      refine z_goV (q := 55) (av := [(0, x5), (0, 0), (1, (h (x1 + 1) ((h 14 x5) * (h x1 2) + x3)))]) (rest := []) cb3 (p9 c1 c2) (z_tov) hl0 (z_Ev.K e2 (by omega) ?_) mo_X4_put np_X4_put k744 k745 k746 rfl (nle rfl) dX3_writeAmounts_52 rfl
      have hl1 : lay G (z_wr h (x2 + 1) (x5 * (h x2 2) + 0) (h (x1 + 1) ((h 14 x5) * (h x1 2) + x3))) := e2.lay hl0
      refine z_aload_n (q := 56) 2 dX3_writeAmounts_55 rfl rfl ?_
      refine z_iload (q := 58) 5 dX3_writeAmounts_56 rfl rfl ?_
      refine z_iconst (q := 59) dX3_writeAmounts_58 rfl ?_
      refine z_aload_n (q := 60) 0 dX3_writeAmounts_59 rfl rfl ?_
      refine z_gf (q := 63) (ki := 4) (v := (2, 17)) fX3_26 rfl (z_ldr rfl (hl1.ref 15 rfl)) (hl1.i 12 (by decide) rfl) dX3_writeAmounts_60 rfl ?_
      refine z_iload (q := 65) 5 dX3_writeAmounts_63 rfl rfl ?_
      refine z_iale (q := 66) (v := (h 17 x5)) (hl1.a 17 (by decide) rfl) (p3 c1) (p4 c1) (w_na (z_isne (hl1.i 17 (by decide) rfl) (hl0.ti (p9 c1 c2)) (by decide))) dX3_writeAmounts_65 rfl ?_
      have e3 := a_X6_ofValue (D := D) (G := G) (h := (z_wr h (x2 + 1) (x5 * (h x2 2) + 0) (h (x1 + 1) ((h 14 x5) * (h x1 2) + x3)))) (d := d - 1) (by omega) (h 17 x5) (p12 c1 c2) (p13 c1 c2)
      refine z_goS (q := 69) (av := [(0, (h 17 x5))]) (rest := [(0, 1), (0, x5), (2, x2)]) (z_tol) hl1 (z_El.K e3 (by omega) ?_) mo_X6_ofValue np_X6_ofValue k823 k824 rfl (nle rfl) dX3_writeAmounts_66 rfl
      have e4 := a_X4_put (D := D) (G := G) (h := (z_wr h (x2 + 1) (x5 * (h x2 2) + 0) (h (x1 + 1) ((h 14 x5) * (h x1 2) + x3)))) (d := d - 1) (by omega) x2 x5 1 (ztx 6 (h 17 x5)) (h x2 2) (p9 c1 c2) (w_na (z_isne (p9 c1 c2) (hl0.ti (p9 c1 c2)) (by decide))) (p14 c1 c2) (p15 c1 c2)
      refine z_goV (q := 72) (av := [(0, x5), (0, 1), (1, (ztx 6 (h 17 x5)))]) (rest := []) cb3 (p9 c1 c2) (z_tov) hl1 (z_Ev.K e4 (by omega) ?_) mo_X4_put np_X4_put k744 k745 k746 rfl (nle rfl) dX3_writeAmounts_69 rfl
      have hl2 : lay G (z_wr (z_wr h (x2 + 1) (x5 * (h x2 2) + 0) (h (x1 + 1) ((h 14 x5) * (h x1 2) + x3))) (x2 + 1) (x5 * (h x2 2) + 1) (ztx 6 (h 17 x5))) := e4.lay hl1
      refine z_iinc (q := 75) (L' := [(0, 2, 12), (1, 2, x1), (2, 2, x2), (3, 0, x3), (4, 0, x4), (5, 0, (x5 + 1))]) 5 dX3_writeAmounts_72 rfl rfl (by decide) rfl ?_
      refine z_goto (t := 15) dX3_writeAmounts_75 (by decide) ?_
      exact u2 c1 c2 hl2
    · refine z_iconst (q := 35) dX3_writeAmounts_34 rfl ?_
      exact z_bret rfl (by decide) dX3_writeAmounts_35 ⟨hl0, u3 c1 c2⟩
theorem b_X3_hasNameTwice_0 {D : zD} {d : Nat} {G : zG} {h : zH} {Q : zO → zG → zH → Prop} {x1 : Int}
    (u1 : z_Y D M_X3_hasNameTwice d 2 [(0, 2, 12), (1, 0, x1), (2, 0, 1)] [] G h Q) :
    z_Y D M_X3_hasNameTwice d 0 [(0, 2, 12), (1, 0, x1)] [] G h Q := by
  intro hl0
  refine z_iconst (q := 1) dX3_hasNameTwice_0 rfl ?_
  refine z_istore_n (q := 2) (L' := [(0, 2, 12), (1, 0, x1), (2, 0, 1)]) dX3_hasNameTwice_1 rfl (by decide) rfl ?_
  exact u1 hl0
theorem b_X3_hasNameTwice_2 {D : zD} {d : Nat} {G : zG} {h : zH} {Q : zO → zG → zH → Prop} {x1 x2 : Int} (p1 : z_in x2) (p2 : z_in x1)
    (u1 : x1 ≤ x2 → Q (.inl (some (0, 0))) G h)
    (u2 : ¬ (x1 ≤ x2) → z_Y D M_X3_hasNameTwice d 9 [(0, 2, 12), (1, 0, x1), (2, 0, x2), (3, 0, 0)] [] G h Q) :
    z_Y D M_X3_hasNameTwice d 2 [(0, 2, 12), (1, 0, x1), (2, 0, x2)] [] G h Q := by
  intro hl0
  refine z_iload_n (q := 3) 2 dX3_hasNameTwice_2 rfl rfl ?_
  refine z_iload_n (q := 4) 1 dX3_hasNameTwice_3 rfl rfl ?_
  refine z_icmp_ge (q := 7) (t := 58) p1 p2 dX3_hasNameTwice_4 (by decide) rfl (fun c1 => ?_) (fun c1 => ?_)
  · refine z_iconst (q := 59) dX3_hasNameTwice_58 rfl ?_
    exact z_bret rfl (by decide) dX3_hasNameTwice_59 ⟨hl0, u1 c1⟩
  · refine z_iconst (q := 8) dX3_hasNameTwice_7 rfl ?_
    refine z_istore_n (q := 9) (L' := [(0, 2, 12), (1, 0, x1), (2, 0, x2), (3, 0, 0)]) dX3_hasNameTwice_8 rfl (by decide) rfl ?_
    exact u2 c1 hl0
theorem b_X3_hasNameTwice_9 {D : zD} {d : Nat} {G : zG} {h : zH} {Q : zO → zG → zH → Prop} {x1 x2 x3 : Int} (p1 : z_in x3) (p2 : z_in x2) (p3 : ¬ (x2 ≤ x3) → 0 ≤ x2) (p4 : ¬ (x2 ≤ x3) → x2 < 12) (p5 : ¬ (x2 ≤ x3) → 0 ≤ x3) (p6 : ¬ (x2 ≤ x3) → x3 < 12) (p7 : ¬ (x2 ≤ x3) → z_in (h 13 x2)) (p8 : ¬ (x2 ≤ x3) → z_in (h 13 x3)) (p9 : ¬ (x2 ≤ x3) → ¬ (¬ (h 13 x2) = (h 13 x3)) → z_in (h 15 x2)) (p10 : ¬ (x2 ≤ x3) → ¬ (¬ (h 13 x2) = (h 13 x3)) → z_in (h 15 x3))
    (u1 : x2 ≤ x3 → z_Y D M_X3_hasNameTwice d 2 [(0, 2, 12), (1, 0, x1), (2, 0, (x2 + 1))] [] G h Q)
    (u2 : ¬ (x2 ≤ x3) → ¬ (h 13 x2) = (h 13 x3) → z_Y D M_X3_hasNameTwice d 9 [(0, 2, 12), (1, 0, x1), (2, 0, x2), (3, 0, (x3 + 1))] [] G h Q)
    (u3 : ¬ (x2 ≤ x3) → ¬ (¬ (h 13 x2) = (h 13 x3)) → ¬ (h 15 x2) = (h 15 x3) → z_Y D M_X3_hasNameTwice d 9 [(0, 2, 12), (1, 0, x1), (2, 0, x2), (3, 0, (x3 + 1))] [] G h Q)
    (u4 : ¬ (x2 ≤ x3) → ¬ (¬ (h 13 x2) = (h 13 x3)) → ¬ (¬ (h 15 x2) = (h 15 x3)) → Q (.inl (some (0, 1))) G h) :
    z_Y D M_X3_hasNameTwice d 9 [(0, 2, 12), (1, 0, x1), (2, 0, x2), (3, 0, x3)] [] G h Q := by
  intro hl0
  refine z_iload_n (q := 10) 3 dX3_hasNameTwice_9 rfl rfl ?_
  refine z_iload_n (q := 11) 2 dX3_hasNameTwice_10 rfl rfl ?_
  refine z_icmp_ge (q := 14) (t := 52) p1 p2 dX3_hasNameTwice_11 (by decide) rfl (fun c1 => ?_) (fun c1 => ?_)
  · refine z_iinc (q := 55) (L' := [(0, 2, 12), (1, 0, x1), (2, 0, (x2 + 1)), (3, 0, x3)]) 2 dX3_hasNameTwice_52 rfl rfl (by decide) rfl ?_
    refine z_goto (t := 2) dX3_hasNameTwice_55 (by decide) ?_
    refine z_sub (L' := [(0, 2, 12), (1, 0, x1), (2, 0, (x2 + 1))]) [0, 1, 2] rfl ?_
    exact u1 c1 hl0
  · refine z_aload_n (q := 15) 0 dX3_hasNameTwice_14 rfl rfl ?_
    refine z_gf (q := 18) (ki := 0) (v := (2, 13)) fX3_11 rfl (z_ldr rfl (hl0.ref 11 rfl)) (hl0.i 12 (by decide) rfl) dX3_hasNameTwice_15 rfl ?_
    refine z_iload_n (q := 19) 2 dX3_hasNameTwice_18 rfl rfl ?_
    refine z_iale (q := 20) (v := (h 13 x2)) (hl0.a 13 (by decide) rfl) (p3 c1) (p4 c1) rfl dX3_hasNameTwice_19 rfl ?_
    refine z_aload_n (q := 21) 0 dX3_hasNameTwice_20 rfl rfl ?_
    refine z_gf (q := 24) (ki := 0) (v := (2, 13)) fX3_11 rfl (z_ldr rfl (hl0.ref 11 rfl)) (hl0.i 12 (by decide) rfl) dX3_hasNameTwice_21 rfl ?_
    refine z_iload_n (q := 25) 3 dX3_hasNameTwice_24 rfl rfl ?_
    refine z_iale (q := 26) (v := (h 13 x3)) (hl0.a 13 (by decide) rfl) (p5 c1) (p6 c1) rfl dX3_hasNameTwice_25 rfl ?_
    refine z_icmp_ne (q := 29) (t := 46) (p7 c1) (p8 c1) dX3_hasNameTwice_26 (by decide) rfl (fun c2 => ?_) (fun c2 => ?_)
    · refine z_iinc (q := 49) (L' := [(0, 2, 12), (1, 0, x1), (2, 0, x2), (3, 0, (x3 + 1))]) 3 dX3_hasNameTwice_46 rfl rfl (by decide) rfl ?_
      refine z_goto (t := 9) dX3_hasNameTwice_49 (by decide) ?_
      exact u2 c1 c2 hl0
    · refine z_aload_n (q := 30) 0 dX3_hasNameTwice_29 rfl rfl ?_
      refine z_gf (q := 33) (ki := 2) (v := (2, 15)) fX3_20 rfl (z_ldr rfl (hl0.ref 13 rfl)) (hl0.i 12 (by decide) rfl) dX3_hasNameTwice_30 rfl ?_
      refine z_iload_n (q := 34) 2 dX3_hasNameTwice_33 rfl rfl ?_
      refine z_iale (q := 35) (v := (h 15 x2)) (hl0.a 15 (by decide) rfl) (p3 c1) (p4 c1) rfl dX3_hasNameTwice_34 rfl ?_
      refine z_aload_n (q := 36) 0 dX3_hasNameTwice_35 rfl rfl ?_
      refine z_gf (q := 39) (ki := 2) (v := (2, 15)) fX3_20 rfl (z_ldr rfl (hl0.ref 13 rfl)) (hl0.i 12 (by decide) rfl) dX3_hasNameTwice_36 rfl ?_
      refine z_iload_n (q := 40) 3 dX3_hasNameTwice_39 rfl rfl ?_
      refine z_iale (q := 41) (v := (h 15 x3)) (hl0.a 15 (by decide) rfl) (p5 c1) (p6 c1) rfl dX3_hasNameTwice_40 rfl ?_
      refine z_icmp_ne (q := 44) (t := 46) (p9 c1 c2) (p10 c1 c2) dX3_hasNameTwice_41 (by decide) rfl (fun c3 => ?_) (fun c3 => ?_)
      · refine z_iinc (q := 49) (L' := [(0, 2, 12), (1, 0, x1), (2, 0, x2), (3, 0, (x3 + 1))]) 3 dX3_hasNameTwice_46 rfl rfl (by decide) rfl ?_
        refine z_goto (t := 9) dX3_hasNameTwice_49 (by decide) ?_
        exact u3 c1 c2 c3 hl0
      · refine z_iconst (q := 45) dX3_hasNameTwice_44 rfl ?_
        exact z_bret rfl (by decide) dX3_hasNameTwice_45 ⟨hl0, u4 c1 c2 c3⟩
theorem b_X3_unfold_0 {D : zD} {d : Nat} {G : zG} {h : zH} {Q : zO → zG → zH → Prop} {x1 x2 : Int} (p1 : z_is G x1 3) (p2 : z_in ((h x1 2) - 2))
    (u1 : 1 ≤ ((h x1 2) - 2) → z_Ki D M_X3_group d [(2, x1), (0, 0), (0, ((h x1 2) - 2)), (2, 13), (2, 14)] G h (fun r G' h' => z_Y D M_X3_unfold d 28 [(0, 2, 12), (1, 2, x1), (2, 2, x2), (3, 0, ((h x1 2) - 2))] [(0, r)] G' h' Q))
    (u2 : ¬ (1 ≤ ((h x1 2) - 2)) → Q (.inl (some (0, 0))) G h) :
    z_Y D M_X3_unfold d 0 [(0, 2, 12), (1, 2, x1), (2, 2, x2)] [] G h Q := by
  intro hl0
  refine z_aload_n (q := 1) 1 dX3_unfold_0 rfl rfl ?_
  refine z_gf (q := 4) (ki := 2) (v := (0, (h x1 2))) fX3_43 rfl rfl p1 dX3_unfold_1 rfl ?_
  refine z_iconst (q := 5) dX3_unfold_4 rfl ?_
  refine z_isub (q := 6) dX3_unfold_5 rfl ?_
  refine z_istore_n (q := 7) (L' := [(0, 2, 12), (1, 2, x1), (2, 2, x2), (3, 0, ((h x1 2) - 2))]) dX3_unfold_6 rfl (by decide) rfl ?_
  refine z_iload_n (q := 8) 3 dX3_unfold_7 rfl rfl ?_
  refine z_iconst (q := 9) dX3_unfold_8 rfl ?_
  refine z_icmp_ge (q := 12) (t := 14) p2 ⟨by decide, by decide⟩ dX3_unfold_9 (by decide) rfl (fun c1 => ?_) (fun c1 => ?_)
  · refine z_aload_n (q := 15) 1 dX3_unfold_14 rfl rfl ?_
    refine z_iconst (q := 16) dX3_unfold_15 rfl ?_
    refine z_iload_n (q := 17) 3 dX3_unfold_16 rfl rfl ?_
    refine z_aload_n (q := 18) 0 dX3_unfold_17 rfl rfl ?_
    refine z_gf (q := 21) (ki := 0) (v := (2, 13)) fX3_11 rfl (z_ldr rfl (hl0.ref 11 rfl)) (hl0.i 12 (by decide) rfl) dX3_unfold_18 rfl ?_
    refine z_aload_n (q := 22) 0 dX3_unfold_21 rfl rfl ?_
    refine z_gf (q := 25) (ki := 1) (v := (2, 14)) fX3_17 rfl (z_ldr rfl (hl0.ref 12 rfl)) (hl0.i 12 (by decide) rfl) dX3_unfold_22 rfl ?_
    exact z_goS (q := 28) (av := [(2, x1), (0, 0), (0, ((h x1 2) - 2)), (2, 13), (2, 14)]) (rest := []) z_toi hl0 (u1 c1) mo_X3_group np_X3_group k786 k787 rfl (nle rfl) dX3_unfold_25 rfl
  · refine z_iconst (q := 13) dX3_unfold_12 rfl ?_
    exact z_bret rfl (by decide) dX3_unfold_13 ⟨hl0, u2 c1⟩
theorem b_X3_unfold_28 {D : zD} {d : Nat} {G : zG} {h : zH} {Q : zO → zG → zH → Prop} {s0 x1 x2 x3 : Int}
    (u1 : z_Ki D M_X3_group d [(2, x1), (0, x3), (0, (x3 + 1)), (2, 15), (2, 16)] G h (fun r G' h' => z_Y D M_X3_unfold d 46 [(0, 2, 12), (1, 2, x1), (2, 2, x2), (3, 0, x3), (4, 0, s0)] [(0, r)] G' h' Q)) :
    z_Y D M_X3_unfold d 28 [(0, 2, 12), (1, 2, x1), (2, 2, x2), (3, 0, x3)] [(0, s0)] G h Q := by
  intro hl0
  refine z_istore (q := 30) (L' := [(0, 2, 12), (1, 2, x1), (2, 2, x2), (3, 0, x3), (4, 0, s0)]) dX3_unfold_28 rfl (by decide) rfl ?_
  refine z_aload_n (q := 31) 1 dX3_unfold_30 rfl rfl ?_
  refine z_iload_n (q := 32) 3 dX3_unfold_31 rfl rfl ?_
  refine z_iload_n (q := 33) 3 dX3_unfold_32 rfl rfl ?_
  refine z_iconst (q := 34) dX3_unfold_33 rfl ?_
  refine z_iadd (q := 35) dX3_unfold_34 rfl ?_
  refine z_aload_n (q := 36) 0 dX3_unfold_35 rfl rfl ?_
  refine z_gf (q := 39) (ki := 2) (v := (2, 15)) fX3_20 rfl (z_ldr rfl (hl0.ref 13 rfl)) (hl0.i 12 (by decide) rfl) dX3_unfold_36 rfl ?_
  refine z_aload_n (q := 40) 0 dX3_unfold_39 rfl rfl ?_
  refine z_gf (q := 43) (ki := 3) (v := (2, 16)) fX3_23 rfl (z_ldr rfl (hl0.ref 14 rfl)) (hl0.i 12 (by decide) rfl) dX3_unfold_40 rfl ?_
  exact z_goS (q := 46) (av := [(2, x1), (0, x3), (0, (x3 + 1)), (2, 15), (2, 16)]) (rest := []) z_toi hl0 (u1) mo_X3_group np_X3_group k786 k787 rfl (nle rfl) dX3_unfold_43 rfl
theorem b_X3_unfold_46 {D : zD} {d : Nat} {G : zG} {h : zH} {Q : zO → zG → zH → Prop} {s0 x1 x2 x3 x4 : Int} (p1 : z_is G x1 3)
    (u1 : z_Ki D M_X3_hasNameTwice d [(2, 12), (0, (h x1 1))] G h (fun r G' h' => z_Y D M_X3_unfold d 56 [(0, 2, 12), (1, 2, x1), (2, 2, x2), (3, 0, x3), (4, 0, x4), (5, 0, s0)] [(0, r)] G' h' Q)) :
    z_Y D M_X3_unfold d 46 [(0, 2, 12), (1, 2, x1), (2, 2, x2), (3, 0, x3), (4, 0, x4)] [(0, s0)] G h Q := by
  intro hl0
  refine z_istore (q := 48) (L' := [(0, 2, 12), (1, 2, x1), (2, 2, x2), (3, 0, x3), (4, 0, x4), (5, 0, s0)]) dX3_unfold_46 rfl (by decide) rfl ?_
  refine z_aload_n (q := 49) 0 dX3_unfold_48 rfl rfl ?_
  refine z_aload_n (q := 50) 1 dX3_unfold_49 rfl rfl ?_
  refine z_gf (q := 53) (ki := 1) (v := (0, (h x1 1))) fX3_106 rfl rfl p1 dX3_unfold_50 rfl ?_
  exact z_goV (q := 56) (av := [(0, (h x1 1))]) (rest := []) cb2 (hl0.i 12 (by decide) rfl) z_toi hl0 (u1) mo_X3_hasNameTwice np_X3_hasNameTwice k793 k795 k19 rfl (nle rfl) dX3_unfold_53 rfl
theorem b_X3_unfold_56 {D : zD} {d : Nat} {G : zG} {h : zH} {Q : zO → zG → zH → Prop} {s0 x1 x2 x3 x4 x5 : Int} (hd : 2 ≤ d) (p1 : z_in s0) (p2 : ¬ (¬ s0 = 0) → z_is G x2 3) (p3 : ¬ (¬ s0 = 0) → z_in (1 + x4)) (p4 : ¬ (¬ s0 = 0) → z_in (x3 + x5))
    (u1 : ¬ s0 = 0 → Q (.inl (some (0, 0))) G h)
    (u2 : ¬ (¬ s0 = 0) → (1 ≤ (1 + x4) ∧ (1 + x4) ≤ 12) ∧ 1 ≤ (x3 + x5) ∧ (x3 + x5) ≤ 6 → z_Kv D M_J7_fill_d0a16 d [(2, (x2 + 1)), (1, 0)] G (z_wr (z_wr h x2 1 (1 + x4)) x2 2 (x3 + x5)) (fun G' h' => z_Y D M_X3_unfold d 84 [(0, 2, 12), (1, 2, x1), (2, 2, x2), (3, 0, x3), (4, 0, x4), (5, 0, x5)] [] G' h' Q))
    (u3 : ¬ (¬ s0 = 0) → ¬ ((1 ≤ (1 + x4) ∧ (1 + x4) ≤ 12) ∧ 1 ≤ (x3 + x5) ∧ (x3 + x5) ≤ 6) → Q (.inl (some (0, 0))) G h) :
    z_Y D M_X3_unfold d 56 [(0, 2, 12), (1, 2, x1), (2, 2, x2), (3, 0, x3), (4, 0, x4), (5, 0, x5)] [(0, s0)] G h Q := by
  intro hl0
  refine z_if_ne (q := 59) (t := 74) p1 dX3_unfold_56 (by decide) rfl (fun c1 => ?_) (fun c1 => ?_)
  · refine z_iconst (q := 75) dX3_unfold_74 rfl ?_
    exact z_bret rfl (by decide) dX3_unfold_75 ⟨hl0, u1 c1⟩
  · refine z_aload_n (q := 60) 2 dX3_unfold_59 rfl rfl ?_
    refine z_iconst (q := 61) dX3_unfold_60 rfl ?_
    refine z_iload (q := 63) 4 dX3_unfold_61 rfl rfl ?_
    refine z_iadd (q := 64) dX3_unfold_63 rfl ?_
    refine z_iload_n (q := 65) 3 dX3_unfold_64 rfl rfl ?_
    refine z_iload (q := 67) 5 dX3_unfold_65 rfl rfl ?_
    refine z_iadd (q := 68) dX3_unfold_67 rfl ?_
    by_cases c2 : (1 ≤ (1 + x4) ∧ (1 + x4) ≤ 12) ∧ 1 ≤ (x3 + x5) ∧ (x3 + x5) ≤ 6
    · have e1 := a_X4_shape1 (D := D) (G := G) (h := h) (d := d - 1) (by omega) x2 (1 + x4) (x3 + x5) (p2 c1) (p3 c1) (p4 c1) c2
      refine z_goV (q := 71) (av := [(0, (1 + x4)), (0, (x3 + x5))]) (rest := []) cb3 (p2 c1) (z_toi) hl0 (z_Ei.K e1 (by omega) ?_) mo_X4_shape np_X4_shape k742 k505 k506 rfl (nle rfl) dX3_unfold_68 rfl
      have hl1 : lay G (z_wr (z_wr h x2 1 (1 + x4)) x2 2 (x3 + x5)) := e1.lay hl0
      refine z_if_ne (q := 74) (t := 76) ⟨by decide, by decide⟩ dX3_unfold_71 (by decide) rfl (fun _ => ?_) (fun c => absurd c (by decide))
      refine z_aload_n (q := 77) 2 dX3_unfold_76 rfl rfl ?_
      refine z_gf (q := 80) (ki := 0) (v := (2, (x2 + 1))) fX3_152 rfl (z_ldr rfl (hl1.tab (p2 c1))) (p2 c1) dX3_unfold_77 rfl ?_
      refine z_lconst0 (q := 81) dX3_unfold_80 rfl ?_
      exact z_goS (q := 84) (av := [(2, (x2 + 1)), (1, 0)]) (rest := []) z_tov hl1 (u2 c1 c2) mo_J7_fill_d0a16 np_J7_fill_d0a16 k797 k798 rfl (nle rfl) dX3_unfold_81 rfl
    · have e2 := a_X4_shape0 (D := D) (G := G) (h := h) (d := d - 1) (by omega) x2 (1 + x4) (x3 + x5) (p2 c1) (p3 c1) (p4 c1) c2
      refine z_goV (q := 71) (av := [(0, (1 + x4)), (0, (x3 + x5))]) (rest := []) cb3 (p2 c1) (z_toi) hl0 (z_Ei.K e2 (by omega) ?_) mo_X4_shape np_X4_shape k742 k505 k506 rfl (nle rfl) dX3_unfold_68 rfl
      refine z_if_ne (q := 74) (t := 76) ⟨by decide, by decide⟩ dX3_unfold_71 (by decide) rfl (fun c => absurd c (by decide)) (fun _ => ?_)
      refine z_iconst (q := 75) dX3_unfold_74 rfl ?_
      exact z_bret rfl (by decide) dX3_unfold_75 ⟨hl0, u3 c1 c2⟩
theorem b_X3_unfold_84 {D : zD} {d : Nat} {G : zG} {h : zH} {Q : zO → zG → zH → Prop} {x1 x2 x3 x4 x5 : Int}
    (u1 : z_Y D M_X3_unfold d 87 [(0, 2, 12), (1, 2, x1), (2, 2, x2), (3, 0, x3), (4, 0, x4), (5, 0, x5), (6, 0, 0)] [] G h Q) :
    z_Y D M_X3_unfold d 84 [(0, 2, 12), (1, 2, x1), (2, 2, x2), (3, 0, x3), (4, 0, x4), (5, 0, x5)] [] G h Q := by
  intro hl0
  refine z_iconst (q := 85) dX3_unfold_84 rfl ?_
  refine z_istore (q := 87) (L' := [(0, 2, 12), (1, 2, x1), (2, 2, x2), (3, 0, x3), (4, 0, x4), (5, 0, x5), (6, 0, 0)]) dX3_unfold_85 rfl (by decide) rfl ?_
  exact u1 hl0
theorem b_X3_unfold_87 {D : zD} {d : Nat} {G : zG} {h : zH} {Q : zO → zG → zH → Prop} {x1 x2 x3 x4 x5 x6 : Int} (hd : 2 ≤ d) (p1 : z_in x6) (p2 : z_in x5) (p3 : ¬ (x5 ≤ x6) → 0 ≤ x6) (p4 : ¬ (x5 ≤ x6) → x6 < 12) (p5 : ¬ (x5 ≤ x6) → z_is G x1 3) (p6 : ¬ (x5 ≤ x6) → 0 ≤ ((h 16 x6) * (h x1 2) + x3)) (p7 : ¬ (x5 ≤ x6) → ((h 16 x6) * (h x1 2) + x3) < 72) (p8 : ¬ (x5 ≤ x6) → z_is G x2 3) (p9 : ¬ (x5 ≤ x6) → 0 ≤ (0 * (h x2 2) + (x3 + x6))) (p10 : ¬ (x5 ≤ x6) → (0 * (h x2 2) + (x3 + x6)) < 72)
    (u1 : x5 ≤ x6 → z_Y D M_X3_unfold d 124 [(0, 2, 12), (1, 2, x1), (2, 2, x2), (3, 0, x3), (4, 0, x4), (6, 0, 0)] [] G h Q)
    (u2 : ¬ (x5 ≤ x6) → z_Y D M_X3_unfold d 87 [(0, 2, 12), (1, 2, x1), (2, 2, x2), (3, 0, x3), (4, 0, x4), (5, 0, x5), (6, 0, (x6 + 1))] [] G (z_wr h (x2 + 1) (0 * (h x2 2) + (x3 + x6)) (h (x1 + 1) ((h 16 x6) * (h x1 2) + x3))) Q) :
    z_Y D M_X3_unfold d 87 [(0, 2, 12), (1, 2, x1), (2, 2, x2), (3, 0, x3), (4, 0, x4), (5, 0, x5), (6, 0, x6)] [] G h Q := by
  intro hl0
  refine z_iload (q := 89) 6 dX3_unfold_87 rfl rfl ?_
  refine z_iload (q := 91) 5 dX3_unfold_89 rfl rfl ?_
  refine z_icmp_ge (q := 94) (t := 121) p1 p2 dX3_unfold_91 (by decide) rfl (fun c1 => ?_) (fun c1 => ?_)
  · refine z_iconst (q := 122) dX3_unfold_121 rfl ?_
    refine z_istore (q := 124) (L' := [(0, 2, 12), (1, 2, x1), (2, 2, x2), (3, 0, x3), (4, 0, x4), (5, 0, x5), (6, 0, 0)]) dX3_unfold_122 rfl (by decide) rfl ?_
    refine z_sub (L' := [(0, 2, 12), (1, 2, x1), (2, 2, x2), (3, 0, x3), (4, 0, x4), (6, 0, 0)]) [0, 1, 2, 3, 4, 6] rfl ?_
    exact u1 c1 hl0
  · refine z_aload_n (q := 95) 2 dX3_unfold_94 rfl rfl ?_
    refine z_iconst (q := 96) dX3_unfold_95 rfl ?_
    refine z_iload_n (q := 97) 3 dX3_unfold_96 rfl rfl ?_
    refine z_iload (q := 99) 6 dX3_unfold_97 rfl rfl ?_
    refine z_iadd (q := 100) dX3_unfold_99 rfl ?_
    refine z_aload_n (q := 101) 1 dX3_unfold_100 rfl rfl ?_
    refine z_aload_n (q := 102) 0 dX3_unfold_101 rfl rfl ?_
    refine z_gf (q := 105) (ki := 3) (v := (2, 16)) fX3_23 rfl (z_ldr rfl (hl0.ref 14 rfl)) (hl0.i 12 (by decide) rfl) dX3_unfold_102 rfl ?_
    refine z_iload (q := 107) 6 dX3_unfold_105 rfl rfl ?_
    refine z_iale (q := 108) (v := (h 16 x6)) (hl0.a 16 (by decide) rfl) (p3 c1) (p4 c1) rfl dX3_unfold_107 rfl ?_
    refine z_iload_n (q := 109) 3 dX3_unfold_108 rfl rfl ?_
    have e1 := a_X4_at (D := D) (G := G) (h := h) (d := d - 1) (by omega) x1 (h 16 x6) x3 (h x1 2) (h (x1 + 1) ((h 16 x6) * (h x1 2) + x3)) (p5 c1) rfl (p6 c1) (p7 c1) rfl
    refine z_goV (q := 112) (av := [(0, (h 16 x6)), (0, x3)]) (rest := [(0, (x3 + x6)), (0, 0), (2, x2)]) cb3 (p5 c1) (z_tol) hl0 (z_El.K e1 (by omega) ?_) mo_X4_at np_X4_at k743 k704 k705 rfl (nle rfl) dX3_unfold_109 rfl
    have e2 := a_X4_put (D := D) (G := G) (h := h) (d := d - 1) (by omega) x2 0 (x3 + x6) (h (x1 + 1) ((h 16 x6) * (h x1 2) + x3)) (h x2 2) (p8 c1) rfl (p9 c1) (p10 c1)
    refine z_goV (q := 115) (av := [(0, 0), (0, (x3 + x6)), (1, (h (x1 + 1) ((h 16 x6) * (h x1 2) + x3)))]) (rest := []) cb3 (p8 c1) (z_tov) hl0 (z_Ev.K e2 (by omega) ?_) mo_X4_put np_X4_put k744 k745 k746 rfl (nle rfl) dX3_unfold_112 rfl
    have hl1 : lay G (z_wr h (x2 + 1) (0 * (h x2 2) + (x3 + x6)) (h (x1 + 1) ((h 16 x6) * (h x1 2) + x3))) := e2.lay hl0
    refine z_iinc (q := 118) (L' := [(0, 2, 12), (1, 2, x1), (2, 2, x2), (3, 0, x3), (4, 0, x4), (5, 0, x5), (6, 0, (x6 + 1))]) 6 dX3_unfold_115 rfl rfl (by decide) rfl ?_
    refine z_goto (t := 87) dX3_unfold_118 (by decide) ?_
    exact u2 c1 hl1
theorem b_X3_unfold_124 {D : zD} {d : Nat} {G : zG} {h : zH} {Q : zO → zG → zH → Prop} {x1 x2 x3 x4 x6 : Int} (hd : 3 ≤ d) (p1 : z_in x6) (p2 : z_in x4) (p3 : ¬ (x4 ≤ x6) → 0 ≤ x6) (p4 : ¬ (x4 ≤ x6) → x6 < 12) (p5 : ¬ (x4 ≤ x6) → z_is G x2 3) (p6 : ¬ (x4 ≤ x6) → z_is G x1 3) (p7 : ¬ (x4 ≤ x6) → ¬ x1 = x2) (p8 : ¬ (x4 ≤ x6) → 0 ≤ x3) (p9 : ¬ (x4 ≤ x6) → 0 ≤ ((1 + x6) * (h x2 2))) (p10 : ¬ (x4 ≤ x6) → ((1 + x6) * (h x2 2)) + x3 ≤ 72) (p11 : ¬ (x4 ≤ x6) → 0 ≤ ((h 14 x6) * (h x1 2))) (p12 : ¬ (x4 ≤ x6) → ((h 14 x6) * (h x1 2)) + x3 ≤ 72)
    (u1 : x4 ≤ x6 → z_Y D M_X3_unfold d 157 [(0, 2, 12), (1, 2, x1), (2, 2, x2), (3, 0, x3), (6, 0, 0)] [] G h Q)
    (u2 : ¬ (x4 ≤ x6) → z_Y D M_X3_unfold d 124 [(0, 2, 12), (1, 2, x1), (2, 2, x2), (3, 0, x3), (4, 0, x4), (6, 0, (x6 + 1))] [] G (z_cp h (x1 + 1) ((h 14 x6) * (h x1 2)) (x2 + 1) ((1 + x6) * (h x2 2)) x3) Q) :
    z_Y D M_X3_unfold d 124 [(0, 2, 12), (1, 2, x1), (2, 2, x2), (3, 0, x3), (4, 0, x4), (6, 0, x6)] [] G h Q := by
  intro hl0
  refine z_iload (q := 126) 5 dX3_unfold_124 rfl rfl ?_
  refine z_iload (q := 128) 4 dX3_unfold_126 rfl rfl ?_
  refine z_icmp_ge (q := 131) (t := 154) p1 p2 dX3_unfold_128 (by decide) rfl (fun c1 => ?_) (fun c1 => ?_)
  · refine z_iconst (q := 155) dX3_unfold_154 rfl ?_
    refine z_istore (q := 157) (L' := [(0, 2, 12), (1, 2, x1), (2, 2, x2), (3, 0, x3), (4, 0, x4), (6, 0, 0)]) dX3_unfold_155 rfl (by decide) rfl ?_
    refine z_sub (L' := [(0, 2, 12), (1, 2, x1), (2, 2, x2), (3, 0, x3), (6, 0, 0)]) [0, 1, 2, 3, 5] rfl ?_
    exact u1 c1 hl0
  · refine z_aload_n (q := 132) 2 dX3_unfold_131 rfl rfl ?_
    refine z_iconst (q := 133) dX3_unfold_132 rfl ?_
    refine z_iload (q := 135) 5 dX3_unfold_133 rfl rfl ?_
    refine z_iadd (q := 136) dX3_unfold_135 rfl ?_
    refine z_aload_n (q := 137) 1 dX3_unfold_136 rfl rfl ?_
    refine z_aload_n (q := 138) 0 dX3_unfold_137 rfl rfl ?_
    refine z_gf (q := 141) (ki := 1) (v := (2, 14)) fX3_17 rfl (z_ldr rfl (hl0.ref 12 rfl)) (hl0.i 12 (by decide) rfl) dX3_unfold_138 rfl ?_
    refine z_iload (q := 143) 5 dX3_unfold_141 rfl rfl ?_
    refine z_iale (q := 144) (v := (h 14 x6)) (hl0.a 14 (by decide) rfl) (p3 c1) (p4 c1) rfl dX3_unfold_143 rfl ?_
    refine z_iload_n (q := 145) 3 dX3_unfold_144 rfl rfl ?_
    have e1 := a_X4_putRow (D := D) (G := G) (h := h) (d := d - 1) (by omega) x2 (1 + x6) x1 (h 14 x6) x3 (h x2 2) (h x1 2) (p5 c1) (p6 c1) (nesy (p7 c1)) rfl rfl (p8 c1) (p9 c1) (p10 c1) (p11 c1) (p12 c1)
    refine z_goV (q := 148) (av := [(0, (1 + x6)), (2, x1), (0, (h 14 x6)), (0, x3)]) (rest := []) cb3 (p5 c1) (z_tov) hl0 (z_Ev.K e1 (by omega) ?_) mo_X4_putRow np_X4_putRow k776 k777 k778 rfl (nle rfl) dX3_unfold_145 rfl
    have hl1 : lay G (z_cp h (x1 + 1) ((h 14 x6) * (h x1 2)) (x2 + 1) ((1 + x6) * (h x2 2)) x3) := e1.lay hl0
    refine z_iinc (q := 151) (L' := [(0, 2, 12), (1, 2, x1), (2, 2, x2), (3, 0, x3), (4, 0, x4), (6, 0, (x6 + 1))]) 5 dX3_unfold_148 rfl rfl (by decide) rfl ?_
    refine z_goto (t := 124) dX3_unfold_151 (by decide) ?_
    exact u2 c1 hl1
theorem b_X3_unfold_157 {D : zD} {d : Nat} {G : zG} {h : zH} {Q : zO → zG → zH → Prop} {x1 x2 x3 x6 : Int} (hd : 2 ≤ d) (p1 : z_is G x1 3) (p2 : z_in x6) (p3 : z_in (h x1 1)) (p4 : ¬ ((h x1 1) ≤ x6) → 0 ≤ x6) (p5 : ¬ ((h x1 1) ≤ x6) → x6 < 12) (p6 : ¬ ((h x1 1) ≤ x6) → 0 ≤ (x6 * (h x1 2) + (x3 + 1))) (p7 : ¬ ((h x1 1) ≤ x6) → (x6 * (h x1 2) + (x3 + 1)) < 72) (p8 : ¬ ((h x1 1) ≤ x6) → z_is G x2 3) (p9 : ¬ ((h x1 1) ≤ x6) → 0 ≤ ((1 + (h 13 x6)) * (h x2 2) + (x3 + (h 15 x6)))) (p10 : ¬ ((h x1 1) ≤ x6) → ((1 + (h 13 x6)) * (h x2 2) + (x3 + (h 15 x6))) < 72)
    (u1 : (h x1 1) ≤ x6 → Q (.inl (some (0, 1))) G h)
    (u2 : ¬ ((h x1 1) ≤ x6) → z_Y D M_X3_unfold d 157 [(0, 2, 12), (1, 2, x1), (2, 2, x2), (3, 0, x3), (6, 0, (x6 + 1))] [] G (z_wr h (x2 + 1) ((1 + (h 13 x6)) * (h x2 2) + (x3 + (h 15 x6))) (h (x1 + 1) (x6 * (h x1 2) + (x3 + 1)))) Q) :
    z_Y D M_X3_unfold d 157 [(0, 2, 12), (1, 2, x1), (2, 2, x2), (3, 0, x3), (6, 0, x6)] [] G h Q := by
  intro hl0
  refine z_iload (q := 159) 4 dX3_unfold_157 rfl rfl ?_
  refine z_aload_n (q := 160) 1 dX3_unfold_159 rfl rfl ?_
  refine z_gf (q := 163) (ki := 1) (v := (0, (h x1 1))) fX3_106 rfl rfl p1 dX3_unfold_160 rfl ?_
  refine z_icmp_ge (q := 166) (t := 203) p2 p3 dX3_unfold_163 (by decide) rfl (fun c1 => ?_) (fun c1 => ?_)
  · refine z_iconst (q := 204) dX3_unfold_203 rfl ?_
    exact z_bret rfl (by decide) dX3_unfold_204 ⟨hl0, u1 c1⟩
  · refine z_aload_n (q := 167) 2 dX3_unfold_166 rfl rfl ?_
    refine z_iconst (q := 168) dX3_unfold_167 rfl ?_
    refine z_aload_n (q := 169) 0 dX3_unfold_168 rfl rfl ?_
    refine z_gf (q := 172) (ki := 0) (v := (2, 13)) fX3_11 rfl (z_ldr rfl (hl0.ref 11 rfl)) (hl0.i 12 (by decide) rfl) dX3_unfold_169 rfl ?_
    refine z_iload (q := 174) 4 dX3_unfold_172 rfl rfl ?_
    refine z_iale (q := 175) (v := (h 13 x6)) (hl0.a 13 (by decide) rfl) (p4 c1) (p5 c1) rfl dX3_unfold_174 rfl ?_
    refine z_iadd (q := 176) dX3_unfold_175 rfl ?_
    refine z_iload_n (q := 177) 3 dX3_unfold_176 rfl rfl ?_
    refine z_aload_n (q := 178) 0 dX3_unfold_177 rfl rfl ?_
    refine z_gf (q := 181) (ki := 2) (v := (2, 15)) fX3_20 rfl (z_ldr rfl (hl0.ref 13 rfl)) (hl0.i 12 (by decide) rfl) dX3_unfold_178 rfl ?_
    refine z_iload (q := 183) 4 dX3_unfold_181 rfl rfl ?_
    refine z_iale (q := 184) (v := (h 15 x6)) (hl0.a 15 (by decide) rfl) (p4 c1) (p5 c1) rfl dX3_unfold_183 rfl ?_
    refine z_iadd (q := 185) dX3_unfold_184 rfl ?_
    refine z_aload_n (q := 186) 1 dX3_unfold_185 rfl rfl ?_
    refine z_iload (q := 188) 4 dX3_unfold_186 rfl rfl ?_
    refine z_iload_n (q := 189) 3 dX3_unfold_188 rfl rfl ?_
    refine z_iconst (q := 190) dX3_unfold_189 rfl ?_
    refine z_iadd (q := 191) dX3_unfold_190 rfl ?_
    have e1 := a_X4_at (D := D) (G := G) (h := h) (d := d - 1) (by omega) x1 x6 (x3 + 1) (h x1 2) (h (x1 + 1) (x6 * (h x1 2) + (x3 + 1))) p1 rfl (p6 c1) (p7 c1) rfl
    refine z_goV (q := 194) (av := [(0, x6), (0, (x3 + 1))]) (rest := [(0, (x3 + (h 15 x6))), (0, (1 + (h 13 x6))), (2, x2)]) cb3 p1 (z_tol) hl0 (z_El.K e1 (by omega) ?_) mo_X4_at np_X4_at k743 k704 k705 rfl (nle rfl) dX3_unfold_191 rfl
    have e2 := a_X4_put (D := D) (G := G) (h := h) (d := d - 1) (by omega) x2 (1 + (h 13 x6)) (x3 + (h 15 x6)) (h (x1 + 1) (x6 * (h x1 2) + (x3 + 1))) (h x2 2) (p8 c1) rfl (p9 c1) (p10 c1)
    refine z_goV (q := 197) (av := [(0, (1 + (h 13 x6))), (0, (x3 + (h 15 x6))), (1, (h (x1 + 1) (x6 * (h x1 2) + (x3 + 1))))]) (rest := []) cb3 (p8 c1) (z_tov) hl0 (z_Ev.K e2 (by omega) ?_) mo_X4_put np_X4_put k744 k745 k746 rfl (nle rfl) dX3_unfold_194 rfl
    have hl1 : lay G (z_wr h (x2 + 1) ((1 + (h 13 x6)) * (h x2 2) + (x3 + (h 15 x6))) (h (x1 + 1) (x6 * (h x1 2) + (x3 + 1)))) := e2.lay hl0
    refine z_iinc (q := 200) (L' := [(0, 2, 12), (1, 2, x1), (2, 2, x2), (3, 0, x3), (6, 0, (x6 + 1))]) 4 dX3_unfold_197 rfl rfl (by decide) rfl ?_
    refine z_goto (t := 157) dX3_unfold_200 (by decide) ?_
    exact u2 c1 hl1
