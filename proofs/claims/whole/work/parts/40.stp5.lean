theorem b_X3_split_0 {D : zD} {d : Nat} {G : zG} {h : zH} {Q : zO → zG → zH → Prop} {x0 x1 x2 x3 : Int} (hd : 2 ≤ d) (p1 : z_is G x0 3) (p2 : z_is G x1 3) (p3 : z_in (h x0 1)) (p4 : z_in ((h x0 2) + 1))
    (u1 : (1 ≤ (h x0 1) ∧ (h x0 1) ≤ 12) ∧ 1 ≤ ((h x0 2) + 1) ∧ ((h x0 2) + 1) ≤ 6 → z_Y D M_X3_split d 25 [(0, 2, x0), (1, 2, x1), (2, 0, x2), (3, 0, x3), (4, 0, 0), (5, 0, 0)] [] G (z_wr (z_wr h x1 1 (h x0 1)) x1 2 ((h x0 2) + 1)) Q)
    (u2 : ¬ ((1 ≤ (h x0 1) ∧ (h x0 1) ≤ 12) ∧ 1 ≤ ((h x0 2) + 1) ∧ ((h x0 2) + 1) ≤ 6) → Q (.inl (some (0, 0))) G h) :
    z_Y D M_X3_split d 0 [(0, 2, x0), (1, 2, x1), (2, 0, x2), (3, 0, x3)] [] G h Q := by
  intro hl0
  refine z_aload_n (q := 1) 1 dX3_split_0 rfl rfl ?_
  refine z_aload_n (q := 2) 0 dX3_split_1 rfl rfl ?_
  refine z_gf (q := 5) (ki := 1) (v := (0, (h x0 1))) fX3_106 rfl rfl p1 dX3_split_2 rfl ?_
  refine z_aload_n (q := 6) 0 dX3_split_5 rfl rfl ?_
  refine z_gf (q := 9) (ki := 2) (v := (0, (h x0 2))) fX3_43 rfl rfl p1 dX3_split_6 rfl ?_
  refine z_iconst (q := 10) dX3_split_9 rfl ?_
  refine z_iadd (q := 11) dX3_split_10 rfl ?_
  by_cases c1 : (1 ≤ (h x0 1) ∧ (h x0 1) ≤ 12) ∧ 1 ≤ ((h x0 2) + 1) ∧ ((h x0 2) + 1) ≤ 6
  · have e1 := a_X4_shape1 (D := D) (G := G) (h := h) (d := d - 1) (by omega) x1 (h x0 1) ((h x0 2) + 1) p2 p3 p4 c1
    refine z_goV (q := 14) (av := [(0, (h x0 1)), (0, ((h x0 2) + 1))]) (rest := []) cb3 p2 (z_toi) hl0 (z_Ei.K e1 (by omega) ?_) mo_X4_shape np_X4_shape k742 k505 k506 rfl (nle rfl) dX3_split_11 rfl
    have hl1 : lay G (z_wr (z_wr h x1 1 (h x0 1)) x1 2 ((h x0 2) + 1)) := e1.lay hl0
    refine z_if_ne (q := 17) (t := 19) ⟨by decide, by decide⟩ dX3_split_14 (by decide) rfl (fun _ => ?_) (fun c => absurd c (by decide))
    refine z_iconst (q := 20) dX3_split_19 rfl ?_
    refine z_istore (q := 22) (L' := [(0, 2, x0), (1, 2, x1), (2, 0, x2), (3, 0, x3), (4, 0, 0)]) dX3_split_20 rfl (by decide) rfl ?_
    refine z_iconst (q := 23) dX3_split_22 rfl ?_
    refine z_istore (q := 25) (L' := [(0, 2, x0), (1, 2, x1), (2, 0, x2), (3, 0, x3), (4, 0, 0), (5, 0, 0)]) dX3_split_23 rfl (by decide) rfl ?_
    exact u1 c1 hl1
  · have e2 := a_X4_shape0 (D := D) (G := G) (h := h) (d := d - 1) (by omega) x1 (h x0 1) ((h x0 2) + 1) p2 p3 p4 c1
    refine z_goV (q := 14) (av := [(0, (h x0 1)), (0, ((h x0 2) + 1))]) (rest := []) cb3 p2 (z_toi) hl0 (z_Ei.K e2 (by omega) ?_) mo_X4_shape np_X4_shape k742 k505 k506 rfl (nle rfl) dX3_split_11 rfl
    refine z_if_ne (q := 17) (t := 19) ⟨by decide, by decide⟩ dX3_split_14 (by decide) rfl (fun c => absurd c (by decide)) (fun _ => ?_)
    refine z_iconst (q := 18) dX3_split_17 rfl ?_
    exact z_bret rfl (by decide) dX3_split_18 ⟨hl0, u2 c1⟩
theorem b_X3_split_25 {D : zD} {d : Nat} {G : zG} {h : zH} {Q : zO → zG → zH → Prop} {x0 x1 x2 x3 x4 x5 : Int} (hd : 3 ≤ d) (p1 : z_is G x0 3) (p2 : z_in x5) (p3 : z_in (h x0 1)) (p4 : ¬ ((h x0 1) ≤ x5) → 0 ≤ (x5 * (h x0 2) + x2)) (p5 : ¬ ((h x0 1) ≤ x5) → (x5 * (h x0 2) + x2) < 72) (p6 : ¬ ((h x0 1) ≤ x5) → 0 ≤ (h (x0 + 1) (x5 * (h x0 2) + x2))) (p7 : ¬ ((h x0 1) ≤ x5) → (h (x0 + 1) (x5 * (h x0 2) + x2)) < 72057594037927936) (p8 : ¬ ((h x0 1) ≤ x5) → z_in x3) (p9 : ¬ ((h x0 1) ≤ x5) → z_in (zbh (zlen (h (x0 + 1) (x5 * (h x0 2) + x2))).toNat (h (x0 + 1) (x5 * (h x0 2) + x2)) (zmb x3))) (p10 : ¬ ((h x0 1) ≤ x5) → ¬ (zbh (zlen (h (x0 + 1) (x5 * (h x0 2) + x2))).toNat (h (x0 + 1) (x5 * (h x0 2) + x2)) (zmb x3)) = (-1) → z_is G x1 3) (p11 : ¬ ((h x0 1) ≤ x5) → ¬ (zbh (zlen (h (x0 + 1) (x5 * (h x0 2) + x2))).toNat (h (x0 + 1) (x5 * (h x0 2) + x2)) (zmb x3)) = (-1) → 0 ≤ (x5 * (h x1 2) + x2)) (p12 : ¬ ((h x0 1) ≤ x5) → ¬ (zbh (zlen (h (x0 + 1) (x5 * (h x0 2) + x2))).toNat (h (x0 + 1) (x5 * (h x0 2) + x2)) (zmb x3)) = (-1) → (x5 * (h x1 2) + x2) < 72) (p13 : ¬ ((h x0 1) ≤ x5) → ¬ (zbh (zlen (h (x0 + 1) (x5 * (h x0 2) + x2))).toNat (h (x0 + 1) (x5 * (h x0 2) + x2)) (zmb x3)) = (-1) → 0 ≤ (x5 * (h x1 2) + (x2 + 1))) (p14 : ¬ ((h x0 1) ≤ x5) → ¬ (zbh (zlen (h (x0 + 1) (x5 * (h x0 2) + x2))).toNat (h (x0 + 1) (x5 * (h x0 2) + x2)) (zmb x3)) = (-1) → (x5 * (h x1 2) + (x2 + 1)) < 72) (p15 : ¬ ((h x0 1) ≤ x5) → ¬ (¬ (zbh (zlen (h (x0 + 1) (x5 * (h x0 2) + x2))).toNat (h (x0 + 1) (x5 * (h x0 2) + x2)) (zmb x3)) = (-1)) → z_is G x1 3) (p16 : ¬ ((h x0 1) ≤ x5) → ¬ (¬ (zbh (zlen (h (x0 + 1) (x5 * (h x0 2) + x2))).toNat (h (x0 + 1) (x5 * (h x0 2) + x2)) (zmb x3)) = (-1)) → 0 ≤ (x5 * (h x1 2) + x2)) (p17 : ¬ ((h x0 1) ≤ x5) → ¬ (¬ (zbh (zlen (h (x0 + 1) (x5 * (h x0 2) + x2))).toNat (h (x0 + 1) (x5 * (h x0 2) + x2)) (zmb x3)) = (-1)) → (x5 * (h x1 2) + x2) < 72) (p18 : ¬ ((h x0 1) ≤ x5) → ¬ (¬ (zbh (zlen (h (x0 + 1) (x5 * (h x0 2) + x2))).toNat (h (x0 + 1) (x5 * (h x0 2) + x2)) (zmb x3)) = (-1)) → 0 ≤ (x5 * (h x1 2) + (x2 + 1))) (p19 : ¬ ((h x0 1) ≤ x5) → ¬ (¬ (zbh (zlen (h (x0 + 1) (x5 * (h x0 2) + x2))).toNat (h (x0 + 1) (x5 * (h x0 2) + x2)) (zmb x3)) = (-1)) → (x5 * (h x1 2) + (x2 + 1)) < 72)
    (u1 : (h x0 1) ≤ x5 → z_Kv D M_X3_moveColumns d [(2, x0), (2, x1), (0, 0), (0, x2), (0, 0)] G h (fun G' h' => z_Y D M_X3_split d 134 [(0, 2, x0), (1, 2, x1), (2, 0, x2), (4, 0, x4)] [] G' h' Q))
    (u2 : ¬ ((h x0 1) ≤ x5) → ¬ (zbh (zlen (h (x0 + 1) (x5 * (h x0 2) + x2))).toNat (h (x0 + 1) (x5 * (h x0 2) + x2)) (zmb x3)) = (-1) → z_Y D M_X3_split d 25 [(0, 2, x0), (1, 2, x1), (2, 0, x2), (3, 0, x3), (4, 0, 1), (5, 0, (x5 + 1))] [] G (z_wr (z_wr h (x1 + 1) (x5 * (h x1 2) + x2) (z_lushr (h (x0 + 1) (x5 * (h x0 2) + x2)) (8 * ((zbh (zlen (h (x0 + 1) (x5 * (h x0 2) + x2))).toNat (h (x0 + 1) (x5 * (h x0 2) + x2)) (zmb x3)) + 1)))) (x1 + 1) (x5 * (h x1 2) + (x2 + 1)) (z_land (h (x0 + 1) (x5 * (h x0 2) + x2)) ((z_lshl 1 (8 * (zbh (zlen (h (x0 + 1) (x5 * (h x0 2) + x2))).toNat (h (x0 + 1) (x5 * (h x0 2) + x2)) (zmb x3)))) - 1))) Q)
    (u3 : ¬ ((h x0 1) ≤ x5) → ¬ (¬ (zbh (zlen (h (x0 + 1) (x5 * (h x0 2) + x2))).toNat (h (x0 + 1) (x5 * (h x0 2) + x2)) (zmb x3)) = (-1)) → z_Y D M_X3_split d 25 [(0, 2, x0), (1, 2, x1), (2, 0, x2), (3, 0, x3), (4, 0, x4), (5, 0, (x5 + 1))] [] G (z_wr (z_wr h (x1 + 1) (x5 * (h x1 2) + x2) (h (x0 + 1) (x5 * (h x0 2) + x2))) (x1 + 1) (x5 * (h x1 2) + (x2 + 1)) 0) Q) :
    z_Y D M_X3_split d 25 [(0, 2, x0), (1, 2, x1), (2, 0, x2), (3, 0, x3), (4, 0, x4), (5, 0, x5)] [] G h Q := by
  intro hl0
  refine z_iload (q := 27) 5 dX3_split_25 rfl rfl ?_
  refine z_aload_n (q := 28) 0 dX3_split_27 rfl rfl ?_
  refine z_gf (q := 31) (ki := 1) (v := (0, (h x0 1))) fX3_106 rfl rfl p1 dX3_split_28 rfl ?_
  refine z_icmp_ge (q := 34) (t := 126) p2 p3 dX3_split_31 (by decide) rfl (fun c1 => ?_) (fun c1 => ?_)
  · refine z_aload_n (q := 127) 0 dX3_split_126 rfl rfl ?_
    refine z_aload_n (q := 128) 1 dX3_split_127 rfl rfl ?_
    refine z_iconst (q := 129) dX3_split_128 rfl ?_
    refine z_iload_n (q := 130) 2 dX3_split_129 rfl rfl ?_
    refine z_iconst (q := 131) dX3_split_130 rfl ?_
    refine z_sub (L' := [(0, 2, x0), (1, 2, x1), (2, 0, x2), (4, 0, x4)]) [0, 1, 2, 4] rfl ?_
    exact z_goS (q := 134) (av := [(2, x0), (2, x1), (0, 0), (0, x2), (0, 0)]) (rest := []) z_tov hl0 (u1 c1) mo_X3_moveColumns np_X3_moveColumns k751 k752 rfl (nle rfl) dX3_split_131 rfl
  · refine z_aload_n (q := 35) 0 dX3_split_34 rfl rfl ?_
    refine z_iload (q := 37) 5 dX3_split_35 rfl rfl ?_
    refine z_iload_n (q := 38) 2 dX3_split_37 rfl rfl ?_
    have e1 := a_X4_at (D := D) (G := G) (h := h) (d := d - 1) (by omega) x0 x5 x2 (h x0 2) (h (x0 + 1) (x5 * (h x0 2) + x2)) p1 rfl (p4 c1) (p5 c1) rfl
    refine z_goV (q := 41) (av := [(0, x5), (0, x2)]) (rest := []) cb3 p1 (z_tol) hl0 (z_El.K e1 (by omega) ?_) mo_X4_at np_X4_at k743 k704 k705 rfl (nle rfl) dX3_split_38 rfl
    refine z_lstore (q := 43) (L' := [(0, 2, x0), (1, 2, x1), (2, 0, x2), (3, 0, x3), (4, 0, x4), (5, 0, x5), (6, 1, (h (x0 + 1) (x5 * (h x0 2) + x2)))]) dX3_split_41 rfl (by decide) rfl ?_
    refine z_lload (q := 45) 6 dX3_split_43 rfl rfl ?_
    refine z_iload_n (q := 46) 3 dX3_split_45 rfl rfl ?_
    have e2 := a_X6_behindMark (D := D) (G := G) (h := h) (d := d - 1) (by omega) (h (x0 + 1) (x5 * (h x0 2) + x2)) x3 (p6 c1) (p7 c1) (p8 c1)
    refine z_goS (q := 49) (av := [(1, (h (x0 + 1) (x5 * (h x0 2) + x2))), (0, x3)]) (rest := []) (z_toi) hl0 (z_Ei.K e2 (by omega) ?_) mo_X6_behindMark np_X6_behindMark k757 k758 rfl (nle rfl) dX3_split_46 rfl
    refine z_istore (q := 51) (L' := [(0, 2, x0), (1, 2, x1), (2, 0, x2), (3, 0, x3), (4, 0, x4), (5, 0, x5), (6, 1, (h (x0 + 1) (x5 * (h x0 2) + x2))), (8, 0, (zbh (zlen (h (x0 + 1) (x5 * (h x0 2) + x2))).toNat (h (x0 + 1) (x5 * (h x0 2) + x2)) (zmb x3)))]) dX3_split_49 rfl (by decide) rfl ?_
    refine z_iload (q := 53) 7 dX3_split_51 rfl rfl ?_
    refine z_iconst (q := 54) dX3_split_53 rfl ?_
    refine z_icmp_ne (q := 57) (t := 79) (p9 c1) ⟨by decide, by decide⟩ dX3_split_54 (by decide) rfl (fun c2 => ?_) (fun c2 => ?_)
    · refine z_iconst (q := 80) dX3_split_79 rfl ?_
      refine z_istore (q := 82) (L' := [(0, 2, x0), (1, 2, x1), (2, 0, x2), (3, 0, x3), (4, 0, 1), (5, 0, x5), (6, 1, (h (x0 + 1) (x5 * (h x0 2) + x2))), (8, 0, (zbh (zlen (h (x0 + 1) (x5 * (h x0 2) + x2))).toNat (h (x0 + 1) (x5 * (h x0 2) + x2)) (zmb x3)))]) dX3_split_80 rfl (by decide) rfl ?_
      refine z_aload_n (q := 83) 1 dX3_split_82 rfl rfl ?_
      refine z_iload (q := 85) 5 dX3_split_83 rfl rfl ?_
      refine z_iload_n (q := 86) 2 dX3_split_85 rfl rfl ?_
      refine z_lload (q := 88) 6 dX3_split_86 rfl rfl ?_
      refine z_bipush (q := 90) dX3_split_88 rfl (by decide) ?_
      refine z_iload (q := 92) 7 dX3_split_90 rfl rfl ?_
      refine z_iconst (q := 93) dX3_split_92 rfl ?_
      refine z_iadd (q := 94) dX3_split_93 rfl ?_
      refine z_imul (q := 95) dX3_split_94 rfl ?_
      refine z_r_lushr (q := 96) dX3_split_95 rfl ?_
      have e3 := a_X4_put (D := D) (G := G) (h := h) (d := d - 1) (by omega) x1 x5 x2 (z_lushr (h (x0 + 1) (x5 * (h x0 2) + x2)) (8 * ((zbh (zlen (h (x0 + 1) (x5 * (h x0 2) + x2))).toNat (h (x0 + 1) (x5 * (h x0 2) + x2)) (zmb x3)) + 1))) (h x1 2) (p10 c1 c2) rfl (p11 c1 c2) (p12 c1 c2)
      refine z_goV (q := 99) (av := [(0, x5), (0, x2), (1, (z_lushr (h (x0 + 1) (x5 * (h x0 2) + x2)) (8 * ((zbh (zlen (h (x0 + 1) (x5 * (h x0 2) + x2))).toNat (h (x0 + 1) (x5 * (h x0 2) + x2)) (zmb x3)) + 1))))]) (rest := []) cb3 (p10 c1 c2) (z_tov) hl0 (z_Ev.K e3 (by omega) ?_) mo_X4_put np_X4_put k744 k745 k746 rfl (nle rfl) dX3_split_96 rfl
      have hl1 : lay G (z_wr h (x1 + 1) (x5 * (h x1 2) + x2) (z_lushr (h (x0 + 1) (x5 * (h x0 2) + x2)) (8 * ((zbh (zlen (h (x0 + 1) (x5 * (h x0 2) + x2))).toNat (h (x0 + 1) (x5 * (h x0 2) + x2)) (zmb x3)) + 1)))) := e3.lay hl0
      refine z_aload_n (q := 100) 1 dX3_split_99 rfl rfl ?_
      refine z_iload (q := 102) 5 dX3_split_100 rfl rfl ?_
      refine z_iload_n (q := 103) 2 dX3_split_102 rfl rfl ?_
      refine z_iconst (q := 104) dX3_split_103 rfl ?_
      refine z_iadd (q := 105) dX3_split_104 rfl ?_
      refine z_lload (q := 107) 6 dX3_split_105 rfl rfl ?_
      refine z_lconst1 (q := 108) dX3_split_107 rfl ?_
      refine z_bipush (q := 110) dX3_split_108 rfl (by decide) ?_
      refine z_iload (q := 112) 7 dX3_split_110 rfl rfl ?_
      refine z_imul (q := 113) dX3_split_112 rfl ?_
      refine z_r_lshl (q := 114) dX3_split_113 rfl ?_
      refine z_lconst1 (q := 115) dX3_split_114 rfl ?_
      refine z_lsub (q := 116) dX3_split_115 rfl ?_
      refine z_r_land (q := 117) dX3_split_116 rfl ?_
      have e4 := a_X4_put (D := D) (G := G) (h := (z_wr h (x1 + 1) (x5 * (h x1 2) + x2) (z_lushr (h (x0 + 1) (x5 * (h x0 2) + x2)) (8 * ((zbh (zlen (h (x0 + 1) (x5 * (h x0 2) + x2))).toNat (h (x0 + 1) (x5 * (h x0 2) + x2)) (zmb x3)) + 1))))) (d := d - 1) (by omega) x1 x5 (x2 + 1) (z_land (h (x0 + 1) (x5 * (h x0 2) + x2)) ((z_lshl 1 (8 * (zbh (zlen (h (x0 + 1) (x5 * (h x0 2) + x2))).toNat (h (x0 + 1) (x5 * (h x0 2) + x2)) (zmb x3)))) - 1)) (h x1 2) (p10 c1 c2) (w_na (z_isne (p10 c1 c2) (hl0.ti (p10 c1 c2)) (by decide))) (p13 c1 c2) (p14 c1 c2)
      refine z_goV (q := 120) (av := [(0, x5), (0, (x2 + 1)), (1, (z_land (h (x0 + 1) (x5 * (h x0 2) + x2)) ((z_lshl 1 (8 * (zbh (zlen (h (x0 + 1) (x5 * (h x0 2) + x2))).toNat (h (x0 + 1) (x5 * (h x0 2) + x2)) (zmb x3)))) - 1)))]) (rest := []) cb3 (p10 c1 c2) (z_tov) hl1 (z_Ev.K e4 (by omega) ?_) mo_X4_put np_X4_put k744 k745 k746 rfl (nle rfl) dX3_split_117 rfl
      have hl2 : lay G (z_wr (z_wr h (x1 + 1) (x5 * (h x1 2) + x2) (z_lushr (h (x0 + 1) (x5 * (h x0 2) + x2)) (8 * ((zbh (zlen (h (x0 + 1) (x5 * (h x0 2) + x2))).toNat (h (x0 + 1) (x5 * (h x0 2) + x2)) (zmb x3)) + 1)))) (x1 + 1) (x5 * (h x1 2) + (x2 + 1)) (z_land (h (x0 + 1) (x5 * (h x0 2) + x2)) ((z_lshl 1 (8 * (zbh (zlen (h (x0 + 1) (x5 * (h x0 2) + x2))).toNat (h (x0 + 1) (x5 * (h x0 2) + x2)) (zmb x3)))) - 1))) := e4.lay hl1
      refine z_iinc (q := 123) (L' := [(0, 2, x0), (1, 2, x1), (2, 0, x2), (3, 0, x3), (4, 0, 1), (5, 0, (x5 + 1)), (6, 1, (h (x0 + 1) (x5 * (h x0 2) + x2))), (8, 0, (zbh (zlen (h (x0 + 1) (x5 * (h x0 2) + x2))).toNat (h (x0 + 1) (x5 * (h x0 2) + x2)) (zmb x3)))]) 5 dX3_split_120 rfl rfl (by decide) rfl ?_
      refine z_goto (t := 25) dX3_split_123 (by decide) ?_
      refine z_sub (L' := [(0, 2, x0), (1, 2, x1), (2, 0, x2), (3, 0, x3), (4, 0, 1), (5, 0, (x5 + 1))]) [0, 1, 2, 3, 4, 5] rfl ?_
      exact u2 c1 c2 hl2
    · refine z_aload_n (q := 58) 1 dX3_split_57 rfl rfl ?_
      refine z_iload (q := 60) 5 dX3_split_58 rfl rfl ?_
      refine z_iload_n (q := 61) 2 dX3_split_60 rfl rfl ?_
      refine z_lload (q := 63) 6 dX3_split_61 rfl rfl ?_
      have e5 := a_X4_put (D := D) (G := G) (h := h) (d := d - 1) (by omega) x1 x5 x2 (h (x0 + 1) (x5 * (h x0 2) + x2)) (h x1 2) (p15 c1 c2) rfl (p16 c1 c2) (p17 c1 c2)
      refine z_goV (q := 66) (av := [(0, x5), (0, x2), (1, (h (x0 + 1) (x5 * (h x0 2) + x2)))]) (rest := []) cb3 (p15 c1 c2) (z_tov) hl0 (z_Ev.K e5 (by omega) ?_) mo_X4_put np_X4_put k744 k745 k746 rfl (nle rfl) dX3_split_63 rfl
      have hl1 : lay G (z_wr h (x1 + 1) (x5 * (h x1 2) + x2) (h (x0 + 1) (x5 * (h x0 2) + x2))) := e5.lay hl0
      refine z_aload_n (q := 67) 1 dX3_split_66 rfl rfl ?_
      refine z_iload (q := 69) 5 dX3_split_67 rfl rfl ?_
      refine z_iload_n (q := 70) 2 dX3_split_69 rfl rfl ?_
      refine z_iconst (q := 71) dX3_split_70 rfl ?_
      refine z_iadd (q := 72) dX3_split_71 rfl ?_
      refine z_lconst0 (q := 73) dX3_split_72 rfl ?_
      have e6 := a_X4_put (D := D) (G := G) (h := (z_wr h (x1 + 1) (x5 * (h x1 2) + x2) (h (x0 + 1) (x5 * (h x0 2) + x2)))) (d := d - 1) (by omega) x1 x5 (x2 + 1) 0 (h x1 2) (p15 c1 c2) (w_na (z_isne (p15 c1 c2) (hl0.ti (p15 c1 c2)) (by decide))) (p18 c1 c2) (p19 c1 c2)
      refine z_goV (q := 76) (av := [(0, x5), (0, (x2 + 1)), (1, 0)]) (rest := []) cb3 (p15 c1 c2) (z_tov) hl1 (z_Ev.K e6 (by omega) ?_) mo_X4_put np_X4_put k744 k745 k746 rfl (nle rfl) dX3_split_73 rfl
      have hl2 : lay G (z_wr (z_wr h (x1 + 1) (x5 * (h x1 2) + x2) (h (x0 + 1) (x5 * (h x0 2) + x2))) (x1 + 1) (x5 * (h x1 2) + (x2 + 1)) 0) := e6.lay hl1
      refine z_goto (t := 120) dX3_split_76 (by decide) ?_
      refine z_iinc (q := 123) (L' := [(0, 2, x0), (1, 2, x1), (2, 0, x2), (3, 0, x3), (4, 0, x4), (5, 0, (x5 + 1)), (6, 1, (h (x0 + 1) (x5 * (h x0 2) + x2))), (8, 0, (zbh (zlen (h (x0 + 1) (x5 * (h x0 2) + x2))).toNat (h (x0 + 1) (x5 * (h x0 2) + x2)) (zmb x3)))]) 5 dX3_split_120 rfl rfl (by decide) rfl ?_
      refine z_goto (t := 25) dX3_split_123 (by decide) ?_
      refine z_sub (L' := [(0, 2, x0), (1, 2, x1), (2, 0, x2), (3, 0, x3), (4, 0, x4), (5, 0, (x5 + 1))]) [0, 1, 2, 3, 4, 5] rfl ?_
      exact u3 c1 c2 hl2
theorem b_X3_split_134 {D : zD} {d : Nat} {G : zG} {h : zH} {Q : zO → zG → zH → Prop} {x0 x1 x2 x4 : Int} (p1 : z_is G x0 3)
    (u1 : z_Kv D M_X3_moveColumns d [(2, x0), (2, x1), (0, (x2 + 1)), (0, (h x0 2)), (0, 1)] G h (fun G' h' => z_Y D M_X3_split d 147 [(4, 0, x4)] [] G' h' Q)) :
    z_Y D M_X3_split d 134 [(0, 2, x0), (1, 2, x1), (2, 0, x2), (4, 0, x4)] [] G h Q := by
  intro hl0
  refine z_aload_n (q := 135) 0 dX3_split_134 rfl rfl ?_
  refine z_aload_n (q := 136) 1 dX3_split_135 rfl rfl ?_
  refine z_iload_n (q := 137) 2 dX3_split_136 rfl rfl ?_
  refine z_iconst (q := 138) dX3_split_137 rfl ?_
  refine z_iadd (q := 139) dX3_split_138 rfl ?_
  refine z_aload_n (q := 140) 0 dX3_split_139 rfl rfl ?_
  refine z_gf (q := 143) (ki := 2) (v := (0, (h x0 2))) fX3_43 rfl rfl p1 dX3_split_140 rfl ?_
  refine z_iconst (q := 144) dX3_split_143 rfl ?_
  refine z_sub (L' := [(4, 0, x4)]) [3] rfl ?_
  exact z_goS (q := 147) (av := [(2, x0), (2, x1), (0, (x2 + 1)), (0, (h x0 2)), (0, 1)]) (rest := []) z_tov hl0 (u1) mo_X3_moveColumns np_X3_moveColumns k751 k752 rfl (nle rfl) dX3_split_144 rfl
theorem b_X3_split_147 {D : zD} {d : Nat} {G : zG} {h : zH} {Q : zO → zG → zH → Prop} {x4 : Int} (p1 : x4 = 0 ∨ x4 = 1)
    (u1 : Q (.inl (some (0, x4))) G h) :
    z_Y D M_X3_split d 147 [(4, 0, x4)] [] G h Q := by
  intro hl0
  refine z_iload (q := 149) 0 dX3_split_147 rfl rfl ?_
  exact z_bret rfl p1 dX3_split_149 ⟨hl0, u1⟩
theorem b_X3_join_0 {D : zD} {d : Nat} {G : zG} {h : zH} {Q : zO → zG → zH → Prop} {x0 x1 x2 x3 : Int} (hd : 2 ≤ d) (p1 : z_is G x0 3) (p2 : z_is G x1 3) (p3 : z_in (h x0 1)) (p4 : z_in ((h x0 2) - 1))
    (u1 : (1 ≤ (h x0 1) ∧ (h x0 1) ≤ 12) ∧ 1 ≤ ((h x0 2) - 1) ∧ ((h x0 2) - 1) ≤ 6 → z_Y D M_X3_join d 22 [(0, 2, x0), (1, 2, x1), (2, 0, x2), (3, 0, x3), (4, 0, 0)] [] G (z_wr (z_wr h x1 1 (h x0 1)) x1 2 ((h x0 2) - 1)) Q)
    (u2 : ¬ ((1 ≤ (h x0 1) ∧ (h x0 1) ≤ 12) ∧ 1 ≤ ((h x0 2) - 1) ∧ ((h x0 2) - 1) ≤ 6) → Q (.inl (some (0, 0))) G h) :
    z_Y D M_X3_join d 0 [(0, 2, x0), (1, 2, x1), (2, 0, x2), (3, 0, x3)] [] G h Q := by
  intro hl0
  refine z_aload_n (q := 1) 1 dX3_join_0 rfl rfl ?_
  refine z_aload_n (q := 2) 0 dX3_join_1 rfl rfl ?_
  refine z_gf (q := 5) (ki := 1) (v := (0, (h x0 1))) fX3_106 rfl rfl p1 dX3_join_2 rfl ?_
  refine z_aload_n (q := 6) 0 dX3_join_5 rfl rfl ?_
  refine z_gf (q := 9) (ki := 2) (v := (0, (h x0 2))) fX3_43 rfl rfl p1 dX3_join_6 rfl ?_
  refine z_iconst (q := 10) dX3_join_9 rfl ?_
  refine z_isub (q := 11) dX3_join_10 rfl ?_
  by_cases c1 : (1 ≤ (h x0 1) ∧ (h x0 1) ≤ 12) ∧ 1 ≤ ((h x0 2) - 1) ∧ ((h x0 2) - 1) ≤ 6
  · have e1 := a_X4_shape1 (D := D) (G := G) (h := h) (d := d - 1) (by omega) x1 (h x0 1) ((h x0 2) - 1) p2 p3 p4 c1
    refine z_goV (q := 14) (av := [(0, (h x0 1)), (0, ((h x0 2) - 1))]) (rest := []) cb3 p2 (z_toi) hl0 (z_Ei.K e1 (by omega) ?_) mo_X4_shape np_X4_shape k742 k505 k506 rfl (nle rfl) dX3_join_11 rfl
    have hl1 : lay G (z_wr (z_wr h x1 1 (h x0 1)) x1 2 ((h x0 2) - 1)) := e1.lay hl0
    refine z_if_ne (q := 17) (t := 19) ⟨by decide, by decide⟩ dX3_join_14 (by decide) rfl (fun _ => ?_) (fun c => absurd c (by decide))
    refine z_iconst (q := 20) dX3_join_19 rfl ?_
    refine z_istore (q := 22) (L' := [(0, 2, x0), (1, 2, x1), (2, 0, x2), (3, 0, x3), (4, 0, 0)]) dX3_join_20 rfl (by decide) rfl ?_
    exact u1 c1 hl1
  · have e2 := a_X4_shape0 (D := D) (G := G) (h := h) (d := d - 1) (by omega) x1 (h x0 1) ((h x0 2) - 1) p2 p3 p4 c1
    refine z_goV (q := 14) (av := [(0, (h x0 1)), (0, ((h x0 2) - 1))]) (rest := []) cb3 p2 (z_toi) hl0 (z_Ei.K e2 (by omega) ?_) mo_X4_shape np_X4_shape k742 k505 k506 rfl (nle rfl) dX3_join_11 rfl
    refine z_if_ne (q := 17) (t := 19) ⟨by decide, by decide⟩ dX3_join_14 (by decide) rfl (fun c => absurd c (by decide)) (fun _ => ?_)
    refine z_iconst (q := 18) dX3_join_17 rfl ?_
    exact z_bret rfl (by decide) dX3_join_18 ⟨hl0, u2 c1⟩
theorem b_X3_join_22 {D : zD} {d : Nat} {G : zG} {h : zH} {Q : zO → zG → zH → Prop} {x0 x1 x2 x3 x4 : Int} (hd : 2 ≤ d) (p1 : z_is G x0 3) (p2 : z_in x4) (p3 : z_in (h x0 1)) (p4 : ¬ ((h x0 1) ≤ x4) → 0 ≤ (x4 * (h x0 2) + x2)) (p5 : ¬ ((h x0 1) ≤ x4) → (x4 * (h x0 2) + x2) < 72) (p6 : ¬ ((h x0 1) ≤ x4) → 0 ≤ (x4 * (h x0 2) + (x2 + 1))) (p7 : ¬ ((h x0 1) ≤ x4) → (x4 * (h x0 2) + (x2 + 1)) < 72) (p8 : ¬ ((h x0 1) ≤ x4) → -1 ≤ (h (x0 + 1) (x4 * (h x0 2) + (x2 + 1)))) (p9 : ¬ ((h x0 1) ≤ x4) → (h (x0 + 1) (x4 * (h x0 2) + (x2 + 1))) < 72057594037927936) (p10 : ¬ ((h x0 1) ≤ x4) → -1 ≤ (h (x0 + 1) (x4 * (h x0 2) + x2))) (p11 : ¬ ((h x0 1) ≤ x4) → (h (x0 + 1) (x4 * (h x0 2) + x2)) < 72057594037927936) (p12 : ¬ ((h x0 1) ≤ x4) → z_in (((zlen (h (x0 + 1) (x4 * (h x0 2) + x2))) + 1) + (zlen (h (x0 + 1) (x4 * (h x0 2) + (x2 + 1)))))) (p13 : ¬ ((h x0 1) ≤ x4) → (((zlen (h (x0 + 1) (x4 * (h x0 2) + x2))) + 1) + (zlen (h (x0 + 1) (x4 * (h x0 2) + (x2 + 1))))) ≤ 7 → z_in x3) (p14 : ¬ ((h x0 1) ≤ x4) → (((zlen (h (x0 + 1) (x4 * (h x0 2) + x2))) + 1) + (zlen (h (x0 + 1) (x4 * (h x0 2) + (x2 + 1))))) ≤ 7 → z_in (zmb x3)) (p15 : ¬ ((h x0 1) ≤ x4) → (((zlen (h (x0 + 1) (x4 * (h x0 2) + x2))) + 1) + (zlen (h (x0 + 1) (x4 * (h x0 2) + (x2 + 1))))) ≤ 7 → z_is G x1 3) (p16 : ¬ ((h x0 1) ≤ x4) → (((zlen (h (x0 + 1) (x4 * (h x0 2) + x2))) + 1) + (zlen (h (x0 + 1) (x4 * (h x0 2) + (x2 + 1))))) ≤ 7 → 0 ≤ (x4 * (h x1 2) + x2)) (p17 : ¬ ((h x0 1) ≤ x4) → (((zlen (h (x0 + 1) (x4 * (h x0 2) + x2))) + 1) + (zlen (h (x0 + 1) (x4 * (h x0 2) + (x2 + 1))))) ≤ 7 → (x4 * (h x1 2) + x2) < 72)
    (u1 : (h x0 1) ≤ x4 → z_Kv D M_X3_moveColumns d [(2, x0), (2, x1), (0, 0), (0, x2), (0, 0)] G h (fun G' h' => z_Y D M_X3_join d 116 [(0, 2, x0), (1, 2, x1), (2, 0, x2)] [] G' h' Q))
    (u2 : ¬ ((h x0 1) ≤ x4) → (((zlen (h (x0 + 1) (x4 * (h x0 2) + x2))) + 1) + (zlen (h (x0 + 1) (x4 * (h x0 2) + (x2 + 1))))) ≤ 7 → z_Y D M_X3_join d 22 [(0, 2, x0), (1, 2, x1), (2, 0, x2), (3, 0, x3), (4, 0, (x4 + 1))] [] G (z_wr h (x1 + 1) (x4 * (h x1 2) + x2) (z_lor (z_lshl (z_lor (z_lshl (h (x0 + 1) (x4 * (h x0 2) + x2)) 8) (zmb x3)) (8 * (zlen (h (x0 + 1) (x4 * (h x0 2) + (x2 + 1)))))) (h (x0 + 1) (x4 * (h x0 2) + (x2 + 1))))) Q)
    (u3 : ¬ ((h x0 1) ≤ x4) → ¬ ((((zlen (h (x0 + 1) (x4 * (h x0 2) + x2))) + 1) + (zlen (h (x0 + 1) (x4 * (h x0 2) + (x2 + 1))))) ≤ 7) → Q (.inl (some (0, 0))) G h) :
    z_Y D M_X3_join d 22 [(0, 2, x0), (1, 2, x1), (2, 0, x2), (3, 0, x3), (4, 0, x4)] [] G h Q := by
  intro hl0
  refine z_iload (q := 24) 4 dX3_join_22 rfl rfl ?_
  refine z_aload_n (q := 25) 0 dX3_join_24 rfl rfl ?_
  refine z_gf (q := 28) (ki := 1) (v := (0, (h x0 1))) fX3_106 rfl rfl p1 dX3_join_25 rfl ?_
  refine z_icmp_ge (q := 31) (t := 108) p2 p3 dX3_join_28 (by decide) rfl (fun c1 => ?_) (fun c1 => ?_)
  · refine z_aload_n (q := 109) 0 dX3_join_108 rfl rfl ?_
    refine z_aload_n (q := 110) 1 dX3_join_109 rfl rfl ?_
    refine z_iconst (q := 111) dX3_join_110 rfl ?_
    refine z_iload_n (q := 112) 2 dX3_join_111 rfl rfl ?_
    refine z_iconst (q := 113) dX3_join_112 rfl ?_
    refine z_sub (L' := [(0, 2, x0), (1, 2, x1), (2, 0, x2)]) [0, 1, 2] rfl ?_
    exact z_goS (q := 116) (av := [(2, x0), (2, x1), (0, 0), (0, x2), (0, 0)]) (rest := []) z_tov hl0 (u1 c1) mo_X3_moveColumns np_X3_moveColumns k751 k752 rfl (nle rfl) dX3_join_113 rfl
  · refine z_aload_n (q := 32) 0 dX3_join_31 rfl rfl ?_
    refine z_iload (q := 34) 4 dX3_join_32 rfl rfl ?_
    refine z_iload_n (q := 35) 2 dX3_join_34 rfl rfl ?_
    have e1 := a_X4_at (D := D) (G := G) (h := h) (d := d - 1) (by omega) x0 x4 x2 (h x0 2) (h (x0 + 1) (x4 * (h x0 2) + x2)) p1 rfl (p4 c1) (p5 c1) rfl
    refine z_goV (q := 38) (av := [(0, x4), (0, x2)]) (rest := []) cb3 p1 (z_tol) hl0 (z_El.K e1 (by omega) ?_) mo_X4_at np_X4_at k743 k704 k705 rfl (nle rfl) dX3_join_35 rfl
    refine z_lstore (q := 40) (L' := [(0, 2, x0), (1, 2, x1), (2, 0, x2), (3, 0, x3), (4, 0, x4), (5, 1, (h (x0 + 1) (x4 * (h x0 2) + x2)))]) dX3_join_38 rfl (by decide) rfl ?_
    refine z_aload_n (q := 41) 0 dX3_join_40 rfl rfl ?_
    refine z_iload (q := 43) 4 dX3_join_41 rfl rfl ?_
    refine z_iload_n (q := 44) 2 dX3_join_43 rfl rfl ?_
    refine z_iconst (q := 45) dX3_join_44 rfl ?_
    refine z_iadd (q := 46) dX3_join_45 rfl ?_
    have e2 := a_X4_at (D := D) (G := G) (h := h) (d := d - 1) (by omega) x0 x4 (x2 + 1) (h x0 2) (h (x0 + 1) (x4 * (h x0 2) + (x2 + 1))) p1 rfl (p6 c1) (p7 c1) rfl
    refine z_goV (q := 49) (av := [(0, x4), (0, (x2 + 1))]) (rest := []) cb3 p1 (z_tol) hl0 (z_El.K e2 (by omega) ?_) mo_X4_at np_X4_at k743 k704 k705 rfl (nle rfl) dX3_join_46 rfl
    refine z_lstore (q := 51) (L' := [(0, 2, x0), (1, 2, x1), (2, 0, x2), (3, 0, x3), (4, 0, x4), (5, 1, (h (x0 + 1) (x4 * (h x0 2) + x2))), (7, 1, (h (x0 + 1) (x4 * (h x0 2) + (x2 + 1))))]) dX3_join_49 rfl (by decide) rfl ?_
    refine z_lload (q := 53) 6 dX3_join_51 rfl rfl ?_
    have e3 := a_X6_lengthOf (D := D) (G := G) (h := h) (d := d - 1) (by omega) (h (x0 + 1) (x4 * (h x0 2) + (x2 + 1))) (p8 c1) (p9 c1)
    refine z_goS (q := 56) (av := [(1, (h (x0 + 1) (x4 * (h x0 2) + (x2 + 1))))]) (rest := []) (z_toi) hl0 (z_Ei.K e3 (by omega) ?_) mo_X6_lengthOf np_X6_lengthOf k771 k686 rfl (nle rfl) dX3_join_53 rfl
    refine z_istore (q := 58) (L' := [(0, 2, x0), (1, 2, x1), (2, 0, x2), (3, 0, x3), (4, 0, x4), (5, 1, (h (x0 + 1) (x4 * (h x0 2) + x2))), (7, 1, (h (x0 + 1) (x4 * (h x0 2) + (x2 + 1)))), (9, 0, (zlen (h (x0 + 1) (x4 * (h x0 2) + (x2 + 1)))))]) dX3_join_56 rfl (by decide) rfl ?_
    refine z_lload (q := 60) 5 dX3_join_58 rfl rfl ?_
    have e4 := a_X6_lengthOf (D := D) (G := G) (h := h) (d := d - 1) (by omega) (h (x0 + 1) (x4 * (h x0 2) + x2)) (p10 c1) (p11 c1)
    refine z_goS (q := 63) (av := [(1, (h (x0 + 1) (x4 * (h x0 2) + x2)))]) (rest := []) (z_toi) hl0 (z_Ei.K e4 (by omega) ?_) mo_X6_lengthOf np_X6_lengthOf k771 k686 rfl (nle rfl) dX3_join_60 rfl
    refine z_iconst (q := 64) dX3_join_63 rfl ?_
    refine z_iadd (q := 65) dX3_join_64 rfl ?_
    refine z_iload (q := 67) 7 dX3_join_65 rfl rfl ?_
    refine z_iadd (q := 68) dX3_join_67 rfl ?_
    refine z_bipush (q := 70) dX3_join_68 rfl (by decide) ?_
    refine z_icmp_le (q := 73) (t := 75) (p12 c1) ⟨by decide, by decide⟩ dX3_join_70 (by decide) rfl (fun c2 => ?_) (fun c2 => ?_)
    · refine z_aload_n (q := 76) 1 dX3_join_75 rfl rfl ?_
      refine z_iload (q := 78) 4 dX3_join_76 rfl rfl ?_
      refine z_iload_n (q := 79) 2 dX3_join_78 rfl rfl ?_
      refine z_lload (q := 81) 5 dX3_join_79 rfl rfl ?_
      refine z_bipush (q := 83) dX3_join_81 rfl (by decide) ?_
      refine z_r_lshl (q := 84) dX3_join_83 rfl ?_
      refine z_iload_n (q := 85) 3 dX3_join_84 rfl rfl ?_
      have e5 := a_X6_byteOfMark (D := D) (G := G) (h := h) (d := d - 1) (by omega) x3 (p13 c1 c2)
      refine z_goS (q := 88) (av := [(0, x3)]) (rest := [(1, (z_lshl (h (x0 + 1) (x4 * (h x0 2) + x2)) 8)), (0, x2), (0, x4), (2, x1)]) (z_toi) hl0 (z_Ei.K e5 (by omega) ?_) mo_X6_byteOfMark np_X6_byteOfMark k772 k761 rfl (nle rfl) dX3_join_85 rfl
      refine z_i2l (q := 89) (p14 c1 c2) dX3_join_88 rfl ?_
      refine z_r_lor (q := 90) dX3_join_89 rfl ?_
      refine z_bipush (q := 92) dX3_join_90 rfl (by decide) ?_
      refine z_iload (q := 94) 7 dX3_join_92 rfl rfl ?_
      refine z_imul (q := 95) dX3_join_94 rfl ?_
      refine z_r_lshl (q := 96) dX3_join_95 rfl ?_
      refine z_lload (q := 98) 6 dX3_join_96 rfl rfl ?_
      refine z_r_lor (q := 99) dX3_join_98 rfl ?_
      have e6 := a_X4_put (D := D) (G := G) (h := h) (d := d - 1) (by omega) x1 x4 x2 (z_lor (z_lshl (z_lor (z_lshl (h (x0 + 1) (x4 * (h x0 2) + x2)) 8) (zmb x3)) (8 * (zlen (h (x0 + 1) (x4 * (h x0 2) + (x2 + 1)))))) (h (x0 + 1) (x4 * (h x0 2) + (x2 + 1)))) (h x1 2) (p15 c1 c2) rfl (p16 c1 c2) (p17 c1 c2)
      refine z_goV (q := 102) (av := [(0, x4), (0, x2), (1, (z_lor (z_lshl (z_lor (z_lshl (h (x0 + 1) (x4 * (h x0 2) + x2)) 8) (zmb x3)) (8 * (zlen (h (x0 + 1) (x4 * (h x0 2) + (x2 + 1)))))) (h (x0 + 1) (x4 * (h x0 2) + (x2 + 1)))))]) (rest := []) cb3 (p15 c1 c2) (z_tov) hl0 (z_Ev.K e6 (by omega) ?_) mo_X4_put np_X4_put k744 k745 k746 rfl (nle rfl) dX3_join_99 rfl
      have hl1 : lay G (z_wr h (x1 + 1) (x4 * (h x1 2) + x2) (z_lor (z_lshl (z_lor (z_lshl (h (x0 + 1) (x4 * (h x0 2) + x2)) 8) (zmb x3)) (8 * (zlen (h (x0 + 1) (x4 * (h x0 2) + (x2 + 1)))))) (h (x0 + 1) (x4 * (h x0 2) + (x2 + 1))))) := e6.lay hl0
      refine z_iinc (q := 105) (L' := [(0, 2, x0), (1, 2, x1), (2, 0, x2), (3, 0, x3), (4, 0, (x4 + 1)), (5, 1, (h (x0 + 1) (x4 * (h x0 2) + x2))), (7, 1, (h (x0 + 1) (x4 * (h x0 2) + (x2 + 1)))), (9, 0, (zlen (h (x0 + 1) (x4 * (h x0 2) + (x2 + 1)))))]) 4 dX3_join_102 rfl rfl (by decide) rfl ?_
      refine z_goto (t := 22) dX3_join_105 (by decide) ?_
      refine z_sub (L' := [(0, 2, x0), (1, 2, x1), (2, 0, x2), (3, 0, x3), (4, 0, (x4 + 1))]) [0, 1, 2, 3, 4] rfl ?_
      exact u2 c1 c2 hl1
    · refine z_iconst (q := 74) dX3_join_73 rfl ?_
      exact z_bret rfl (by decide) dX3_join_74 ⟨hl0, u3 c1 c2⟩
theorem b_X3_join_116 {D : zD} {d : Nat} {G : zG} {h : zH} {Q : zO → zG → zH → Prop} {x0 x1 x2 : Int} (p1 : z_is G x0 3)
    (u1 : z_Kv D M_X3_moveColumns d [(2, x0), (2, x1), (0, (x2 + 2)), (0, (h x0 2)), (0, (-1))] G h (fun G' h' => z_Y D M_X3_join d 129 [] [] G' h' Q)) :
    z_Y D M_X3_join d 116 [(0, 2, x0), (1, 2, x1), (2, 0, x2)] [] G h Q := by
  intro hl0
  refine z_aload_n (q := 117) 0 dX3_join_116 rfl rfl ?_
  refine z_aload_n (q := 118) 1 dX3_join_117 rfl rfl ?_
  refine z_iload_n (q := 119) 2 dX3_join_118 rfl rfl ?_
  refine z_iconst (q := 120) dX3_join_119 rfl ?_
  refine z_iadd (q := 121) dX3_join_120 rfl ?_
  refine z_aload_n (q := 122) 0 dX3_join_121 rfl rfl ?_
  refine z_gf (q := 125) (ki := 2) (v := (0, (h x0 2))) fX3_43 rfl rfl p1 dX3_join_122 rfl ?_
  refine z_iconst (q := 126) dX3_join_125 rfl ?_
  refine z_sub (L' := []) [] rfl ?_
  exact z_goS (q := 129) (av := [(2, x0), (2, x1), (0, (x2 + 2)), (0, (h x0 2)), (0, (-1))]) (rest := []) z_tov hl0 (u1) mo_X3_moveColumns np_X3_moveColumns k751 k752 rfl (nle rfl) dX3_join_126 rfl
theorem b_X3_join_129 {D : zD} {d : Nat} {G : zG} {h : zH} {Q : zO → zG → zH → Prop}
    (u1 : Q (.inl (some (0, 1))) G h) :
    z_Y D M_X3_join d 129 [] [] G h Q := by
  intro hl0
  refine z_iconst (q := 130) dX3_join_129 rfl ?_
  exact z_bret rfl (by decide) dX3_join_130 ⟨hl0, u1⟩
theorem b_X3_fold_0 {D : zD} {d : Nat} {G : zG} {h : zH} {Q : zO → zG → zH → Prop} {x0 x1 x2 : Int} (hd : 2 ≤ d) (p1 : z_is G x0 3) (p2 : z_is G x1 3) (p3 : z_in (((h x0 1) - 1) * ((h x0 2) - x2))) (p4 : z_in (x2 + 2))
    (u1 : (1 ≤ (((h x0 1) - 1) * ((h x0 2) - x2)) ∧ (((h x0 1) - 1) * ((h x0 2) - x2)) ≤ 12) ∧ 1 ≤ (x2 + 2) ∧ (x2 + 2) ≤ 6 → z_Y D M_X3_fold d 30 [(0, 2, x0), (1, 2, x1), (2, 0, x2), (3, 0, 0), (4, 0, 1)] [] G (z_wr (z_wr h x1 1 (((h x0 1) - 1) * ((h x0 2) - x2))) x1 2 (x2 + 2)) Q)
    (u2 : ¬ ((1 ≤ (((h x0 1) - 1) * ((h x0 2) - x2)) ∧ (((h x0 1) - 1) * ((h x0 2) - x2)) ≤ 12) ∧ 1 ≤ (x2 + 2) ∧ (x2 + 2) ≤ 6) → Q (.inl (some (0, 0))) G h) :
    z_Y D M_X3_fold d 0 [(0, 2, x0), (1, 2, x1), (2, 0, x2)] [] G h Q := by
  intro hl0
  refine z_aload_n (q := 1) 1 dX3_fold_0 rfl rfl ?_
  refine z_aload_n (q := 2) 0 dX3_fold_1 rfl rfl ?_
  refine z_gf (q := 5) (ki := 1) (v := (0, (h x0 1))) fX3_106 rfl rfl p1 dX3_fold_2 rfl ?_
  refine z_iconst (q := 6) dX3_fold_5 rfl ?_
  refine z_isub (q := 7) dX3_fold_6 rfl ?_
  refine z_aload_n (q := 8) 0 dX3_fold_7 rfl rfl ?_
  refine z_gf (q := 11) (ki := 2) (v := (0, (h x0 2))) fX3_43 rfl rfl p1 dX3_fold_8 rfl ?_
  refine z_iload_n (q := 12) 2 dX3_fold_11 rfl rfl ?_
  refine z_isub (q := 13) dX3_fold_12 rfl ?_
  refine z_imul (q := 14) dX3_fold_13 rfl ?_
  refine z_iload_n (q := 15) 2 dX3_fold_14 rfl rfl ?_
  refine z_iconst (q := 16) dX3_fold_15 rfl ?_
  refine z_iadd (q := 17) dX3_fold_16 rfl ?_
  by_cases c1 : (1 ≤ (((h x0 1) - 1) * ((h x0 2) - x2)) ∧ (((h x0 1) - 1) * ((h x0 2) - x2)) ≤ 12) ∧ 1 ≤ (x2 + 2) ∧ (x2 + 2) ≤ 6
  · have e1 := a_X4_shape1 (D := D) (G := G) (h := h) (d := d - 1) (by omega) x1 (((h x0 1) - 1) * ((h x0 2) - x2)) (x2 + 2) p2 p3 p4 c1
    refine z_goV (q := 20) (av := [(0, (((h x0 1) - 1) * ((h x0 2) - x2))), (0, (x2 + 2))]) (rest := []) cb3 p2 (z_toi) hl0 (z_Ei.K e1 (by omega) ?_) mo_X4_shape np_X4_shape k742 k505 k506 rfl (nle rfl) dX3_fold_17 rfl
    have hl1 : lay G (z_wr (z_wr h x1 1 (((h x0 1) - 1) * ((h x0 2) - x2))) x1 2 (x2 + 2)) := e1.lay hl0
    refine z_if_ne (q := 23) (t := 25) ⟨by decide, by decide⟩ dX3_fold_20 (by decide) rfl (fun _ => ?_) (fun c => absurd c (by decide))
    refine z_iconst (q := 26) dX3_fold_25 rfl ?_
    refine z_istore_n (q := 27) (L' := [(0, 2, x0), (1, 2, x1), (2, 0, x2), (3, 0, 0)]) dX3_fold_26 rfl (by decide) rfl ?_
    refine z_iconst (q := 28) dX3_fold_27 rfl ?_
    refine z_istore (q := 30) (L' := [(0, 2, x0), (1, 2, x1), (2, 0, x2), (3, 0, 0), (4, 0, 1)]) dX3_fold_28 rfl (by decide) rfl ?_
    exact u1 c1 hl1
  · have e2 := a_X4_shape0 (D := D) (G := G) (h := h) (d := d - 1) (by omega) x1 (((h x0 1) - 1) * ((h x0 2) - x2)) (x2 + 2) p2 p3 p4 c1
    refine z_goV (q := 20) (av := [(0, (((h x0 1) - 1) * ((h x0 2) - x2))), (0, (x2 + 2))]) (rest := []) cb3 p2 (z_toi) hl0 (z_Ei.K e2 (by omega) ?_) mo_X4_shape np_X4_shape k742 k505 k506 rfl (nle rfl) dX3_fold_17 rfl
    refine z_if_ne (q := 23) (t := 25) ⟨by decide, by decide⟩ dX3_fold_20 (by decide) rfl (fun c => absurd c (by decide)) (fun _ => ?_)
    refine z_iconst (q := 24) dX3_fold_23 rfl ?_
    exact z_bret rfl (by decide) dX3_fold_24 ⟨hl0, u2 c1⟩
theorem b_X3_fold_30 {D : zD} {d : Nat} {G : zG} {h : zH} {Q : zO → zG → zH → Prop} {x0 x1 x2 x3 x4 : Int} (p1 : z_is G x0 3) (p2 : z_in x4) (p3 : z_in (h x0 1))
    (u1 : (h x0 1) ≤ x4 → Q (.inl (some (0, 1))) G h)
    (u2 : ¬ ((h x0 1) ≤ x4) → z_Y D M_X3_fold d 42 [(0, 2, x0), (1, 2, x1), (2, 0, x2), (3, 0, x3), (4, 0, x4), (5, 0, x2)] [] G h Q) :
    z_Y D M_X3_fold d 30 [(0, 2, x0), (1, 2, x1), (2, 0, x2), (3, 0, x3), (4, 0, x4)] [] G h Q := by
  intro hl0
  refine z_iload (q := 32) 4 dX3_fold_30 rfl rfl ?_
  refine z_aload_n (q := 33) 0 dX3_fold_32 rfl rfl ?_
  refine z_gf (q := 36) (ki := 1) (v := (0, (h x0 1))) fX3_106 rfl rfl p1 dX3_fold_33 rfl ?_
  refine z_icmp_ge (q := 39) (t := 104) p2 p3 dX3_fold_36 (by decide) rfl (fun c1 => ?_) (fun c1 => ?_)
  · refine z_iconst (q := 105) dX3_fold_104 rfl ?_
    exact z_bret rfl (by decide) dX3_fold_105 ⟨hl0, u1 c1⟩
  · refine z_iload_n (q := 40) 2 dX3_fold_39 rfl rfl ?_
    refine z_istore (q := 42) (L' := [(0, 2, x0), (1, 2, x1), (2, 0, x2), (3, 0, x3), (4, 0, x4), (5, 0, x2)]) dX3_fold_40 rfl (by decide) rfl ?_
    exact u2 c1 hl0
theorem b_X3_fold_42 {D : zD} {d : Nat} {G : zG} {h : zH} {Q : zO → zG → zH → Prop} {x0 x1 x2 x3 x4 x5 : Int} (hd : 3 ≤ d) (p1 : z_is G x0 3) (p2 : z_in x5) (p3 : z_in (h x0 2)) (p4 : ¬ ((h x0 2) ≤ x5) → z_is G x1 3) (p5 : ¬ ((h x0 2) ≤ x5) → ¬ x0 = x1) (p6 : ¬ ((h x0 2) ≤ x5) → 0 ≤ x2) (p7 : ¬ ((h x0 2) ≤ x5) → 0 ≤ (x3 * (h x1 2))) (p8 : ¬ ((h x0 2) ≤ x5) → (x3 * (h x1 2)) + x2 ≤ 72) (p9 : ¬ ((h x0 2) ≤ x5) → 0 ≤ (x4 * (h x0 2))) (p10 : ¬ ((h x0 2) ≤ x5) → (x4 * (h x0 2)) + x2 ≤ 72) (p11 : ¬ ((h x0 2) ≤ x5) → 0 ≤ (0 * (h x0 2) + x5)) (p12 : ¬ ((h x0 2) ≤ x5) → (0 * (h x0 2) + x5) < 72) (p13 : ¬ ((h x0 2) ≤ x5) → 0 ≤ (x3 * (h x1 2) + x2)) (p14 : ¬ ((h x0 2) ≤ x5) → (x3 * (h x1 2) + x2) < 72) (p15 : ¬ ((h x0 2) ≤ x5) → 0 ≤ (x4 * (h x0 2) + x5)) (p16 : ¬ ((h x0 2) ≤ x5) → (x4 * (h x0 2) + x5) < 72) (p17 : ¬ ((h x0 2) ≤ x5) → 0 ≤ (x3 * (h x1 2) + (x2 + 1))) (p18 : ¬ ((h x0 2) ≤ x5) → (x3 * (h x1 2) + (x2 + 1)) < 72)
    (u1 : (h x0 2) ≤ x5 → z_Y D M_X3_fold d 30 [(0, 2, x0), (1, 2, x1), (2, 0, x2), (3, 0, x3), (4, 0, (x4 + 1))] [] G h Q)
    (u2 : ¬ ((h x0 2) ≤ x5) → z_Y D M_X3_fold d 42 [(0, 2, x0), (1, 2, x1), (2, 0, x2), (3, 0, (x3 + 1)), (4, 0, x4), (5, 0, (x5 + 1))] [] G (z_wr (z_wr (z_cp h (x0 + 1) (x4 * (h x0 2)) (x1 + 1) (x3 * (h x1 2)) x2) (x1 + 1) (x3 * (h x1 2) + x2) ((z_cp h (x0 + 1) (x4 * (h x0 2)) (x1 + 1) (x3 * (h x1 2)) x2) (x0 + 1) (0 * (h x0 2) + x5))) (x1 + 1) (x3 * (h x1 2) + (x2 + 1)) ((z_cp h (x0 + 1) (x4 * (h x0 2)) (x1 + 1) (x3 * (h x1 2)) x2) (x0 + 1) (x4 * (h x0 2) + x5))) Q) :
    z_Y D M_X3_fold d 42 [(0, 2, x0), (1, 2, x1), (2, 0, x2), (3, 0, x3), (4, 0, x4), (5, 0, x5)] [] G h Q := by
  intro hl0
  refine z_iload (q := 44) 5 dX3_fold_42 rfl rfl ?_
  refine z_aload_n (q := 45) 0 dX3_fold_44 rfl rfl ?_
  refine z_gf (q := 48) (ki := 2) (v := (0, (h x0 2))) fX3_43 rfl rfl p1 dX3_fold_45 rfl ?_
  refine z_icmp_ge (q := 51) (t := 98) p2 p3 dX3_fold_48 (by decide) rfl (fun c1 => ?_) (fun c1 => ?_)
  · refine z_iinc (q := 101) (L' := [(0, 2, x0), (1, 2, x1), (2, 0, x2), (3, 0, x3), (4, 0, (x4 + 1)), (5, 0, x5)]) 4 dX3_fold_98 rfl rfl (by decide) rfl ?_
    refine z_goto (t := 30) dX3_fold_101 (by decide) ?_
    refine z_sub (L' := [(0, 2, x0), (1, 2, x1), (2, 0, x2), (3, 0, x3), (4, 0, (x4 + 1))]) [0, 1, 2, 3, 4] rfl ?_
    exact u1 c1 hl0
  · refine z_aload_n (q := 52) 1 dX3_fold_51 rfl rfl ?_
    refine z_iload_n (q := 53) 3 dX3_fold_52 rfl rfl ?_
    refine z_aload_n (q := 54) 0 dX3_fold_53 rfl rfl ?_
    refine z_iload (q := 56) 4 dX3_fold_54 rfl rfl ?_
    refine z_iload_n (q := 57) 2 dX3_fold_56 rfl rfl ?_
    have e1 := a_X4_putRow (D := D) (G := G) (h := h) (d := d - 1) (by omega) x1 x3 x0 x4 x2 (h x1 2) (h x0 2) (p4 c1) p1 (nesy (p5 c1)) rfl rfl (p6 c1) (p7 c1) (p8 c1) (p9 c1) (p10 c1)
    refine z_goV (q := 60) (av := [(0, x3), (2, x0), (0, x4), (0, x2)]) (rest := []) cb3 (p4 c1) (z_tov) hl0 (z_Ev.K e1 (by omega) ?_) mo_X4_putRow np_X4_putRow k776 k777 k778 rfl (nle rfl) dX3_fold_57 rfl
    have hl1 : lay G (z_cp h (x0 + 1) (x4 * (h x0 2)) (x1 + 1) (x3 * (h x1 2)) x2) := e1.lay hl0
    refine z_aload_n (q := 61) 1 dX3_fold_60 rfl rfl ?_
    refine z_iload_n (q := 62) 3 dX3_fold_61 rfl rfl ?_
    refine z_iload_n (q := 63) 2 dX3_fold_62 rfl rfl ?_
    refine z_aload_n (q := 64) 0 dX3_fold_63 rfl rfl ?_
    refine z_iconst (q := 65) dX3_fold_64 rfl ?_
    refine z_iload (q := 67) 5 dX3_fold_65 rfl rfl ?_
    have e2 := a_X4_at (D := D) (G := G) (h := (z_cp h (x0 + 1) (x4 * (h x0 2)) (x1 + 1) (x3 * (h x1 2)) x2)) (d := d - 1) (by omega) x0 0 x5 (h x0 2) ((z_cp h (x0 + 1) (x4 * (h x0 2)) (x1 + 1) (x3 * (h x1 2)) x2) (x0 + 1) (0 * (h x0 2) + x5)) p1 (c_na (z_isne p1 (hl0.ti (p4 c1)) (by decide))) (p11 c1) (p12 c1) rfl
    refine z_goV (q := 70) (av := [(0, 0), (0, x5)]) (rest := [(0, x2), (0, x3), (2, x1)]) cb3 p1 (z_tol) hl1 (z_El.K e2 (by omega) ?_) mo_X4_at np_X4_at k743 k704 k705 rfl (nle rfl) dX3_fold_67 rfl
    have e3 := a_X4_put (D := D) (G := G) (h := (z_cp h (x0 + 1) (x4 * (h x0 2)) (x1 + 1) (x3 * (h x1 2)) x2)) (d := d - 1) (by omega) x1 x3 x2 ((z_cp h (x0 + 1) (x4 * (h x0 2)) (x1 + 1) (x3 * (h x1 2)) x2) (x0 + 1) (0 * (h x0 2) + x5)) (h x1 2) (p4 c1) (c_na (z_isne (p4 c1) (hl0.ti (p4 c1)) (by decide))) (p13 c1) (p14 c1)
    refine z_goV (q := 73) (av := [(0, x3), (0, x2), (1, ((z_cp h (x0 + 1) (x4 * (h x0 2)) (x1 + 1) (x3 * (h x1 2)) x2) (x0 + 1) (0 * (h x0 2) + x5)))]) (rest := []) cb3 (p4 c1) (z_tov) hl1 (z_Ev.K e3 (by omega) ?_) mo_X4_put np_X4_put k744 k745 k746 rfl (nle rfl) dX3_fold_70 rfl
    have hl2 : lay G (z_wr (z_cp h (x0 + 1) (x4 * (h x0 2)) (x1 + 1) (x3 * (h x1 2)) x2) (x1 + 1) (x3 * (h x1 2) + x2) ((z_cp h (x0 + 1) (x4 * (h x0 2)) (x1 + 1) (x3 * (h x1 2)) x2) (x0 + 1) (0 * (h x0 2) + x5))) := e3.lay hl1
    refine z_aload_n (q := 74) 1 dX3_fold_73 rfl rfl ?_
    refine z_iload_n (q := 75) 3 dX3_fold_74 rfl rfl ?_
    refine z_iload_n (q := 76) 2 dX3_fold_75 rfl rfl ?_
    refine z_iconst (q := 77) dX3_fold_76 rfl ?_
    refine z_iadd (q := 78) dX3_fold_77 rfl ?_
    refine z_aload_n (q := 79) 0 dX3_fold_78 rfl rfl ?_
    refine z_iload (q := 81) 4 dX3_fold_79 rfl rfl ?_
    refine z_iload (q := 83) 5 dX3_fold_81 rfl rfl ?_
    have e4 := a_X4_at (D := D) (G := G) (h := (z_wr (z_cp h (x0 + 1) (x4 * (h x0 2)) (x1 + 1) (x3 * (h x1 2)) x2) (x1 + 1) (x3 * (h x1 2) + x2) ((z_cp h (x0 + 1) (x4 * (h x0 2)) (x1 + 1) (x3 * (h x1 2)) x2) (x0 + 1) (0 * (h x0 2) + x5)))) (d := d - 1) (by omega) x0 x4 x5 (h x0 2) ((z_cp h (x0 + 1) (x4 * (h x0 2)) (x1 + 1) (x3 * (h x1 2)) x2) (x0 + 1) (x4 * (h x0 2) + x5)) p1 ((w_na (z_isne p1 (hl1.ti (p4 c1)) (by decide))).trans (c_na (z_isne p1 (hl1.ti (p4 c1)) (by decide)))) (p15 c1) (p16 c1) (w_na (ne1 (p5 c1)))
    refine z_goV (q := 86) (av := [(0, x4), (0, x5)]) (rest := [(0, (x2 + 1)), (0, x3), (2, x1)]) cb3 p1 (z_tol) hl2 (z_El.K e4 (by omega) ?_) mo_X4_at np_X4_at k743 k704 k705 rfl (nle rfl) dX3_fold_83 rfl
    have e5 := a_X4_put (D := D) (G := G) (h := (z_wr (z_cp h (x0 + 1) (x4 * (h x0 2)) (x1 + 1) (x3 * (h x1 2)) x2) (x1 + 1) (x3 * (h x1 2) + x2) ((z_cp h (x0 + 1) (x4 * (h x0 2)) (x1 + 1) (x3 * (h x1 2)) x2) (x0 + 1) (0 * (h x0 2) + x5)))) (d := d - 1) (by omega) x1 x3 (x2 + 1) ((z_cp h (x0 + 1) (x4 * (h x0 2)) (x1 + 1) (x3 * (h x1 2)) x2) (x0 + 1) (x4 * (h x0 2) + x5)) (h x1 2) (p4 c1) ((w_na (z_isne (p4 c1) (hl1.ti (p4 c1)) (by decide))).trans (c_na (z_isne (p4 c1) (hl1.ti (p4 c1)) (by decide)))) (p17 c1) (p18 c1)
    refine z_goV (q := 89) (av := [(0, x3), (0, (x2 + 1)), (1, ((z_cp h (x0 + 1) (x4 * (h x0 2)) (x1 + 1) (x3 * (h x1 2)) x2) (x0 + 1) (x4 * (h x0 2) + x5)))]) (rest := []) cb3 (p4 c1) (z_tov) hl2 (z_Ev.K e5 (by omega) ?_) mo_X4_put np_X4_put k744 k745 k746 rfl (nle rfl) dX3_fold_86 rfl
    have hl3 : lay G (z_wr (z_wr (z_cp h (x0 + 1) (x4 * (h x0 2)) (x1 + 1) (x3 * (h x1 2)) x2) (x1 + 1) (x3 * (h x1 2) + x2) ((z_cp h (x0 + 1) (x4 * (h x0 2)) (x1 + 1) (x3 * (h x1 2)) x2) (x0 + 1) (0 * (h x0 2) + x5))) (x1 + 1) (x3 * (h x1 2) + (x2 + 1)) ((z_cp h (x0 + 1) (x4 * (h x0 2)) (x1 + 1) (x3 * (h x1 2)) x2) (x0 + 1) (x4 * (h x0 2) + x5))) := e5.lay hl2
    refine z_iinc (q := 92) (L' := [(0, 2, x0), (1, 2, x1), (2, 0, x2), (3, 0, (x3 + 1)), (4, 0, x4), (5, 0, x5)]) 3 dX3_fold_89 rfl rfl (by decide) rfl ?_
    refine z_iinc (q := 95) (L' := [(0, 2, x0), (1, 2, x1), (2, 0, x2), (3, 0, (x3 + 1)), (4, 0, x4), (5, 0, (x5 + 1))]) 5 dX3_fold_92 rfl rfl (by decide) rfl ?_
    refine z_goto (t := 42) dX3_fold_95 (by decide) ?_
    exact u2 c1 hl3
