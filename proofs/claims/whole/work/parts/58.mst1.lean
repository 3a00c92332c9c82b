theorem b_X13_become_0 {D : zD} {d : Nat} {G : zG} {h : zH} {Q : zO → zG → zH → Prop} {x1 x2 : Int} (p1 : 0 ≤ x2) (p2 : x2 < 12) (p3 : 0 ≤ x1) (p4 : x1 < 12)
    (u1 : z_Y D M_X13_become d 26 [(0, 2, 88), (1, 0, x1), (2, 0, x2), (3, 0, 0)] [] G (z_wr (z_wr h 89 x1 (h 89 x2)) 90 x1 (h 90 x2)) Q) :
    z_Y D M_X13_become d 0 [(0, 2, 88), (1, 0, x1), (2, 0, x2)] [] G h Q := by
  intro hl0
  refine z_aload_n (q := 1) 0 dX13_become_0 rfl rfl ?_
  refine z_gf (q := 4) (ki := 0) (v := (2, 89)) fX13_9 rfl (z_ldr rfl (hl0.ref 81 rfl)) (hl0.i 88 (by decide) rfl) dX13_become_1 rfl ?_
  refine z_iload_n (q := 5) 1 dX13_become_4 rfl rfl ?_
  refine z_aload_n (q := 6) 0 dX13_become_5 rfl rfl ?_
  refine z_gf (q := 9) (ki := 0) (v := (2, 89)) fX13_9 rfl (z_ldr rfl (hl0.ref 81 rfl)) (hl0.i 88 (by decide) rfl) dX13_become_6 rfl ?_
  refine z_iload_n (q := 10) 2 dX13_become_9 rfl rfl ?_
  refine z_iale (q := 11) (v := (h 89 x2)) (hl0.a 89 (by decide) rfl) p1 p2 rfl dX13_become_10 rfl ?_
  refine z_isn (q := 12) (hl0.i 89 (by decide) rfl) (hl0.n 89 (by decide) rfl) p3 p4 dX13_become_11 rfl ?_
  have hl1 := hl0.wr (v := (h 89 x2)) (hl0.i 89 (by decide) rfl) (i := x1) rfl
  refine z_aload_n (q := 13) 0 dX13_become_12 rfl rfl ?_
  refine z_gf (q := 16) (ki := 1) (v := (2, 90)) fX13_13 rfl (z_ldr rfl (hl1.ref 82 rfl)) (hl1.i 88 (by decide) rfl) dX13_become_13 rfl ?_
  refine z_iload_n (q := 17) 1 dX13_become_16 rfl rfl ?_
  refine z_aload_n (q := 18) 0 dX13_become_17 rfl rfl ?_
  refine z_gf (q := 21) (ki := 1) (v := (2, 90)) fX13_13 rfl (z_ldr rfl (hl1.ref 82 rfl)) (hl1.i 88 (by decide) rfl) dX13_become_18 rfl ?_
  refine z_iload_n (q := 22) 2 dX13_become_21 rfl rfl ?_
  refine z_iale (q := 23) (v := (h 90 x2)) (hl1.a 90 (by decide) rfl) p1 p2 (w_na (by decide)) dX13_become_22 rfl ?_
  refine z_isn (q := 24) (hl1.i 90 (by decide) rfl) (hl1.n 90 (by decide) rfl) p3 p4 dX13_become_23 rfl ?_
  have hl2 := hl1.wr (v := (h 90 x2)) (hl1.i 90 (by decide) rfl) (i := x1) rfl
  refine z_iconst (q := 25) dX13_become_24 rfl ?_
  refine z_istore_n (q := 26) (L' := [(0, 2, 88), (1, 0, x1), (2, 0, x2), (3, 0, 0)]) dX13_become_25 rfl (by decide) rfl ?_
  exact u1 hl2
theorem b_X13_become_26 {D : zD} {d : Nat} {G : zG} {h : zH} {Q : zO → zG → zH → Prop} {x1 x2 x3 : Int} (p1 : z_in x3) (p2 : ¬ (72 ≤ x3) → 0 ≤ ((72 * x2) + x3)) (p3 : ¬ (72 ≤ x3) → ((72 * x2) + x3) < 864) (p4 : ¬ (72 ≤ x3) → 0 ≤ ((72 * x1) + x3)) (p5 : ¬ (72 ≤ x3) → ((72 * x1) + x3) < 864)
    (u1 : 72 ≤ x3 → Q (.inl none) G h)
    (u2 : ¬ (72 ≤ x3) → z_Y D M_X13_become d 26 [(0, 2, 88), (1, 0, x1), (2, 0, x2), (3, 0, (x3 + 1))] [] G (z_wr h 91 ((72 * x1) + x3) (h 91 ((72 * x2) + x3))) Q) :
    z_Y D M_X13_become d 26 [(0, 2, 88), (1, 0, x1), (2, 0, x2), (3, 0, x3)] [] G h Q := by
  intro hl0
  refine z_iload_n (q := 27) 3 dX13_become_26 rfl rfl ?_
  refine z_bipush (q := 29) dX13_become_27 rfl (by decide) ?_
  refine z_icmp_ge (q := 32) (t := 60) p1 ⟨by decide, by decide⟩ dX13_become_29 (by decide) rfl (fun c1 => ?_) (fun c1 => ?_)
  · exact z_vret rfl dX13_become_60 ⟨hl0, u1 c1⟩
  · refine z_aload_n (q := 33) 0 dX13_become_32 rfl rfl ?_
    refine z_gf (q := 36) (ki := 2) (v := (2, 91)) fX13_16 rfl (z_ldr rfl (hl0.ref 83 rfl)) (hl0.i 88 (by decide) rfl) dX13_become_33 rfl ?_
    refine z_bipush (q := 38) dX13_become_36 rfl (by decide) ?_
    refine z_iload_n (q := 39) 1 dX13_become_38 rfl rfl ?_
    refine z_imul (q := 40) dX13_become_39 rfl ?_
    refine z_iload_n (q := 41) 3 dX13_become_40 rfl rfl ?_
    refine z_iadd (q := 42) dX13_become_41 rfl ?_
    refine z_aload_n (q := 43) 0 dX13_become_42 rfl rfl ?_
    refine z_gf (q := 46) (ki := 2) (v := (2, 91)) fX13_16 rfl (z_ldr rfl (hl0.ref 83 rfl)) (hl0.i 88 (by decide) rfl) dX13_become_43 rfl ?_
    refine z_bipush (q := 48) dX13_become_46 rfl (by decide) ?_
    refine z_iload_n (q := 49) 2 dX13_become_48 rfl rfl ?_
    refine z_imul (q := 50) dX13_become_49 rfl ?_
    refine z_iload_n (q := 51) 3 dX13_become_50 rfl rfl ?_
    refine z_iadd (q := 52) dX13_become_51 rfl ?_
    refine z_lale (q := 53) (v := (h 91 ((72 * x2) + x3))) (hl0.a 91 (by decide) rfl) (p2 c1) (p3 c1) rfl dX13_become_52 rfl ?_
    refine z_lsn (q := 54) (hl0.i 91 (by decide) rfl) (hl0.n 91 (by decide) rfl) (p4 c1) (p5 c1) dX13_become_53 rfl ?_
    have hl1 := hl0.wr (v := (h 91 ((72 * x2) + x3))) (hl0.i 91 (by decide) rfl) (i := ((72 * x1) + x3)) rfl
    refine z_iinc (q := 57) (L' := [(0, 2, 88), (1, 0, x1), (2, 0, x2), (3, 0, (x3 + 1))]) 3 dX13_become_54 rfl rfl (by decide) rfl ?_
    refine z_goto (t := 26) dX13_become_57 (by decide) ?_
    exact u2 c1 hl1
theorem b_X13_shape_0 {D : zD} {d : Nat} {G : zG} {h : zH} {Q : zO → zG → zH → Prop} {x1 x2 x3 : Int} (p1 : 0 ≤ x1) (p2 : x1 < 12)
    (u1 : z_Y D M_X13_shape d 17 [(0, 2, 88), (1, 0, x1), (4, 0, 0)] [] G (z_wr (z_wr h 89 x1 x2) 90 x1 x3) Q) :
    z_Y D M_X13_shape d 0 [(0, 2, 88), (1, 0, x1), (2, 0, x2), (3, 0, x3)] [] G h Q := by
  intro hl0
  refine z_aload_n (q := 1) 0 dX13_shape_0 rfl rfl ?_
  refine z_gf (q := 4) (ki := 0) (v := (2, 89)) fX13_9 rfl (z_ldr rfl (hl0.ref 81 rfl)) (hl0.i 88 (by decide) rfl) dX13_shape_1 rfl ?_
  refine z_iload_n (q := 5) 1 dX13_shape_4 rfl rfl ?_
  refine z_iload_n (q := 6) 2 dX13_shape_5 rfl rfl ?_
  refine z_isn (q := 7) (hl0.i 89 (by decide) rfl) (hl0.n 89 (by decide) rfl) p1 p2 dX13_shape_6 rfl ?_
  have hl1 := hl0.wr (v := x2) (hl0.i 89 (by decide) rfl) (i := x1) rfl
  refine z_aload_n (q := 8) 0 dX13_shape_7 rfl rfl ?_
  refine z_gf (q := 11) (ki := 1) (v := (2, 90)) fX13_13 rfl (z_ldr rfl (hl1.ref 82 rfl)) (hl1.i 88 (by decide) rfl) dX13_shape_8 rfl ?_
  refine z_iload_n (q := 12) 1 dX13_shape_11 rfl rfl ?_
  refine z_iload_n (q := 13) 3 dX13_shape_12 rfl rfl ?_
  refine z_isn (q := 14) (hl1.i 90 (by decide) rfl) (hl1.n 90 (by decide) rfl) p1 p2 dX13_shape_13 rfl ?_
  have hl2 := hl1.wr (v := x3) (hl1.i 90 (by decide) rfl) (i := x1) rfl
  refine z_iconst (q := 15) dX13_shape_14 rfl ?_
  refine z_istore (q := 17) (L' := [(0, 2, 88), (1, 0, x1), (2, 0, x2), (3, 0, x3), (4, 0, 0)]) dX13_shape_15 rfl (by decide) rfl ?_
  refine z_sub (L' := [(0, 2, 88), (1, 0, x1), (4, 0, 0)]) [0, 1, 4] rfl ?_
  exact u1 hl2
theorem b_X13_shape_17 {D : zD} {d : Nat} {G : zG} {h : zH} {Q : zO → zG → zH → Prop} {x1 x4 : Int} (p1 : z_in x4) (p2 : ¬ (72 ≤ x4) → 0 ≤ ((72 * x1) + x4)) (p3 : ¬ (72 ≤ x4) → ((72 * x1) + x4) < 864)
    (u1 : 72 ≤ x4 → Q (.inl none) G h)
    (u2 : ¬ (72 ≤ x4) → z_Y D M_X13_shape d 17 [(0, 2, 88), (1, 0, x1), (4, 0, (x4 + 1))] [] G (z_wr h 91 ((72 * x1) + x4) 0) Q) :
    z_Y D M_X13_shape d 17 [(0, 2, 88), (1, 0, x1), (4, 0, x4)] [] G h Q := by
  intro hl0
  refine z_iload (q := 19) 2 dX13_shape_17 rfl rfl ?_
  refine z_bipush (q := 21) dX13_shape_19 rfl (by decide) ?_
  refine z_icmp_ge (q := 24) (t := 43) p1 ⟨by decide, by decide⟩ dX13_shape_21 (by decide) rfl (fun c1 => ?_) (fun c1 => ?_)
  · exact z_vret rfl dX13_shape_43 ⟨hl0, u1 c1⟩
  · refine z_aload_n (q := 25) 0 dX13_shape_24 rfl rfl ?_
    refine z_gf (q := 28) (ki := 2) (v := (2, 91)) fX13_16 rfl (z_ldr rfl (hl0.ref 83 rfl)) (hl0.i 88 (by decide) rfl) dX13_shape_25 rfl ?_
    refine z_bipush (q := 30) dX13_shape_28 rfl (by decide) ?_
    refine z_iload_n (q := 31) 1 dX13_shape_30 rfl rfl ?_
    refine z_imul (q := 32) dX13_shape_31 rfl ?_
    refine z_iload (q := 34) 2 dX13_shape_32 rfl rfl ?_
    refine z_iadd (q := 35) dX13_shape_34 rfl ?_
    refine z_lconst0 (q := 36) dX13_shape_35 rfl ?_
    refine z_lsn (q := 37) (hl0.i 91 (by decide) rfl) (hl0.n 91 (by decide) rfl) (p2 c1) (p3 c1) dX13_shape_36 rfl ?_
    have hl1 := hl0.wr (v := 0) (hl0.i 91 (by decide) rfl) (i := ((72 * x1) + x4)) rfl
    refine z_iinc (q := 40) (L' := [(0, 2, 88), (1, 0, x1), (4, 0, (x4 + 1))]) 2 dX13_shape_37 rfl rfl (by decide) rfl ?_
    refine z_goto (t := 17) dX13_shape_40 (by decide) ?_
    exact u2 c1 hl1
theorem b_X13_cellAt_0 {D : zD} {d : Nat} {G : zG} {h : zH} {Q : zO → zG → zH → Prop} {x1 x2 : Int} (hd : 2 ≤ d) (p1 : 0 ≤ (72 * (h 88 3) + 6 * x1 + x2)) (p2 : (72 * (h 88 3) + 6 * x1 + x2) < 864)
    (u1 : Q (.inl (some (1, (h 91 (72 * (h 88 3) + 6 * x1 + x2))))) G h) :
    z_Y D M_X13_cellAt d 0 [(0, 2, 88), (1, 0, x1), (2, 0, x2)] [] G h Q := by
  intro hl0
  refine z_aload_n (q := 1) 0 dX13_cellAt_0 rfl rfl ?_
  refine z_gf (q := 4) (ki := 2) (v := (2, 91)) fX13_16 rfl (z_ldr rfl (hl0.ref 83 rfl)) (hl0.i 88 (by decide) rfl) dX13_cellAt_1 rfl ?_
  refine z_aload_n (q := 5) 0 dX13_cellAt_4 rfl rfl ?_
  refine z_gf (q := 8) (ki := 3) (v := (0, (h 88 3))) fX13_117 rfl rfl (hl0.i 88 (by decide) rfl) dX13_cellAt_5 rfl ?_
  refine z_iload_n (q := 9) 1 dX13_cellAt_8 rfl rfl ?_
  refine z_iload_n (q := 10) 2 dX13_cellAt_9 rfl rfl ?_
  have e1 := a_X13_at (D := D) (G := G) (h := h) (d := d - 1) (by omega) (h 88 3) x1 x2
  refine z_goS (q := 13) (av := [(0, (h 88 3)), (0, x1), (0, x2)]) (rest := [(2, 91)]) (z_toi) hl0 (z_Ei.K e1 (by omega) ?_) mo_X13_at np_X13_at k1345 k1346 rfl (nle rfl) dX13_cellAt_10 rfl
  refine z_lale (q := 14) (v := (h 91 (72 * (h 88 3) + 6 * x1 + x2))) (hl0.a 91 (by decide) rfl) p1 p2 rfl dX13_cellAt_13 rfl ?_
  exact z_lret rfl dX13_cellAt_14 ⟨hl0, u1⟩
theorem b_X13_put_0 {D : zD} {d : Nat} {G : zG} {h : zH} {Q : zO → zG → zH → Prop} {x1 x2 x3 : Int} (hd : 2 ≤ d) (p1 : 0 ≤ (72 * 10 + 6 * x1 + x2)) (p2 : (72 * 10 + 6 * x1 + x2) < 864)
    (u1 : Q (.inl none) G (z_wr h 91 (72 * 10 + 6 * x1 + x2) x3)) :
    z_Y D M_X13_put d 0 [(0, 2, 88), (1, 0, x1), (2, 0, x2), (3, 1, x3)] [] G h Q := by
  intro hl0
  refine z_aload_n (q := 1) 0 dX13_put_0 rfl rfl ?_
  refine z_gf (q := 4) (ki := 2) (v := (2, 91)) fX13_16 rfl (z_ldr rfl (hl0.ref 83 rfl)) (hl0.i 88 (by decide) rfl) dX13_put_1 rfl ?_
  refine z_bipush (q := 6) dX13_put_4 rfl (by decide) ?_
  refine z_iload_n (q := 7) 1 dX13_put_6 rfl rfl ?_
  refine z_iload_n (q := 8) 2 dX13_put_7 rfl rfl ?_
  have e1 := a_X13_at (D := D) (G := G) (h := h) (d := d - 1) (by omega) 10 x1 x2
  refine z_goS (q := 11) (av := [(0, 10), (0, x1), (0, x2)]) (rest := [(2, 91)]) (z_toi) hl0 (z_Ei.K e1 (by omega) ?_) mo_X13_at np_X13_at k1345 k1346 rfl (nle rfl) dX13_put_8 rfl
  refine z_lload_n (q := 12) 3 dX13_put_11 rfl rfl ?_
  refine z_lsn (q := 13) (hl0.i 91 (by decide) rfl) (hl0.n 91 (by decide) rfl) p1 p2 dX13_put_12 rfl ?_
  have hl1 := hl0.wr (v := x3) (hl0.i 91 (by decide) rfl) (i := (72 * 10 + 6 * x1 + x2)) rfl
  exact z_vret rfl dX13_put_13 ⟨hl1, u1⟩
theorem b_X13_hasAny_0 {D : zD} {d : Nat} {G : zG} {h : zH} {Q : zO → zG → zH → Prop} {x1 : Int}
    (u1 : z_Y D M_X13_hasAny d 2 [(0, 2, 88), (1, 0, x1), (2, 0, 0)] [] G h Q) :
    z_Y D M_X13_hasAny d 0 [(0, 2, 88), (1, 0, x1)] [] G h Q := by
  intro hl0
  refine z_iconst (q := 1) dX13_hasAny_0 rfl ?_
  refine z_istore_n (q := 2) (L' := [(0, 2, 88), (1, 0, x1), (2, 0, 0)]) dX13_hasAny_1 rfl (by decide) rfl ?_
  exact u1 hl0
theorem b_X13_hasAny_2 {D : zD} {d : Nat} {G : zG} {h : zH} {Q : zO → zG → zH → Prop} {x1 x2 : Int} (p1 : 0 ≤ x1) (p2 : x1 < 12) (p3 : z_in x2) (p4 : z_in (h 89 x1))
    (u1 : (h 89 x1) ≤ x2 → Q (.inl (some (0, 0))) G h)
    (u2 : ¬ ((h 89 x1) ≤ x2) → z_Y D M_X13_hasAny d 14 [(0, 2, 88), (1, 0, x1), (2, 0, x2), (3, 0, 0)] [] G h Q) :
    z_Y D M_X13_hasAny d 2 [(0, 2, 88), (1, 0, x1), (2, 0, x2)] [] G h Q := by
  intro hl0
  refine z_iload_n (q := 3) 2 dX13_hasAny_2 rfl rfl ?_
  refine z_aload_n (q := 4) 0 dX13_hasAny_3 rfl rfl ?_
  refine z_gf (q := 7) (ki := 0) (v := (2, 89)) fX13_9 rfl (z_ldr rfl (hl0.ref 81 rfl)) (hl0.i 88 (by decide) rfl) dX13_hasAny_4 rfl ?_
  refine z_iload_n (q := 8) 1 dX13_hasAny_7 rfl rfl ?_
  refine z_iale (q := 9) (v := (h 89 x1)) (hl0.a 89 (by decide) rfl) p1 p2 rfl dX13_hasAny_8 rfl ?_
  refine z_icmp_ge (q := 12) (t := 56) p3 p4 dX13_hasAny_9 (by decide) rfl (fun c1 => ?_) (fun c1 => ?_)
  · refine z_iconst (q := 57) dX13_hasAny_56 rfl ?_
    exact z_bret rfl (by decide) dX13_hasAny_57 ⟨hl0, u1 c1⟩
  · refine z_iconst (q := 13) dX13_hasAny_12 rfl ?_
    refine z_istore_n (q := 14) (L' := [(0, 2, 88), (1, 0, x1), (2, 0, x2), (3, 0, 0)]) dX13_hasAny_13 rfl (by decide) rfl ?_
    exact u2 c1 hl0
theorem b_X13_hasAny_14 {D : zD} {d : Nat} {G : zG} {h : zH} {Q : zO → zG → zH → Prop} {x1 x2 x3 : Int} (hd : 2 ≤ d) (p1 : 0 ≤ x1) (p2 : x1 < 12) (p3 : z_in x3) (p4 : z_in (h 90 x1)) (p5 : ¬ ((h 90 x1) ≤ x3) → 0 ≤ (72 * x1 + 6 * x2 + x3)) (p6 : ¬ ((h 90 x1) ≤ x3) → (72 * x1 + 6 * x2 + x3) < 864) (p7 : ¬ ((h 90 x1) ≤ x3) → z_in64 (h 91 (72 * x1 + 6 * x2 + x3)))
    (u1 : (h 90 x1) ≤ x3 → z_Y D M_X13_hasAny d 2 [(0, 2, 88), (1, 0, x1), (2, 0, (x2 + 1))] [] G h Q)
    (u2 : ¬ ((h 90 x1) ≤ x3) → ¬ (h 91 (72 * x1 + 6 * x2 + x3)) = (-1) → z_Y D M_X13_hasAny d 14 [(0, 2, 88), (1, 0, x1), (2, 0, x2), (3, 0, (x3 + 1))] [] G h Q)
    (u3 : ¬ ((h 90 x1) ≤ x3) → ¬ (¬ (h 91 (72 * x1 + 6 * x2 + x3)) = (-1)) → Q (.inl (some (0, 1))) G h) :
    z_Y D M_X13_hasAny d 14 [(0, 2, 88), (1, 0, x1), (2, 0, x2), (3, 0, x3)] [] G h Q := by
  intro hl0
  refine z_iload_n (q := 15) 3 dX13_hasAny_14 rfl rfl ?_
  refine z_aload_n (q := 16) 0 dX13_hasAny_15 rfl rfl ?_
  refine z_gf (q := 19) (ki := 1) (v := (2, 90)) fX13_13 rfl (z_ldr rfl (hl0.ref 82 rfl)) (hl0.i 88 (by decide) rfl) dX13_hasAny_16 rfl ?_
  refine z_iload_n (q := 20) 1 dX13_hasAny_19 rfl rfl ?_
  refine z_iale (q := 21) (v := (h 90 x1)) (hl0.a 90 (by decide) rfl) p1 p2 rfl dX13_hasAny_20 rfl ?_
  refine z_icmp_ge (q := 24) (t := 50) p3 p4 dX13_hasAny_21 (by decide) rfl (fun c1 => ?_) (fun c1 => ?_)
  · refine z_iinc (q := 53) (L' := [(0, 2, 88), (1, 0, x1), (2, 0, (x2 + 1)), (3, 0, x3)]) 2 dX13_hasAny_50 rfl rfl (by decide) rfl ?_
    refine z_goto (t := 2) dX13_hasAny_53 (by decide) ?_
    refine z_sub (L' := [(0, 2, 88), (1, 0, x1), (2, 0, (x2 + 1))]) [0, 1, 2] rfl ?_
    exact u1 c1 hl0
  · refine z_aload_n (q := 25) 0 dX13_hasAny_24 rfl rfl ?_
    refine z_gf (q := 28) (ki := 2) (v := (2, 91)) fX13_16 rfl (z_ldr rfl (hl0.ref 83 rfl)) (hl0.i 88 (by decide) rfl) dX13_hasAny_25 rfl ?_
    refine z_iload_n (q := 29) 1 dX13_hasAny_28 rfl rfl ?_
    refine z_iload_n (q := 30) 2 dX13_hasAny_29 rfl rfl ?_
    refine z_iload_n (q := 31) 3 dX13_hasAny_30 rfl rfl ?_
    have e1 := a_X13_at (D := D) (G := G) (h := h) (d := d - 1) (by omega) x1 x2 x3
    refine z_goS (q := 34) (av := [(0, x1), (0, x2), (0, x3)]) (rest := [(2, 91)]) (z_toi) hl0 (z_Ei.K e1 (by omega) ?_) mo_X13_at np_X13_at k1345 k1346 rfl (nle rfl) dX13_hasAny_31 rfl
    refine z_lale (q := 35) (v := (h 91 (72 * x1 + 6 * x2 + x3))) (hl0.a 91 (by decide) rfl) (p5 c1) (p6 c1) rfl dX13_hasAny_34 rfl ?_
    refine z_ldc2 (q := 38) (n := (-1)) k1327 (by decide) dX13_hasAny_35 rfl ?_
    refine z_lcmp_ne (q := 42) (t := 44) (p7 c1) ⟨by decide, by decide⟩ dX13_hasAny_38 (rfl : _ = 39) dX13_hasAny_39 (by decide) rfl (fun c2 => ?_) (fun c2 => ?_)
    · refine z_iinc (q := 47) (L' := [(0, 2, 88), (1, 0, x1), (2, 0, x2), (3, 0, (x3 + 1))]) 3 dX13_hasAny_44 rfl rfl (by decide) rfl ?_
      refine z_goto (t := 14) dX13_hasAny_47 (by decide) ?_
      exact u2 c1 c2 hl0
    · refine z_iconst (q := 43) dX13_hasAny_42 rfl ?_
      exact z_bret rfl (by decide) dX13_hasAny_43 ⟨hl0, u3 c1 c2⟩
