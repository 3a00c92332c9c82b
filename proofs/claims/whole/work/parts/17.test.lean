theorem b_X13_at_0 {D : zD} {d : Nat} {G : zG} {h : zH} {Q : zO → zG → zH → Prop} {x0 x1 x2 : Int}
    (u1 : Q (.inl (some (0, (((72 * x0) + (6 * x1)) + x2)))) G h) :
    z_Y D M_X13_at d 0 [(0, 0, x0), (1, 0, x1), (2, 0, x2)] [] G h Q := by
  intro hl0
  refine z_bipush (q := 2) dX13_at_0 rfl (by decide) ?_
  refine z_iload_n (q := 3) 0 dX13_at_2 rfl rfl ?_
  refine z_imul (q := 4) dX13_at_3 rfl ?_
  refine z_bipush (q := 6) dX13_at_4 rfl (by decide) ?_
  refine z_iload_n (q := 7) 1 dX13_at_6 rfl rfl ?_
  refine z_imul (q := 8) dX13_at_7 rfl ?_
  refine z_iadd (q := 9) dX13_at_8 rfl ?_
  refine z_iload_n (q := 10) 2 dX13_at_9 rfl rfl ?_
  refine z_iadd (q := 11) dX13_at_10 rfl ?_
  exact z_iret rfl dX13_at_11 ⟨hl0, u1⟩
theorem b_X13_become_0 {D : zD} {d : Nat} {G : zG} {h : zH} {Q : zO → zG → zH → Prop} {x1 x2 : Int} (p1 : 0 ≤ x2) (p2 : x2 < 12) (p3 : 0 ≤ x1) (p4 : x1 < 12)
    (u1 : z_Y D M_X13_become d 26 [(0, 2, 88), (1, 0, x1), (2, 0, x2), (3, 0, 0)] [] G (z_wr (z_wr h 89 x1 (h 89 x2)) 90 x1 (h 90 x2)) Q) :
    z_Y D M_X13_become d 0 [(0, 2, 88), (1, 0, x1), (2, 0, x2)] [] G h Q := by
  intro hl0
  refine z_aload_n (q := 1) 0 dX13_become_0 rfl rfl ?_
  refine z_gf (q := 4) (ki := 0) (v := (2, 89)) fX13_9 rfl (z_ldr rfl (hl0.ref 81 rfl)) (hl0.i 88 (by decide) rfl) dX13_become_1 rfl ?_
  refine z_iload_n (q := 5) 1 dX13_become_4 rfl rfl ?_
  refine z_aload_n (q := 6) 0 dX13_become_5 rfl rfl ?_
  refine z_gf (q := 9) (ki := 0) (v := (2, 89)) fX13_9 rfl (z_ldr rfl (hl0.ref 81 rfl)) (hl0.i 88 (by decide) rfl) dX13_become_6 rfl ?_
  refine z_iload_n (q := 10) 2 dX13_become_9 rfl rfl ?_
  refine z_iald (q := 11) (hl0.a 89 (by decide) rfl) p1 p2 dX13_become_10 rfl ?_
  refine z_isn (q := 12) (hl0.i 89 (by decide) rfl) (hl0.n 89 (by decide) rfl) p3 p4 dX13_become_11 rfl ?_
  have hl1 := hl0.wr (v := (h 89 x2)) (hl0.i 89 (by decide) rfl) (i := x1) rfl
  refine z_aload_n (q := 13) 0 dX13_become_12 rfl rfl ?_
  refine z_gf (q := 16) (ki := 1) (v := (2, 90)) fX13_13 rfl (z_ldr rfl (hl1.ref 82 rfl)) (hl1.i 88 (by decide) rfl) dX13_become_13 rfl ?_
  refine z_iload_n (q := 17) 1 dX13_become_16 rfl rfl ?_
  refine z_aload_n (q := 18) 0 dX13_become_17 rfl rfl ?_
  refine z_gf (q := 21) (ki := 1) (v := (2, 90)) fX13_13 rfl (z_ldr rfl (hl1.ref 82 rfl)) (hl1.i 88 (by decide) rfl) dX13_become_18 rfl ?_
  refine z_iload_n (q := 22) 2 dX13_become_21 rfl rfl ?_
  refine z_iald (q := 23) (hl1.a 90 (by decide) rfl) p1 p2 dX13_become_22 rfl ?_
  refine z_isn (q := 24) (hl1.i 90 (by decide) rfl) (hl1.n 90 (by decide) rfl) p3 p4 dX13_become_23 rfl ?_
  have hl2 := hl1.wr (v := (h 90 x2)) (hl1.i 90 (by decide) rfl) (i := x1) rfl
  refine z_iconst (q := 25) dX13_become_24 rfl ?_
  refine z_istore_n (q := 26) (L' := [(0, 2, 88), (1, 0, x1), (2, 0, x2), (3, 0, 0)]) dX13_become_25 rfl (by decide) rfl ?_
  exact u1 hl2
theorem b_X13_become_26 {D : zD} {d : Nat} {G : zG} {h : zH} {Q : zO → zG → zH → Prop} {x1 x2 x3 : Int} (p1 : z_in x3) (p2 : ¬ (72 ≤ x3) → 0 ≤ ((72 * x2) + x3)) (p3 : ¬ (72 ≤ x3) → ((72 * x2) + x3) < 864) (p4 : ¬ (72 ≤ x3) → 0 ≤ ((72 * x1) + x3)) (p5 : ¬ (72 ≤ x3) → ((72 * x1) + x3) < 864)
    (u1 : 72 ≤ x3 → Q (.inl none) G h)
    (u2 : ¬ (72 ≤ x3) → z_Y D M_X13_become d 26 [(0, 2, 88), (1, 0, x1), (2, 0, x2), (3, 0, (x3 + 1))] [] G (z_wr h 91 ((72 * x1) + x3) (h 91 ((72 * x2) + x3))) Q) :
    z_Y D M_X13_become d 26 [(0, 2, 88), (1, 0, x1), (2, 0, x2), (3, 0, x3)] [] G h Q := by
  intro hl0
  refine z_iload_n (q := 27) 3 dX13_become_26 rfl rfl ?_
  refine z_bipush (q := 29) dX13_become_27 rfl (by decide) ?_
  refine z_icmp_ge (q := 32) (t := 60) p1 ⟨by decide, by decide⟩ dX13_become_29 (by decide) rfl (fun c1 => ?_) (fun c1 => ?_)
  · exact z_vret rfl dX13_become_60 ⟨hl0, u1 c1⟩
  · refine z_aload_n (q := 33) 0 dX13_become_32 rfl rfl ?_
    refine z_gf (q := 36) (ki := 2) (v := (2, 91)) fX13_16 rfl (z_ldr rfl (hl0.ref 83 rfl)) (hl0.i 88 (by decide) rfl) dX13_become_33 rfl ?_
    refine z_bipush (q := 38) dX13_become_36 rfl (by decide) ?_
    refine z_iload_n (q := 39) 1 dX13_become_38 rfl rfl ?_
    refine z_imul (q := 40) dX13_become_39 rfl ?_
    refine z_iload_n (q := 41) 3 dX13_become_40 rfl rfl ?_
    refine z_iadd (q := 42) dX13_become_41 rfl ?_
    refine z_aload_n (q := 43) 0 dX13_become_42 rfl rfl ?_
    refine z_gf (q := 46) (ki := 2) (v := (2, 91)) fX13_16 rfl (z_ldr rfl (hl0.ref 83 rfl)) (hl0.i 88 (by decide) rfl) dX13_become_43 rfl ?_
    refine z_bipush (q := 48) dX13_become_46 rfl (by decide) ?_
    refine z_iload_n (q := 49) 2 dX13_become_48 rfl rfl ?_
    refine z_imul (q := 50) dX13_become_49 rfl ?_
    refine z_iload_n (q := 51) 3 dX13_become_50 rfl rfl ?_
    refine z_iadd (q := 52) dX13_become_51 rfl ?_
    refine z_lald (q := 53) (hl0.a 91 (by decide) rfl) (p2 c1) (p3 c1) dX13_become_52 rfl ?_
    refine z_lsn (q := 54) (hl0.i 91 (by decide) rfl) (hl0.n 91 (by decide) rfl) (p4 c1) (p5 c1) dX13_become_53 rfl ?_
    have hl1 := hl0.wr (v := (h 91 ((72 * x2) + x3))) (hl0.i 91 (by decide) rfl) (i := ((72 * x1) + x3)) rfl
    refine z_iinc (q := 57) (L' := [(0, 2, 88), (1, 0, x1), (2, 0, x2), (3, 0, (x3 + 1))]) 3 dX13_become_54 rfl rfl (by decide) rfl ?_
    refine z_goto (t := 26) dX13_become_57 (by decide) ?_
    exact u2 c1 hl1
theorem b_X4_become_0 {D : zD} {d : Nat} {G : zG} {h : zH} {Q : zO → zG → zH → Prop} {x0 x1 : Int} (hd : 1 ≤ d) (p1 : z_is G x1 3) (p2 : z_is G x0 3) (p3 : 0 ≤ ((h x1 1) * ((z_wr h x0 1 (h x1 1)) x1 2))) (p4 : 0 + ((h x1 1) * ((z_wr h x0 1 (h x1 1)) x1 2)) ≤ 72)
    (u1 : Q (.inl none) G (z_cp (z_wr (z_wr h x0 1 (h x1 1)) x0 2 ((z_wr h x0 1 (h x1 1)) x1 2)) (x1 + 1) 0 (x0 + 1) 0 ((h x1 1) * ((z_wr h x0 1 (h x1 1)) x1 2)))) :
    z_Y D M_X4_become d 0 [(0, 2, x0), (1, 2, x1)] [] G h Q := by
  intro hl0
  refine z_aload_n (q := 1) 0 dX4_become_0 rfl rfl ?_
  refine z_aload_n (q := 2) 1 dX4_become_1 rfl rfl ?_
  refine z_gf (q := 5) (ki := 1) (v := (0, (h x1 1))) fX4_13 rfl rfl p1 dX4_become_2 rfl ?_
  refine z_pf (q := 8) (ki := 1) fX4_13 rfl (z_sv0 rfl) p2 dX4_become_5 rfl ?_
  have hl1 := hl0.wr (v := (h x1 1)) p2 (i := 1) (by decide)
  refine z_aload_n (q := 9) 0 dX4_become_8 rfl rfl ?_
  refine z_aload_n (q := 10) 1 dX4_become_9 rfl rfl ?_
  refine z_gf (q := 13) (ki := 2) (v := (0, ((z_wr h x0 1 (h x1 1)) x1 2))) fX4_17 rfl rfl p1 dX4_become_10 rfl ?_
  refine z_pf (q := 16) (ki := 2) fX4_17 rfl (z_sv0 rfl) p2 dX4_become_13 rfl ?_
  have hl2 := hl1.wr (v := ((z_wr h x0 1 (h x1 1)) x1 2)) p2 (i := 2) (by decide)
  refine z_aload_n (q := 17) 1 dX4_become_16 rfl rfl ?_
  refine z_gf (q := 20) (ki := 0) (v := (2, (x1 + 1))) fX4_9 rfl (z_ldr rfl (hl2.tab p1)) p1 dX4_become_17 rfl ?_
  refine z_iconst (q := 21) dX4_become_20 rfl ?_
  refine z_aload_n (q := 22) 0 dX4_become_21 rfl rfl ?_
  refine z_gf (q := 25) (ki := 0) (v := (2, (x0 + 1))) fX4_9 rfl (z_ldr rfl (hl2.tab p2)) p2 dX4_become_22 rfl ?_
  refine z_iconst (q := 26) dX4_become_25 rfl ?_
  refine z_aload_n (q := 27) 0 dX4_become_26 rfl rfl ?_
  refine z_gf (q := 30) (ki := 1) (v := (0, (h x1 1))) fX4_13 rfl (z_ldi rfl (by simp [z_wr])) p2 dX4_become_27 rfl ?_
  refine z_aload_n (q := 31) 0 dX4_become_30 rfl rfl ?_
  refine z_gf (q := 34) (ki := 2) (v := (0, ((z_wr h x0 1 (h x1 1)) x1 2))) fX4_17 rfl (z_ldi rfl (by simp [z_wr])) p2 dX4_become_31 rfl ?_
  refine z_imul (q := 35) dX4_become_34 rfl ?_
  refine z_copy (q := 38) 51 (by decide) (hl2.ti p1) (hl2.ti p2) (by decide) (by decide) p3 (by rw [(hl2.tn p1)]; exact p4) (by rw [(hl2.tn p2)]; exact p4) k512 k514 k513 k111 (by omega) (Nat.le_of_ble_eq_true rfl) dX4_become_35 rfl ?_
  have hl3 := hl2.cp (a := (x1 + 1)) (sp := 0) (dp := 0) (n := ((h x1 1) * ((z_wr h x0 1 (h x1 1)) x1 2))) (hl2.ti p2) (by decide)
  exact z_vret rfl dX4_become_38 ⟨hl3, u1⟩
theorem b_X13_in_0 {D : zD} {d : Nat} {G : zG} {h : zH} {Q : zO → zG → zH → Prop} {x0 x2 x4 : Int} (p1 : z_in64 x0) (p2 : z_in64 x2) (p3 : ¬ (x0 < x2) → z_in64 x4)
    (u1 : x0 < x2 → Q (.inl (some (0, 0))) G h)
    (u2 : ¬ (x0 < x2) → x4 < x0 → Q (.inl (some (0, 0))) G h)
    (u3 : ¬ (x0 < x2) → ¬ (x4 < x0) → Q (.inl (some (0, 1))) G h) :
    z_Y D M_X13_in d 0 [(0, 1, x0), (2, 1, x2), (4, 1, x4)] [] G h Q := by
  intro hl0
  refine z_lload_n (q := 1) 0 dX13_in_0 rfl rfl ?_
  refine z_lload_n (q := 2) 1 dX13_in_1 rfl rfl ?_
  refine z_lcmp_lt (q := 6) (t := 17) p1 p2 dX13_in_2 (rfl : _ = 3) dX13_in_3 (by decide) rfl (fun c1 => ?_) (fun c1 => ?_)
  · refine z_iconst (q := 18) dX13_in_17 rfl ?_
    exact z_bret rfl (by decide) dX13_in_18 ⟨hl0, u1 c1⟩
  · refine z_lload_n (q := 7) 0 dX13_in_6 rfl rfl ?_
    refine z_lload (q := 9) 2 dX13_in_7 rfl rfl ?_
    refine z_lcmp_gt (q := 13) (t := 17) p1 (p3 c1) dX13_in_9 (rfl : _ = 10) dX13_in_10 (by decide) rfl (fun c2 => ?_) (fun c2 => ?_)
    · refine z_iconst (q := 18) dX13_in_17 rfl ?_
      exact z_bret rfl (by decide) dX13_in_18 ⟨hl0, u2 c1 c2⟩
    · refine z_iconst (q := 14) dX13_in_13 rfl ?_
      refine z_goto (t := 18) dX13_in_14 (by decide) ?_
      exact z_bret rfl (by decide) dX13_in_18 ⟨hl0, u3 c1 c2⟩
theorem b_X4_isSame_0 {D : zD} {d : Nat} {G : zG} {h : zH} {Q : zO → zG → zH → Prop} {x0 x1 : Int} (p1 : z_is G x0 3) (p2 : z_is G x1 3) (p3 : z_in (h x0 1)) (p4 : z_in (h x1 1)) (p5 : ¬ (¬ (h x0 1) = (h x1 1)) → z_in (h x0 2)) (p6 : ¬ (¬ (h x0 1) = (h x1 1)) → z_in (h x1 2))
    (u1 : ¬ (h x0 1) = (h x1 1) → Q (.inl (some (0, 0))) G h)
    (u2 : ¬ (¬ (h x0 1) = (h x1 1)) → (h x0 2) = (h x1 2) → z_Y D M_X4_isSame d 26 [(0, 2, x0), (1, 2, x1), (2, 0, 0)] [] G h Q)
    (u3 : ¬ (¬ (h x0 1) = (h x1 1)) → ¬ ((h x0 2) = (h x1 2)) → Q (.inl (some (0, 0))) G h) :
    z_Y D M_X4_isSame d 0 [(0, 2, x0), (1, 2, x1)] [] G h Q := by
  intro hl0
  refine z_aload_n (q := 1) 0 dX4_isSame_0 rfl rfl ?_
  refine z_gf (q := 4) (ki := 1) (v := (0, (h x0 1))) fX4_13 rfl rfl p1 dX4_isSame_1 rfl ?_
  refine z_aload_n (q := 5) 1 dX4_isSame_4 rfl rfl ?_
  refine z_gf (q := 8) (ki := 1) (v := (0, (h x1 1))) fX4_13 rfl rfl p2 dX4_isSame_5 rfl ?_
  refine z_icmp_ne (q := 11) (t := 22) p3 p4 dX4_isSame_8 (by decide) rfl (fun c1 => ?_) (fun c1 => ?_)
  · refine z_iconst (q := 23) dX4_isSame_22 rfl ?_
    exact z_bret rfl (by decide) dX4_isSame_23 ⟨hl0, u1 c1⟩
  · refine z_aload_n (q := 12) 0 dX4_isSame_11 rfl rfl ?_
    refine z_gf (q := 15) (ki := 2) (v := (0, (h x0 2))) fX4_17 rfl rfl p1 dX4_isSame_12 rfl ?_
    refine z_aload_n (q := 16) 1 dX4_isSame_15 rfl rfl ?_
    refine z_gf (q := 19) (ki := 2) (v := (0, (h x1 2))) fX4_17 rfl rfl p2 dX4_isSame_16 rfl ?_
    refine z_icmp_eq (q := 22) (t := 24) (p5 c1) (p6 c1) dX4_isSame_19 (by decide) rfl (fun c2 => ?_) (fun c2 => ?_)
    · refine z_iconst (q := 25) dX4_isSame_24 rfl ?_
      refine z_istore_n (q := 26) (L' := [(0, 2, x0), (1, 2, x1), (2, 0, 0)]) dX4_isSame_25 rfl (by decide) rfl ?_
      exact u2 c1 c2 hl0
    · refine z_iconst (q := 23) dX4_isSame_22 rfl ?_
      exact z_bret rfl (by decide) dX4_isSame_23 ⟨hl0, u3 c1 c2⟩
theorem b_X4_isSame_26 {D : zD} {d : Nat} {G : zG} {h : zH} {Q : zO → zG → zH → Prop} {x0 x1 x2 : Int} (p1 : z_is G x0 3) (p2 : z_in x2) (p3 : z_in ((h x0 1) * (h x0 2))) (p4 : ¬ (((h x0 1) * (h x0 2)) ≤ x2) → 0 ≤ x2) (p5 : ¬ (((h x0 1) * (h x0 2)) ≤ x2) → x2 < 72) (p6 : ¬ (((h x0 1) * (h x0 2)) ≤ x2) → z_is G x1 3) (p7 : ¬ (((h x0 1) * (h x0 2)) ≤ x2) → z_in64 (h (x0 + 1) x2)) (p8 : ¬ (((h x0 1) * (h x0 2)) ≤ x2) → z_in64 (h (x1 + 1) x2))
    (u1 : ((h x0 1) * (h x0 2)) ≤ x2 → Q (.inl (some (0, 1))) G h)
    (u2 : ¬ (((h x0 1) * (h x0 2)) ≤ x2) → (h (x0 + 1) x2) = (h (x1 + 1) x2) → z_Y D M_X4_isSame d 26 [(0, 2, x0), (1, 2, x1), (2, 0, (x2 + 1))] [] G h Q)
    (u3 : ¬ (((h x0 1) * (h x0 2)) ≤ x2) → ¬ ((h (x0 + 1) x2) = (h (x1 + 1) x2)) → Q (.inl (some (0, 0))) G h) :
    z_Y D M_X4_isSame d 26 [(0, 2, x0), (1, 2, x1), (2, 0, x2)] [] G h Q := by
  intro hl0
  refine z_iload_n (q := 27) 2 dX4_isSame_26 rfl rfl ?_
  refine z_aload_n (q := 28) 0 dX4_isSame_27 rfl rfl ?_
  refine z_gf (q := 31) (ki := 1) (v := (0, (h x0 1))) fX4_13 rfl rfl p1 dX4_isSame_28 rfl ?_
  refine z_aload_n (q := 32) 0 dX4_isSame_31 rfl rfl ?_
  refine z_gf (q := 35) (ki := 2) (v := (0, (h x0 2))) fX4_17 rfl rfl p1 dX4_isSame_32 rfl ?_
  refine z_imul (q := 36) dX4_isSame_35 rfl ?_
  refine z_icmp_ge (q := 39) (t := 63) p2 p3 dX4_isSame_36 (by decide) rfl (fun c1 => ?_) (fun c1 => ?_)
  · refine z_iconst (q := 64) dX4_isSame_63 rfl ?_
    exact z_bret rfl (by decide) dX4_isSame_64 ⟨hl0, u1 c1⟩
  · refine z_aload_n (q := 40) 0 dX4_isSame_39 rfl rfl ?_
    refine z_gf (q := 43) (ki := 0) (v := (2, (x0 + 1))) fX4_9 rfl (z_ldr rfl (hl0.tab p1)) p1 dX4_isSame_40 rfl ?_
    refine z_iload_n (q := 44) 2 dX4_isSame_43 rfl rfl ?_
    refine z_lald (q := 45) (hl0.tat p1) (p4 c1) (p5 c1) dX4_isSame_44 rfl ?_
    refine z_aload_n (q := 46) 1 dX4_isSame_45 rfl rfl ?_
    refine z_gf (q := 49) (ki := 0) (v := (2, (x1 + 1))) fX4_9 rfl (z_ldr rfl (hl0.tab (p6 c1))) (p6 c1) dX4_isSame_46 rfl ?_
    refine z_iload_n (q := 50) 2 dX4_isSame_49 rfl rfl ?_
    refine z_lald (q := 51) (hl0.tat (p6 c1)) (p4 c1) (p5 c1) dX4_isSame_50 rfl ?_
    refine z_lcmp_eq (q := 55) (t := 57) (p7 c1) (p8 c1) dX4_isSame_51 (rfl : _ = 52) dX4_isSame_52 (by decide) rfl (fun c2 => ?_) (fun c2 => ?_)
    · refine z_iinc (q := 60) (L' := [(0, 2, x0), (1, 2, x1), (2, 0, (x2 + 1))]) 2 dX4_isSame_57 rfl rfl (by decide) rfl ?_
      refine z_goto (t := 26) dX4_isSame_60 (by decide) ?_
      exact u2 c1 c2 hl0
    · refine z_iconst (q := 56) dX4_isSame_55 rfl ?_
      exact z_bret rfl (by decide) dX4_isSame_56 ⟨hl0, u3 c1 c2⟩
theorem b_X4_rowsAgree_0 {D : zD} {d : Nat} {G : zG} {h : zH} {Q : zO → zG → zH → Prop} {x0 x1 x2 x3 x4 : Int} (p1 : z_in x1) (p2 : ¬ (x1 < 0) → z_is G x0 3) (p3 : ¬ (x1 < 0) → z_in (h x0 1)) (p4 : ¬ (x1 < 0) → ¬ ((h x0 1) ≤ x1) → z_in x2) (p5 : ¬ (x1 < 0) → ¬ ((h x0 1) ≤ x1) → ¬ (x2 < 0) → ¬ ((h x0 1) ≤ x2) → z_in x3) (p6 : ¬ (x1 < 0) → ¬ ((h x0 1) ≤ x1) → ¬ (x2 < 0) → ¬ ((h x0 1) ≤ x2) → ¬ (x3 < 0) → z_in x4) (p7 : ¬ (x1 < 0) → ¬ ((h x0 1) ≤ x1) → ¬ (x2 < 0) → ¬ ((h x0 1) ≤ x2) → ¬ (x3 < 0) → z_in (h x0 2))
    (u1 : x1 < 0 → Q (.inl (some (0, 0))) G h)
    (u2 : ¬ (x1 < 0) → (h x0 1) ≤ x1 → Q (.inl (some (0, 0))) G h)
    (u3 : ¬ (x1 < 0) → ¬ ((h x0 1) ≤ x1) → x2 < 0 → Q (.inl (some (0, 0))) G h)
    (u4 : ¬ (x1 < 0) → ¬ ((h x0 1) ≤ x1) → ¬ (x2 < 0) → (h x0 1) ≤ x2 → Q (.inl (some (0, 0))) G h)
    (u5 : ¬ (x1 < 0) → ¬ ((h x0 1) ≤ x1) → ¬ (x2 < 0) → ¬ ((h x0 1) ≤ x2) → x3 < 0 → Q (.inl (some (0, 0))) G h)
    (u6 : ¬ (x1 < 0) → ¬ ((h x0 1) ≤ x1) → ¬ (x2 < 0) → ¬ ((h x0 1) ≤ x2) → ¬ (x3 < 0) → x4 ≤ (h x0 2) → z_Y D M_X4_rowsAgree d 42 [(0, 2, x0), (1, 0, x1), (2, 0, x2), (4, 0, x4), (5, 0, x3)] [] G h Q)
    (u7 : ¬ (x1 < 0) → ¬ ((h x0 1) ≤ x1) → ¬ (x2 < 0) → ¬ ((h x0 1) ≤ x2) → ¬ (x3 < 0) → ¬ (x4 ≤ (h x0 2)) → Q (.inl (some (0, 0))) G h) :
    z_Y D M_X4_rowsAgree d 0 [(0, 2, x0), (1, 0, x1), (2, 0, x2), (3, 0, x3), (4, 0, x4)] [] G h Q := by
  intro hl0
  refine z_iload_n (q := 1) 1 dX4_rowsAgree_0 rfl rfl ?_
  refine z_if_lt (q := 4) (t := 37) p1 dX4_rowsAgree_1 (by decide) rfl (fun c1 => ?_) (fun c1 => ?_)
  · refine z_iconst (q := 38) dX4_rowsAgree_37 rfl ?_
    exact z_bret rfl (by decide) dX4_rowsAgree_38 ⟨hl0, u1 c1⟩
  · refine z_iload_n (q := 5) 1 dX4_rowsAgree_4 rfl rfl ?_
    refine z_aload_n (q := 6) 0 dX4_rowsAgree_5 rfl rfl ?_
    refine z_gf (q := 9) (ki := 1) (v := (0, (h x0 1))) fX4_13 rfl rfl (p2 c1) dX4_rowsAgree_6 rfl ?_
    refine z_icmp_ge (q := 12) (t := 37) p1 (p3 c1) dX4_rowsAgree_9 (by decide) rfl (fun c2 => ?_) (fun c2 => ?_)
    · refine z_iconst (q := 38) dX4_rowsAgree_37 rfl ?_
      exact z_bret rfl (by decide) dX4_rowsAgree_38 ⟨hl0, u2 c1 c2⟩
    · refine z_iload_n (q := 13) 2 dX4_rowsAgree_12 rfl rfl ?_
      refine z_if_lt (q := 16) (t := 37) (p4 c1 c2) dX4_rowsAgree_13 (by decide) rfl (fun c3 => ?_) (fun c3 => ?_)
      · refine z_iconst (q := 38) dX4_rowsAgree_37 rfl ?_
        exact z_bret rfl (by decide) dX4_rowsAgree_38 ⟨hl0, u3 c1 c2 c3⟩
      · refine z_iload_n (q := 17) 2 dX4_rowsAgree_16 rfl rfl ?_
        refine z_aload_n (q := 18) 0 dX4_rowsAgree_17 rfl rfl ?_
        refine z_gf (q := 21) (ki := 1) (v := (0, (h x0 1))) fX4_13 rfl rfl (p2 c1) dX4_rowsAgree_18 rfl ?_
        refine z_icmp_ge (q := 24) (t := 37) (p4 c1 c2) (p3 c1) dX4_rowsAgree_21 (by decide) rfl (fun c4 => ?_) (fun c4 => ?_)
        · refine z_iconst (q := 38) dX4_rowsAgree_37 rfl ?_
          exact z_bret rfl (by decide) dX4_rowsAgree_38 ⟨hl0, u4 c1 c2 c3 c4⟩
        · refine z_iload_n (q := 25) 3 dX4_rowsAgree_24 rfl rfl ?_
          refine z_if_lt (q := 28) (t := 37) (p5 c1 c2 c3 c4) dX4_rowsAgree_25 (by decide) rfl (fun c5 => ?_) (fun c5 => ?_)
          · refine z_iconst (q := 38) dX4_rowsAgree_37 rfl ?_
            exact z_bret rfl (by decide) dX4_rowsAgree_38 ⟨hl0, u5 c1 c2 c3 c4 c5⟩
          · refine z_iload (q := 30) 4 dX4_rowsAgree_28 rfl rfl ?_
            refine z_aload_n (q := 31) 0 dX4_rowsAgree_30 rfl rfl ?_
            refine z_gf (q := 34) (ki := 2) (v := (0, (h x0 2))) fX4_17 rfl rfl (p2 c1) dX4_rowsAgree_31 rfl ?_
            refine z_icmp_le (q := 37) (t := 39) (p6 c1 c2 c3 c4 c5) (p7 c1 c2 c3 c4 c5) dX4_rowsAgree_34 (by decide) rfl (fun c6 => ?_) (fun c6 => ?_)
            · refine z_iload_n (q := 40) 3 dX4_rowsAgree_39 rfl rfl ?_
              refine z_istore (q := 42) (L' := [(0, 2, x0), (1, 0, x1), (2, 0, x2), (3, 0, x3), (4, 0, x4), (5, 0, x3)]) dX4_rowsAgree_40 rfl (by decide) rfl ?_
              refine z_sub (L' := [(0, 2, x0), (1, 0, x1), (2, 0, x2), (4, 0, x4), (5, 0, x3)]) [0, 1, 2, 4, 5] rfl ?_
              exact u6 c1 c2 c3 c4 c5 c6 hl0
            · refine z_iconst (q := 38) dX4_rowsAgree_37 rfl ?_
              exact z_bret rfl (by decide) dX4_rowsAgree_38 ⟨hl0, u7 c1 c2 c3 c4 c5 c6⟩
theorem b_X4_rowsAgree_42 {D : zD} {d : Nat} {G : zG} {h : zH} {Q : zO → zG → zH → Prop} {x0 x1 x2 x4 x5 : Int} (p1 : z_in x5) (p2 : z_in x4) (p3 : ¬ (x4 ≤ x5) → z_is G x0 3) (p4 : ¬ (x4 ≤ x5) → 0 ≤ ((x1 * (h x0 2)) + x5)) (p5 : ¬ (x4 ≤ x5) → ((x1 * (h x0 2)) + x5) < 72) (p6 : ¬ (x4 ≤ x5) → 0 ≤ ((x2 * (h x0 2)) + x5)) (p7 : ¬ (x4 ≤ x5) → ((x2 * (h x0 2)) + x5) < 72) (p8 : ¬ (x4 ≤ x5) → z_in64 (h (x0 + 1) ((x1 * (h x0 2)) + x5))) (p9 : ¬ (x4 ≤ x5) → z_in64 (h (x0 + 1) ((x2 * (h x0 2)) + x5)))
    (u1 : x4 ≤ x5 → Q (.inl (some (0, 1))) G h)
    (u2 : ¬ (x4 ≤ x5) → (h (x0 + 1) ((x1 * (h x0 2)) + x5)) = (h (x0 + 1) ((x2 * (h x0 2)) + x5)) → z_Y D M_X4_rowsAgree d 42 [(0, 2, x0), (1, 0, x1), (2, 0, x2), (4, 0, x4), (5, 0, (x5 + 1))] [] G h Q)
    (u3 : ¬ (x4 ≤ x5) → ¬ ((h (x0 + 1) ((x1 * (h x0 2)) + x5)) = (h (x0 + 1) ((x2 * (h x0 2)) + x5))) → Q (.inl (some (0, 0))) G h) :
    z_Y D M_X4_rowsAgree d 42 [(0, 2, x0), (1, 0, x1), (2, 0, x2), (4, 0, x4), (5, 0, x5)] [] G h Q := by
  intro hl0
  refine z_iload (q := 44) 4 dX4_rowsAgree_42 rfl rfl ?_
  refine z_iload (q := 46) 3 dX4_rowsAgree_44 rfl rfl ?_
  refine z_icmp_ge (q := 49) (t := 89) p1 p2 dX4_rowsAgree_46 (by decide) rfl (fun c1 => ?_) (fun c1 => ?_)
  · refine z_iconst (q := 90) dX4_rowsAgree_89 rfl ?_
    exact z_bret rfl (by decide) dX4_rowsAgree_90 ⟨hl0, u1 c1⟩
  · refine z_aload_n (q := 50) 0 dX4_rowsAgree_49 rfl rfl ?_
    refine z_gf (q := 53) (ki := 0) (v := (2, (x0 + 1))) fX4_9 rfl (z_ldr rfl (hl0.tab (p3 c1))) (p3 c1) dX4_rowsAgree_50 rfl ?_
    refine z_iload_n (q := 54) 1 dX4_rowsAgree_53 rfl rfl ?_
    refine z_aload_n (q := 55) 0 dX4_rowsAgree_54 rfl rfl ?_
    refine z_gf (q := 58) (ki := 2) (v := (0, (h x0 2))) fX4_17 rfl rfl (p3 c1) dX4_rowsAgree_55 rfl ?_
    refine z_imul (q := 59) dX4_rowsAgree_58 rfl ?_
    refine z_iload (q := 61) 4 dX4_rowsAgree_59 rfl rfl ?_
    refine z_iadd (q := 62) dX4_rowsAgree_61 rfl ?_
    refine z_lald (q := 63) (hl0.tat (p3 c1)) (p4 c1) (p5 c1) dX4_rowsAgree_62 rfl ?_
    refine z_aload_n (q := 64) 0 dX4_rowsAgree_63 rfl rfl ?_
    refine z_gf (q := 67) (ki := 0) (v := (2, (x0 + 1))) fX4_9 rfl (z_ldr rfl (hl0.tab (p3 c1))) (p3 c1) dX4_rowsAgree_64 rfl ?_
    refine z_iload_n (q := 68) 2 dX4_rowsAgree_67 rfl rfl ?_
    refine z_aload_n (q := 69) 0 dX4_rowsAgree_68 rfl rfl ?_
    refine z_gf (q := 72) (ki := 2) (v := (0, (h x0 2))) fX4_17 rfl rfl (p3 c1) dX4_rowsAgree_69 rfl ?_
    refine z_imul (q := 73) dX4_rowsAgree_72 rfl ?_
    refine z_iload (q := 75) 4 dX4_rowsAgree_73 rfl rfl ?_
    refine z_iadd (q := 76) dX4_rowsAgree_75 rfl ?_
    refine z_lald (q := 77) (hl0.tat (p3 c1)) (p6 c1) (p7 c1) dX4_rowsAgree_76 rfl ?_
    refine z_lcmp_eq (q := 81) (t := 83) (p8 c1) (p9 c1) dX4_rowsAgree_77 (rfl : _ = 78) dX4_rowsAgree_78 (by decide) rfl (fun c2 => ?_) (fun c2 => ?_)
    · refine z_iinc (q := 86) (L' := [(0, 2, x0), (1, 0, x1), (2, 0, x2), (4, 0, x4), (5, 0, (x5 + 1))]) 4 dX4_rowsAgree_83 rfl rfl (by decide) rfl ?_
      refine z_goto (t := 42) dX4_rowsAgree_86 (by decide) ?_
      exact u2 c1 c2 hl0
    · refine z_iconst (q := 82) dX4_rowsAgree_81 rfl ?_
      exact z_bret rfl (by decide) dX4_rowsAgree_82 ⟨hl0, u3 c1 c2⟩
theorem b_X13_size_0 {D : zD} {d : Nat} {G : zG} {h : zH} {Q : zO → zG → zH → Prop} {x1 x2 : Int}
    (u1 : z_Ki D M_X13_isTable d [(0, x1)] G h (fun r G h => z_Y D M_X13_size d 4 [(0, 2, 88), (1, 0, x1), (2, 0, x2)] [(0, r)] G h Q)) :
    z_Y D M_X13_size d 0 [(0, 2, 88), (1, 0, x1), (2, 0, x2)] [] G h Q := by
  intro hl0
  refine z_iload_n (q := 1) 1 dX13_size_0 rfl rfl ?_
  exact z_goS (q := 4) (av := [(0, x1)]) (rest := []) z_toi hl0 (u1) mo_X13_isTable np_X13_isTable k1311 k1312 rfl (Nat.le_of_ble_eq_true rfl) dX13_size_1 rfl
theorem b_X13_size_4 {D : zD} {d : Nat} {G : zG} {h : zH} {Q : zO → zG → zH → Prop} {s0 x1 x2 : Int} (p1 : z_in s0) (p2 : ¬ s0 = 0 → z_in x2) (p3 : ¬ s0 = 0 → ¬ x2 = 0 → ¬ (¬ x2 = 1) → 0 ≤ x1) (p4 : ¬ s0 = 0 → ¬ x2 = 0 → ¬ (¬ x2 = 1) → x1 < 12) (p5 : ¬ s0 = 0 → ¬ (¬ x2 = 0) → 0 ≤ x1) (p6 : ¬ s0 = 0 → ¬ (¬ x2 = 0) → x1 < 12)
    (u1 : ¬ s0 = 0 → ¬ x2 = 0 → ¬ x2 = 1 → z_Ki D M_X13_in d [(1, x2), (1, 2), (1, 4)] G h (fun r G h => z_Y D M_X13_size d 43 [(0, 2, 88), (1, 0, x1), (2, 0, x2)] [(0, r)] G h Q))
    (u2 : ¬ s0 = 0 → ¬ x2 = 0 → ¬ (¬ x2 = 1) → Q (.inl (some (0, (h 90 x1)))) G h)
    (u3 : ¬ s0 = 0 → ¬ (¬ x2 = 0) → Q (.inl (some (0, (h 89 x1)))) G h)
    (u4 : ¬ (¬ s0 = 0) → Q (.inl (some (0, (-1)))) G h) :
    z_Y D M_X13_size d 4 [(0, 2, 88), (1, 0, x1), (2, 0, x2)] [(0, s0)] G h Q := by
  intro hl0
  refine z_if_ne (q := 7) (t := 9) p1 dX13_size_4 (by decide) rfl (fun c1 => ?_) (fun c1 => ?_)
  · refine z_iload_n (q := 10) 2 dX13_size_9 rfl rfl ?_
    refine z_if_ne (q := 13) (t := 20) (p2 c1) dX13_size_10 (by decide) rfl (fun c2 => ?_) (fun c2 => ?_)
    · refine z_iload_n (q := 21) 2 dX13_size_20 rfl rfl ?_
      refine z_iconst (q := 22) dX13_size_21 rfl ?_
      refine z_icmp_ne (q := 25) (t := 32) (p2 c1) ⟨by decide, by decide⟩ dX13_size_22 (by decide) rfl (fun c3 => ?_) (fun c3 => ?_)
      · refine z_iload_n (q := 33) 2 dX13_size_32 rfl rfl ?_
        refine z_i2l (q := 34) (p2 c1) dX13_size_33 rfl ?_
        refine z_ldc2 (q := 37) (n := 2) k1461 (by decide) dX13_size_34 rfl ?_
        refine z_ldc2 (q := 40) (n := 4) k1462 (by decide) dX13_size_37 rfl ?_
        exact z_goS (q := 43) (av := [(1, x2), (1, 2), (1, 4)]) (rest := []) z_toi hl0 (u1 c1 c2 c3) mo_X13_in np_X13_in k1300 k1301 rfl (Nat.le_of_ble_eq_true rfl) dX13_size_40 rfl
      · refine z_aload_n (q := 26) 0 dX13_size_25 rfl rfl ?_
        refine z_gf (q := 29) (ki := 1) (v := (2, 90)) fX13_13 rfl (z_ldr rfl (hl0.ref 82 rfl)) (hl0.i 88 (by decide) rfl) dX13_size_26 rfl ?_
        refine z_iload_n (q := 30) 1 dX13_size_29 rfl rfl ?_
        refine z_iald (q := 31) (hl0.a 90 (by decide) rfl) (p3 c1 c2 c3) (p4 c1 c2 c3) dX13_size_30 rfl ?_
        exact z_iret rfl dX13_size_31 ⟨hl0, u2 c1 c2 c3⟩
    · refine z_aload_n (q := 14) 0 dX13_size_13 rfl rfl ?_
      refine z_gf (q := 17) (ki := 0) (v := (2, 89)) fX13_9 rfl (z_ldr rfl (hl0.ref 81 rfl)) (hl0.i 88 (by decide) rfl) dX13_size_14 rfl ?_
      refine z_iload_n (q := 18) 1 dX13_size_17 rfl rfl ?_
      refine z_iald (q := 19) (hl0.a 89 (by decide) rfl) (p5 c1 c2) (p6 c1 c2) dX13_size_18 rfl ?_
      exact z_iret rfl dX13_size_19 ⟨hl0, u3 c1 c2⟩
  · refine z_iconst (q := 8) dX13_size_7 rfl ?_
    exact z_iret rfl dX13_size_8 ⟨hl0, u4 c1⟩
theorem b_X13_size_43 {D : zD} {d : Nat} {G : zG} {h : zH} {Q : zO → zG → zH → Prop} {s0 x1 x2 : Int} (p1 : z_in s0)
    (u1 : ¬ s0 = 0 → z_Y D M_X13_size d 53 [(0, 2, 88), (1, 0, x1), (2, 0, x2), (3, 0, 0), (4, 0, 0)] [] G h Q)
    (u2 : ¬ (¬ s0 = 0) → Q (.inl (some (0, (-1)))) G h) :
    z_Y D M_X13_size d 43 [(0, 2, 88), (1, 0, x1), (2, 0, x2)] [(0, s0)] G h Q := by
  intro hl0
  refine z_if_ne (q := 46) (t := 48) p1 dX13_size_43 (by decide) rfl (fun c1 => ?_) (fun c1 => ?_)
  · refine z_iconst (q := 49) dX13_size_48 rfl ?_
    refine z_istore_n (q := 50) (L' := [(0, 2, 88), (1, 0, x1), (2, 0, x2), (3, 0, 0)]) dX13_size_49 rfl (by decide) rfl ?_
    refine z_iconst (q := 51) dX13_size_50 rfl ?_
    refine z_istore (q := 53) (L' := [(0, 2, 88), (1, 0, x1), (2, 0, x2), (3, 0, 0), (4, 0, 0)]) dX13_size_51 rfl (by decide) rfl ?_
    exact u1 c1 hl0
  · refine z_iconst (q := 47) dX13_size_46 rfl ?_
    exact z_iret rfl dX13_size_47 ⟨hl0, u2 c1⟩
theorem b_X13_size_53 {D : zD} {d : Nat} {G : zG} {h : zH} {Q : zO → zG → zH → Prop} {x1 x2 x3 x4 : Int} (p1 : 0 ≤ x1) (p2 : x1 < 12) (p3 : z_in x4) (p4 : z_in (h 89 x1))
    (u1 : (h 89 x1) ≤ x4 → Q (.inl (some (0, x3))) G h)
    (u2 : ¬ ((h 89 x1) ≤ x4) → z_Y D M_X13_size d 67 [(0, 2, 88), (1, 0, x1), (2, 0, x2), (3, 0, x3), (4, 0, x4), (5, 0, 0)] [] G h Q) :
    z_Y D M_X13_size d 53 [(0, 2, 88), (1, 0, x1), (2, 0, x2), (3, 0, x3), (4, 0, x4)] [] G h Q := by
  intro hl0
  refine z_iload (q := 55) 4 dX13_size_53 rfl rfl ?_
  refine z_aload_n (q := 56) 0 dX13_size_55 rfl rfl ?_
  refine z_gf (q := 59) (ki := 0) (v := (2, 89)) fX13_9 rfl (z_ldr rfl (hl0.ref 81 rfl)) (hl0.i 88 (by decide) rfl) dX13_size_56 rfl ?_
  refine z_iload_n (q := 60) 1 dX13_size_59 rfl rfl ?_
  refine z_iald (q := 61) (hl0.a 89 (by decide) rfl) p1 p2 dX13_size_60 rfl ?_
  refine z_icmp_ge (q := 64) (t := 152) p3 p4 dX13_size_61 (by decide) rfl (fun c1 => ?_) (fun c1 => ?_)
  · refine z_iload_n (q := 153) 3 dX13_size_152 rfl rfl ?_
    exact z_iret rfl dX13_size_153 ⟨hl0, u1 c1⟩
  · refine z_iconst (q := 65) dX13_size_64 rfl ?_
    refine z_istore (q := 67) (L' := [(0, 2, 88), (1, 0, x1), (2, 0, x2), (3, 0, x3), (4, 0, x4), (5, 0, 0)]) dX13_size_65 rfl (by decide) rfl ?_
    exact u2 c1 hl0
theorem b_X13_size_67 {D : zD} {d : Nat} {G : zG} {h : zH} {Q : zO → zG → zH → Prop} {x1 x2 x3 x4 x5 : Int} (p1 : 0 ≤ x1) (p2 : x1 < 12) (p3 : z_in x5) (p4 : z_in (h 90 x1))
    (u1 : (h 90 x1) ≤ x5 → z_Y D M_X13_size d 53 [(0, 2, 88), (1, 0, x1), (2, 0, x2), (3, 0, x3), (4, 0, (x4 + 1))] [] G h Q)
    (u2 : ¬ ((h 90 x1) ≤ x5) → z_Ki D M_X13_at d [(0, x1), (0, x4), (0, x5)] G h (fun r G h => z_Y D M_X13_size d 90 [(0, 2, 88), (1, 0, x1), (2, 0, x2), (3, 0, x3), (4, 0, x4), (5, 0, x5)] [(0, r), (2, 91)] G h Q)) :
    z_Y D M_X13_size d 67 [(0, 2, 88), (1, 0, x1), (2, 0, x2), (3, 0, x3), (4, 0, x4), (5, 0, x5)] [] G h Q := by
  intro hl0
  refine z_iload (q := 69) 5 dX13_size_67 rfl rfl ?_
  refine z_aload_n (q := 70) 0 dX13_size_69 rfl rfl ?_
  refine z_gf (q := 73) (ki := 1) (v := (2, 90)) fX13_13 rfl (z_ldr rfl (hl0.ref 82 rfl)) (hl0.i 88 (by decide) rfl) dX13_size_70 rfl ?_
  refine z_iload_n (q := 74) 1 dX13_size_73 rfl rfl ?_
  refine z_iald (q := 75) (hl0.a 90 (by decide) rfl) p1 p2 dX13_size_74 rfl ?_
  refine z_icmp_ge (q := 78) (t := 146) p3 p4 dX13_size_75 (by decide) rfl (fun c1 => ?_) (fun c1 => ?_)
  · refine z_iinc (q := 149) (L' := [(0, 2, 88), (1, 0, x1), (2, 0, x2), (3, 0, x3), (4, 0, (x4 + 1)), (5, 0, x5)]) 4 dX13_size_146 rfl rfl (by decide) rfl ?_
    refine z_goto (t := 53) dX13_size_149 (by decide) ?_
    refine z_sub (L' := [(0, 2, 88), (1, 0, x1), (2, 0, x2), (3, 0, x3), (4, 0, (x4 + 1))]) [0, 1, 2, 3, 4] rfl ?_
    exact u1 c1 hl0
  · refine z_aload_n (q := 79) 0 dX13_size_78 rfl rfl ?_
    refine z_gf (q := 82) (ki := 2) (v := (2, 91)) fX13_16 rfl (z_ldr rfl (hl0.ref 83 rfl)) (hl0.i 88 (by decide) rfl) dX13_size_79 rfl ?_
    refine z_iload_n (q := 83) 1 dX13_size_82 rfl rfl ?_
    refine z_iload (q := 85) 4 dX13_size_83 rfl rfl ?_
    refine z_iload (q := 87) 5 dX13_size_85 rfl rfl ?_
    exact z_goS (q := 90) (av := [(0, x1), (0, x4), (0, x5)]) (rest := [(2, 91)]) z_toi hl0 (u2 c1) mo_X13_at np_X13_at k1345 k1346 rfl (Nat.le_of_ble_eq_true rfl) dX13_size_87 rfl
theorem b_X13_size_90 {D : zD} {d : Nat} {G : zG} {h : zH} {Q : zO → zG → zH → Prop} {s0 s1 x1 x2 x3 x4 x5 : Int} (p1 : z_is G s0 51) (p2 : 0 ≤ s1) (p3 : s1 < (G.2.2.2 s0)) (p4 : z_in x2) (p5 : ¬ (¬ x2 = 2) → z_in64 (h s0 s1))
    (u1 : ¬ x2 = 2 → z_Y D M_X13_size d 106 [(0, 2, 88), (1, 0, x1), (2, 0, x2), (4, 0, x4), (5, 0, x5), (6, 1, (h s0 s1))] [(0, x3)] G h Q)
    (u2 : ¬ (¬ x2 = 2) → (h s0 s1) = 0 → z_Y D M_X13_size d 133 [(0, 2, 88), (1, 0, x1), (2, 0, x2), (4, 0, x4), (5, 0, x5)] [(0, x3)] G h Q)
    (u3 : ¬ (¬ x2 = 2) → ¬ ((h s0 s1) = 0) → z_Y D M_X13_size d 106 [(0, 2, 88), (1, 0, x1), (2, 0, x2), (4, 0, x4), (5, 0, x5), (6, 1, (h s0 s1))] [(0, x3)] G h Q) :
    z_Y D M_X13_size d 90 [(0, 2, 88), (1, 0, x1), (2, 0, x2), (3, 0, x3), (4, 0, x4), (5, 0, x5)] [(0, s1), (2, s0)] G h Q := by
  intro hl0
  refine z_lald (q := 91) (z_ati p1) p2 p3 dX13_size_90 rfl ?_
  refine z_lstore (q := 93) (L' := [(0, 2, 88), (1, 0, x1), (2, 0, x2), (3, 0, x3), (4, 0, x4), (5, 0, x5), (6, 1, (h s0 s1))]) dX13_size_91 rfl (by decide) rfl ?_
  refine z_iload_n (q := 94) 3 dX13_size_93 rfl rfl ?_
  refine z_iload_n (q := 95) 2 dX13_size_94 rfl rfl ?_
  refine z_iconst (q := 96) dX13_size_95 rfl ?_
  refine z_icmp_ne (q := 99) (t := 106) p4 ⟨by decide, by decide⟩ dX13_size_96 (by decide) rfl (fun c1 => ?_) (fun c1 => ?_)
  · refine z_sub (L' := [(0, 2, 88), (1, 0, x1), (2, 0, x2), (4, 0, x4), (5, 0, x5), (6, 1, (h s0 s1))]) [0, 1, 2, 4, 5, 6] rfl ?_
    exact u1 c1 hl0
  · refine z_lload (q := 101) 6 dX13_size_99 rfl rfl ?_
    refine z_lconst0 (q := 102) dX13_size_101 rfl ?_
    refine z_lcmp_eq (q := 106) (t := 133) (p5 c1) ⟨by decide, by decide⟩ dX13_size_102 (rfl : _ = 103) dX13_size_103 (by decide) rfl (fun c2 => ?_) (fun c2 => ?_)
    · refine z_sub (L' := [(0, 2, 88), (1, 0, x1), (2, 0, x2), (4, 0, x4), (5, 0, x5)]) [0, 1, 2, 4, 5] rfl ?_
      exact u2 c1 c2 hl0
    · refine z_sub (L' := [(0, 2, 88), (1, 0, x1), (2, 0, x2), (4, 0, x4), (5, 0, x5), (6, 1, (h s0 s1))]) [0, 1, 2, 4, 5, 6] rfl ?_
      exact u3 c1 c2 hl0
theorem b_X13_size_106 {D : zD} {d : Nat} {G : zG} {h : zH} {Q : zO → zG → zH → Prop} {s0 x1 x2 x4 x5 x6 : Int} (p1 : z_in x2)
    (u1 : ¬ x2 = 3 → z_Y D M_X13_size d 119 [(0, 2, 88), (1, 0, x1), (2, 0, x2), (4, 0, x4), (5, 0, x5), (6, 1, x6)] [(0, s0)] G h Q)
    (u2 : ¬ (¬ x2 = 3) → z_Ki D M_X13_isNumber d [(1, x6)] G h (fun r G h => z_Y D M_X13_size d 116 [(0, 2, 88), (1, 0, x1), (2, 0, x2), (4, 0, x4), (5, 0, x5), (6, 1, x6)] [(0, r), (0, s0)] G h Q)) :
    z_Y D M_X13_size d 106 [(0, 2, 88), (1, 0, x1), (2, 0, x2), (4, 0, x4), (5, 0, x5), (6, 1, x6)] [(0, s0)] G h Q := by
  intro hl0
  refine z_iload_n (q := 107) 2 dX13_size_106 rfl rfl ?_
  refine z_iconst (q := 108) dX13_size_107 rfl ?_
  refine z_icmp_ne (q := 111) (t := 119) p1 ⟨by decide, by decide⟩ dX13_size_108 (by decide) rfl (fun c1 => ?_) (fun c1 => ?_)
  · exact u1 c1 hl0
  · refine z_lload (q := 113) 5 dX13_size_111 rfl rfl ?_
    exact z_goS (q := 116) (av := [(1, x6)]) (rest := [(0, s0)]) z_toi hl0 (u2 c1) mo_X13_isNumber np_X13_isNumber k1463 k1464 rfl (Nat.le_of_ble_eq_true rfl) dX13_size_113 rfl
theorem b_X13_size_133 {D : zD} {d : Nat} {G : zG} {h : zH} {Q : zO → zG → zH → Prop} {s0 x1 x2 x4 x5 : Int}
    (u1 : z_Y D M_X13_size d 138 [(0, 2, 88), (1, 0, x1), (2, 0, x2), (4, 0, x4), (5, 0, x5)] [(0, 1), (0, s0)] G h Q) :
    z_Y D M_X13_size d 133 [(0, 2, 88), (1, 0, x1), (2, 0, x2), (4, 0, x4), (5, 0, x5)] [(0, s0)] G h Q := by
  intro hl0
  refine z_iconst (q := 134) dX13_size_133 rfl ?_
  refine z_goto (t := 138) dX13_size_134 (by decide) ?_
  exact u1 hl0
theorem b_X13_size_119 {D : zD} {d : Nat} {G : zG} {h : zH} {Q : zO → zG → zH → Prop} {s0 x1 x2 x4 x5 x6 : Int} (p1 : z_in x2) (p2 : ¬ (¬ x2 = 4) → z_in64 x6)
    (u1 : ¬ x2 = 4 → z_Y D M_X13_size d 137 [(0, 2, 88), (1, 0, x1), (2, 0, x2), (4, 0, x4), (5, 0, x5)] [(0, s0)] G h Q)
    (u2 : ¬ (¬ x2 = 4) → ¬ x6 = (-1) → z_Y D M_X13_size d 137 [(0, 2, 88), (1, 0, x1), (2, 0, x2), (4, 0, x4), (5, 0, x5)] [(0, s0)] G h Q)
    (u3 : ¬ (¬ x2 = 4) → ¬ (¬ x6 = (-1)) → z_Y D M_X13_size d 133 [(0, 2, 88), (1, 0, x1), (2, 0, x2), (4, 0, x4), (5, 0, x5)] [(0, s0)] G h Q) :
    z_Y D M_X13_size d 119 [(0, 2, 88), (1, 0, x1), (2, 0, x2), (4, 0, x4), (5, 0, x5), (6, 1, x6)] [(0, s0)] G h Q := by
  intro hl0
  refine z_iload_n (q := 120) 2 dX13_size_119 rfl rfl ?_
  refine z_iconst (q := 121) dX13_size_120 rfl ?_
  refine z_icmp_ne (q := 124) (t := 137) p1 ⟨by decide, by decide⟩ dX13_size_121 (by decide) rfl (fun c1 => ?_) (fun c1 => ?_)
  · refine z_sub (L' := [(0, 2, 88), (1, 0, x1), (2, 0, x2), (4, 0, x4), (5, 0, x5)]) [0, 1, 2, 3, 4] rfl ?_
    exact u1 c1 hl0
  · refine z_lload (q := 126) 5 dX13_size_124 rfl rfl ?_
    refine z_ldc2 (q := 129) (n := (-1)) k1327 (by decide) dX13_size_126 rfl ?_
    refine z_lcmp_ne (q := 133) (t := 137) (p2 c1) ⟨by decide, by decide⟩ dX13_size_129 (rfl : _ = 130) dX13_size_130 (by decide) rfl (fun c2 => ?_) (fun c2 => ?_)
    · refine z_sub (L' := [(0, 2, 88), (1, 0, x1), (2, 0, x2), (4, 0, x4), (5, 0, x5)]) [0, 1, 2, 3, 4] rfl ?_
      exact u2 c1 c2 hl0
    · refine z_sub (L' := [(0, 2, 88), (1, 0, x1), (2, 0, x2), (4, 0, x4), (5, 0, x5)]) [0, 1, 2, 3, 4] rfl ?_
      exact u3 c1 c2 hl0
theorem b_X13_size_116 {D : zD} {d : Nat} {G : zG} {h : zH} {Q : zO → zG → zH → Prop} {s0 s1 x1 x2 x4 x5 x6 : Int} (p1 : z_in s1)
    (u1 : ¬ s1 = 0 → z_Y D M_X13_size d 133 [(0, 2, 88), (1, 0, x1), (2, 0, x2), (4, 0, x4), (5, 0, x5)] [(0, s0)] G h Q)
    (u2 : ¬ (¬ s1 = 0) → z_Y D M_X13_size d 119 [(0, 2, 88), (1, 0, x1), (2, 0, x2), (4, 0, x4), (5, 0, x5), (6, 1, x6)] [(0, s0)] G h Q) :
    z_Y D M_X13_size d 116 [(0, 2, 88), (1, 0, x1), (2, 0, x2), (4, 0, x4), (5, 0, x5), (6, 1, x6)] [(0, s1), (0, s0)] G h Q := by
  intro hl0
  refine z_if_ne (q := 119) (t := 133) p1 dX13_size_116 (by decide) rfl (fun c1 => ?_) (fun c1 => ?_)
  · refine z_sub (L' := [(0, 2, 88), (1, 0, x1), (2, 0, x2), (4, 0, x4), (5, 0, x5)]) [0, 1, 2, 3, 4] rfl ?_
    exact u1 c1 hl0
  · exact u2 c1 hl0
theorem b_X13_size_138 {D : zD} {d : Nat} {G : zG} {h : zH} {Q : zO → zG → zH → Prop} {s0 s1 x1 x2 x4 x5 : Int}
    (u1 : z_Y D M_X13_size d 67 [(0, 2, 88), (1, 0, x1), (2, 0, x2), (3, 0, (s0 + s1)), (4, 0, x4), (5, 0, (x5 + 1))] [] G h Q) :
    z_Y D M_X13_size d 138 [(0, 2, 88), (1, 0, x1), (2, 0, x2), (4, 0, x4), (5, 0, x5)] [(0, s1), (0, s0)] G h Q := by
  intro hl0
  refine z_iadd (q := 139) dX13_size_138 rfl ?_
  refine z_istore_n (q := 140) (L' := [(0, 2, 88), (1, 0, x1), (2, 0, x2), (3, 0, (s0 + s1)), (4, 0, x4), (5, 0, x5)]) dX13_size_139 rfl (by decide) rfl ?_
  refine z_iinc (q := 143) (L' := [(0, 2, 88), (1, 0, x1), (2, 0, x2), (3, 0, (s0 + s1)), (4, 0, x4), (5, 0, (x5 + 1))]) 5 dX13_size_140 rfl rfl (by decide) rfl ?_
  refine z_goto (t := 67) dX13_size_143 (by decide) ?_
  exact u1 hl0
theorem b_X13_size_137 {D : zD} {d : Nat} {G : zG} {h : zH} {Q : zO → zG → zH → Prop} {s0 x1 x2 x4 x5 : Int}
    (u1 : z_Y D M_X13_size d 138 [(0, 2, 88), (1, 0, x1), (2, 0, x2), (4, 0, x4), (5, 0, x5)] [(0, 0), (0, s0)] G h Q) :
    z_Y D M_X13_size d 137 [(0, 2, 88), (1, 0, x1), (2, 0, x2), (4, 0, x4), (5, 0, x5)] [(0, s0)] G h Q := by
  intro hl0
  refine z_iconst (q := 138) dX13_size_137 rfl ?_
  exact u1 hl0
theorem b_X1_arrive_0 {D : zD} {d : Nat} {G : zG} {h : zH} {Q : zO → zG → zH → Prop} {x1 x2 x3 : Int}
    (u1 : z_Ki D M_X1_mixOfMade d [(2, 33)] G h (fun r G h => z_Y D M_X1_arrive d 4 [(0, 2, 33), (1, 2, x1), (2, 0, x2), (3, 0, x3)] [(0, r)] G h Q)) :
    z_Y D M_X1_arrive d 0 [(0, 2, 33), (1, 2, x1), (2, 0, x2), (3, 0, x3)] [] G h Q := by
  intro hl0
  refine z_aload_n (q := 1) 0 dX1_arrive_0 rfl rfl ?_
  exact z_goV (q := 4) (av := []) (rest := []) cb0 (hl0.i 33 (by decide) rfl) z_toi hl0 (u1) mo_X1_mixOfMade np_X1_mixOfMade k905 k907 k27 rfl (Nat.le_of_ble_eq_true rfl) dX1_arrive_1 rfl
theorem b_X1_arrive_4 {D : zD} {d : Nat} {G : zG} {h : zH} {Q : zO → zG → zH → Prop} {s0 x1 x2 x3 : Int}
    (u1 : z_Ki D M_X1_slotOf d [(2, 33), (0, s0)] G h (fun r G h => z_Y D M_X1_arrive d 12 [(0, 2, 33), (1, 2, x1), (2, 0, x2), (3, 0, x3), (4, 0, s0)] [(0, r)] G h Q)) :
    z_Y D M_X1_arrive d 4 [(0, 2, 33), (1, 2, x1), (2, 0, x2), (3, 0, x3)] [(0, s0)] G h Q := by
  intro hl0
  refine z_istore (q := 6) (L' := [(0, 2, 33), (1, 2, x1), (2, 0, x2), (3, 0, x3), (4, 0, s0)]) dX1_arrive_4 rfl (by decide) rfl ?_
  refine z_aload_n (q := 7) 0 dX1_arrive_6 rfl rfl ?_
  refine z_iload (q := 9) 4 dX1_arrive_7 rfl rfl ?_
  exact z_goV (q := 12) (av := [(0, s0)]) (rest := []) cb0 (hl0.i 33 (by decide) rfl) z_toi hl0 (u1) mo_X1_slotOf np_X1_slotOf k913 k915 k28 rfl (Nat.le_of_ble_eq_true rfl) dX1_arrive_9 rfl
theorem b_X1_arrive_12 {D : zD} {d : Nat} {G : zG} {h : zH} {Q : zO → zG → zH → Prop} {s0 x1 x2 x3 x4 : Int} (p1 : 0 ≤ s0) (p2 : s0 < 4096) (p3 : z_in (h 49 s0))
    (u1 : ¬ (h 49 s0) = 0 → z_Y D M_X1_arrive d 37 [(0, 2, 33), (1, 2, x1), (2, 0, x2), (3, 0, x3), (5, 0, s0)] [] G h Q)
    (u2 : ¬ (¬ (h 49 s0) = 0) → z_Ki D M_X1_addState d [(2, 33), (0, s0), (0, x4)] G h (fun r G h => z_Y D M_X1_arrive d 32 [(0, 2, 33), (1, 2, x1), (2, 0, x2), (3, 0, x3), (5, 0, s0)] [(0, r)] G h Q)) :
    z_Y D M_X1_arrive d 12 [(0, 2, 33), (1, 2, x1), (2, 0, x2), (3, 0, x3), (4, 0, x4)] [(0, s0)] G h Q := by
  intro hl0
  refine z_istore (q := 14) (L' := [(0, 2, 33), (1, 2, x1), (2, 0, x2), (3, 0, x3), (4, 0, x4), (5, 0, s0)]) dX1_arrive_12 rfl (by decide) rfl ?_
  refine z_aload_n (q := 15) 0 dX1_arrive_14 rfl rfl ?_
  refine z_gf (q := 18) (ki := 10) (v := (2, 49)) fX1_46 rfl (z_ldr rfl (hl0.ref 45 rfl)) (hl0.i 33 (by decide) rfl) dX1_arrive_15 rfl ?_
  refine z_iload (q := 20) 5 dX1_arrive_18 rfl rfl ?_
  refine z_iald (q := 21) (hl0.a 49 (by decide) rfl) p1 p2 dX1_arrive_20 rfl ?_
  refine z_if_ne (q := 24) (t := 37) p3 dX1_arrive_21 (by decide) rfl (fun c1 => ?_) (fun c1 => ?_)
  · refine z_sub (L' := [(0, 2, 33), (1, 2, x1), (2, 0, x2), (3, 0, x3), (5, 0, s0)]) [0, 1, 2, 3, 5] rfl ?_
    exact u1 c1 hl0
  · refine z_aload_n (q := 25) 0 dX1_arrive_24 rfl rfl ?_
    refine z_iload (q := 27) 5 dX1_arrive_25 rfl rfl ?_
    refine z_iload (q := 29) 4 dX1_arrive_27 rfl rfl ?_
    refine z_sub (L' := [(0, 2, 33), (1, 2, x1), (2, 0, x2), (3, 0, x3), (5, 0, s0)]) [0, 1, 2, 3, 5] rfl ?_
    exact z_goV (q := 32) (av := [(0, s0), (0, x4)]) (rest := []) cb0 (hl0.i 33 (by decide) rfl) z_toi hl0 (u2 c1) mo_X1_addState np_X1_addState k926 k928 k30 rfl (Nat.le_of_ble_eq_true rfl) dX1_arrive_29 rfl
theorem b_X1_arrive_37 {D : zD} {d : Nat} {G : zG} {h : zH} {Q : zO → zG → zH → Prop} {x1 x2 x3 x5 : Int} (hd : 1 ≤ d) (p1 : 0 ≤ x5) (p2 : x5 < 4096) (p3 : z_in ((h 49 x5) - 1)) (p4 : z_in x3) (p5 : ¬ (((h 49 x5) - 1) < x3) → 0 ≤ ((h 49 x5) - 1)) (p6 : ¬ (((h 49 x5) - 1) < x3) → ((h 49 x5) - 1) < 1500) (p7 : ¬ (((h 49 x5) - 1) < x3) → z_is G (h 48 ((h 49 x5) - 1)) 1) (p8 : ¬ (((h 49 x5) - 1) < x3) → z_is G x1 1) (p9 : ¬ (((h 49 x5) - 1) < x3) → z_in ((h (h 48 ((h 49 x5) - 1)) 6) + (h x1 6)))
    (u1 : ((h 49 x5) - 1) < x3 → Q (.inl (some (0, 1))) G h)
    (u2 : ¬ (((h 49 x5) - 1) < x3) → z_Kv D M_X1_addEdge d [(2, 33), (0, x2), (0, ((h 49 x5) - 1))] G (z_wr h (h 48 ((h 49 x5) - 1)) 6 (if ((h (h 48 ((h 49 x5) - 1)) 6) + (h x1 6)) < 1000000 then ((h (h 48 ((h 49 x5) - 1)) 6) + (h x1 6)) else 1000000)) (fun G h => z_Y D M_X1_arrive d 91 [] [] G h Q)) :
    z_Y D M_X1_arrive d 37 [(0, 2, 33), (1, 2, x1), (2, 0, x2), (3, 0, x3), (5, 0, x5)] [] G h Q := by
  intro hl0
  refine z_aload_n (q := 38) 0 dX1_arrive_37 rfl rfl ?_
  refine z_gf (q := 41) (ki := 10) (v := (2, 49)) fX1_46 rfl (z_ldr rfl (hl0.ref 45 rfl)) (hl0.i 33 (by decide) rfl) dX1_arrive_38 rfl ?_
  refine z_iload (q := 43) 4 dX1_arrive_41 rfl rfl ?_
  refine z_iald (q := 44) (hl0.a 49 (by decide) rfl) p1 p2 dX1_arrive_43 rfl ?_
  refine z_iconst (q := 45) dX1_arrive_44 rfl ?_
  refine z_isub (q := 46) dX1_arrive_45 rfl ?_
  refine z_istore (q := 48) (L' := [(0, 2, 33), (1, 2, x1), (2, 0, x2), (3, 0, x3), (5, 0, x5), (6, 0, ((h 49 x5) - 1))]) dX1_arrive_46 rfl (by decide) rfl ?_
  refine z_iload (q := 50) 5 dX1_arrive_48 rfl rfl ?_
  refine z_iload_n (q := 51) 3 dX1_arrive_50 rfl rfl ?_
  refine z_icmp_lt (q := 54) (t := 91) p3 p4 dX1_arrive_51 (by decide) rfl (fun c1 => ?_) (fun c1 => ?_)
  · refine z_iconst (q := 92) dX1_arrive_91 rfl ?_
    exact z_bret rfl (by decide) dX1_arrive_92 ⟨hl0, u1 c1⟩
  · refine z_aload_n (q := 55) 0 dX1_arrive_54 rfl rfl ?_
    refine z_gf (q := 58) (ki := 9) (v := (2, 48)) fX1_42 rfl (z_ldr rfl (hl0.ref 44 rfl)) (hl0.i 33 (by decide) rfl) dX1_arrive_55 rfl ?_
    refine z_iload (q := 60) 5 dX1_arrive_58 rfl rfl ?_
    refine z_aald (q := 61) 56 (by decide) (by decide) (hl0.a 48 (by decide) rfl) (p5 c1) (p6 c1) dX1_arrive_60 rfl ?_
    refine z_ldc (q := 63) (n := 1000000) k989 (by decide) dX1_arrive_61 rfl ?_
    refine z_aload_n (q := 64) 0 dX1_arrive_63 rfl rfl ?_
    refine z_gf (q := 67) (ki := 9) (v := (2, 48)) fX1_42 rfl (z_ldr rfl (hl0.ref 44 rfl)) (hl0.i 33 (by decide) rfl) dX1_arrive_64 rfl ?_
    refine z_iload (q := 69) 5 dX1_arrive_67 rfl rfl ?_
    refine z_aald (q := 70) 56 (by decide) (by decide) (hl0.a 48 (by decide) rfl) (p5 c1) (p6 c1) dX1_arrive_69 rfl ?_
    refine z_gf (q := 73) (ki := 6) (v := (0, (h (h 48 ((h 49 x5) - 1)) 6))) fX1_114 rfl rfl (p7 c1) dX1_arrive_70 rfl ?_
    refine z_aload_n (q := 74) 1 dX1_arrive_73 rfl rfl ?_
    refine z_gf (q := 77) (ki := 6) (v := (0, (h x1 6))) fX1_114 rfl rfl (p8 c1) dX1_arrive_74 rfl ?_
    refine z_iadd (q := 78) dX1_arrive_77 rfl ?_
    refine z_min (q := 81) ⟨by decide, by decide⟩ (p9 c1) k990 k981 k117 k982 (by omega) (Nat.le_of_ble_eq_true rfl) dX1_arrive_78 rfl ?_
    refine z_pf (q := 84) (ki := 6) fX1_114 rfl (z_sv0 rfl) (p7 c1) dX1_arrive_81 rfl ?_
    have hl1 := hl0.wr (v := (if ((h (h 48 ((h 49 x5) - 1)) 6) + (h x1 6)) < 1000000 then ((h (h 48 ((h 49 x5) - 1)) 6) + (h x1 6)) else 1000000)) (p7 c1) (i := 6) (by decide)
    refine z_aload_n (q := 85) 0 dX1_arrive_84 rfl rfl ?_
    refine z_iload_n (q := 86) 2 dX1_arrive_85 rfl rfl ?_
    refine z_iload (q := 88) 5 dX1_arrive_86 rfl rfl ?_
    refine z_sub (L' := []) [] rfl ?_
    exact z_goV (q := 91) (av := [(0, x2), (0, ((h 49 x5) - 1))]) (rest := []) cb0 (hl1.i 33 (by decide) rfl) z_tov hl1 (u2 c1) mo_X1_addEdge np_X1_addEdge k1030 k1032 k36 rfl (Nat.le_of_ble_eq_true rfl) dX1_arrive_88 rfl
theorem b_X1_arrive_32 {D : zD} {d : Nat} {G : zG} {h : zH} {Q : zO → zG → zH → Prop} {s0 x1 x2 x3 x5 : Int} (p1 : z_in s0)
    (u1 : ¬ s0 = 0 → z_Y D M_X1_arrive d 37 [(0, 2, 33), (1, 2, x1), (2, 0, x2), (3, 0, x3), (5, 0, x5)] [] G h Q)
    (u2 : ¬ (¬ s0 = 0) → Q (.inl (some (0, 0))) G h) :
    z_Y D M_X1_arrive d 32 [(0, 2, 33), (1, 2, x1), (2, 0, x2), (3, 0, x3), (5, 0, x5)] [(0, s0)] G h Q := by
  intro hl0
  refine z_if_ne (q := 35) (t := 37) p1 dX1_arrive_32 (by decide) rfl (fun c1 => ?_) (fun c1 => ?_)
  · exact u1 c1 hl0
  · refine z_iconst (q := 36) dX1_arrive_35 rfl ?_
    exact z_bret rfl (by decide) dX1_arrive_36 ⟨hl0, u2 c1⟩
theorem b_X1_arrive_91 {D : zD} {d : Nat} {G : zG} {h : zH} {Q : zO → zG → zH → Prop}
    (u1 : Q (.inl (some (0, 1))) G h) :
    z_Y D M_X1_arrive d 91 [] [] G h Q := by
  intro hl0
  refine z_iconst (q := 92) dX1_arrive_91 rfl ?_
  exact z_bret rfl (by decide) dX1_arrive_92 ⟨hl0, u1⟩
theorem b_X10_takeSign_0 {D : zD} {d : Nat} {G : zG} {h : zH} {Q : zO → zG → zH → Prop} {x1 : Int} (p1 : (h 7 3) = 0 → z_in x1) (p2 : (h 7 3) = 0 → ¬ (¬ x1 = 125) → z_in (h 7 8)) (p3 : ¬ (h 7 3) = 0 → ¬ (h 7 3) = 1 → ¬ (h 7 3) = 2 → ¬ (h 7 3) = 3 → (h 7 3) = 4 → z_in x1) (p4 : ¬ (h 7 3) = 0 → ¬ (h 7 3) = 1 → ¬ (h 7 3) = 2 → ¬ (h 7 3) = 3 → ¬ (h 7 3) = 4 → ¬ (h 7 3) = 5 → z_in (h 7 3)) (p5 : ¬ (h 7 3) = 0 → ¬ (h 7 3) = 1 → ¬ (h 7 3) = 2 → ¬ (h 7 3) = 3 → ¬ (h 7 3) = 4 → ¬ (h 7 3) = 5 → z_in x1)
    (u1 : (h 7 3) = 0 → ¬ x1 = 125 → Q (.inl (some (0, 1))) G h)
    (u2 : (h 7 3) = 0 → ¬ (¬ x1 = 125) → (h 7 8) ≤ 0 → Q (.inl (some (0, 1))) G h)
    (u3 : (h 7 3) = 0 → ¬ (¬ x1 = 125) → ¬ ((h 7 8) ≤ 0) → z_Ki D M_X10_closeRepeat d [(2, 7)] G h (fun r G h => z_Y D M_X10_takeSign d 61 [] [(0, r)] G h Q))
    (u4 : ¬ (h 7 3) = 0 → (h 7 3) = 1 → z_Ki D M_X10_takeColumn d [(2, 7), (0, x1)] G h (fun r G h => z_Y D M_X10_takeSign d 71 [] [(0, r)] G h Q))
    (u5 : ¬ (h 7 3) = 0 → ¬ (h 7 3) = 1 → (h 7 3) = 2 → z_Ki D M_X10_takeColumn d [(2, 7), (0, x1)] G h (fun r G h => z_Y D M_X10_takeSign d 71 [] [(0, r)] G h Q))
    (u6 : ¬ (h 7 3) = 0 → ¬ (h 7 3) = 1 → ¬ (h 7 3) = 2 → (h 7 3) = 3 → z_Ki D M_X10_takeMark d [(2, 7), (0, x1)] G h (fun r G h => z_Y D M_X10_takeSign d 77 [] [(0, r)] G h Q))
    (u7 : ¬ (h 7 3) = 0 → ¬ (h 7 3) = 1 → ¬ (h 7 3) = 2 → ¬ (h 7 3) = 3 → (h 7 3) = 4 → ¬ x1 = 59 → Q (.inl (some (0, 1))) G h)
    (u8 : ¬ (h 7 3) = 0 → ¬ (h 7 3) = 1 → ¬ (h 7 3) = 2 → ¬ (h 7 3) = 3 → (h 7 3) = 4 → ¬ (¬ x1 = 59) → z_Ki D M_X10_endStep d [(2, 7)] G h (fun r G h => z_Y D M_X10_takeSign d 88 [] [(0, r)] G h Q))
    (u9 : ¬ (h 7 3) = 0 → ¬ (h 7 3) = 1 → ¬ (h 7 3) = 2 → ¬ (h 7 3) = 3 → ¬ (h 7 3) = 4 → (h 7 3) = 5 → z_Ki D M_X10_takeTimes d [(2, 7), (0, x1)] G h (fun r G h => z_Y D M_X10_takeSign d 98 [] [(0, r)] G h Q))
    (u10 : ¬ (h 7 3) = 0 → ¬ (h 7 3) = 1 → ¬ (h 7 3) = 2 → ¬ (h 7 3) = 3 → ¬ (h 7 3) = 4 → ¬ (h 7 3) = 5 → ¬ x1 = 123 → Q (.inl (some (0, 1))) G h)
    (u11 : ¬ (h 7 3) = 0 → ¬ (h 7 3) = 1 → ¬ (h 7 3) = 2 → ¬ (h 7 3) = 3 → ¬ (h 7 3) = 4 → ¬ (h 7 3) = 5 → ¬ (¬ x1 = 123) → z_Ki D M_X10_openRepeat d [(2, 7)] G h (fun r G h => z_Y D M_X10_takeSign d 109 [] [(0, r)] G h Q)) :
    z_Y D M_X10_takeSign d 0 [(0, 2, 7), (1, 0, x1)] [] G h Q := by
  intro hl0
  refine z_aload_n (q := 1) 0 dX10_takeSign_0 rfl rfl ?_
  refine z_gf (q := 4) (ki := 3) (v := (0, (h 7 3))) fX10_35 rfl rfl (hl0.i 7 (by decide) rfl) dX10_takeSign_1 rfl ?_
  by_cases c1 : (h 7 3) = 0
  · refine z_tswIn (t := 44) 0 c1 ⟨by decide, by decide⟩ dX10_takeSign_4 (by decide) (by decide) rfl (by decide) ?_
    refine z_iload_n (q := 45) 1 dX10_takeSign_44 rfl rfl ?_
    refine z_bipush (q := 47) dX10_takeSign_45 rfl (by decide) ?_
    refine z_icmp_ne (q := 50) (t := 64) (p1 c1) ⟨by decide, by decide⟩ dX10_takeSign_47 (by decide) rfl (fun c2 => ?_) (fun c2 => ?_)
    · refine z_iconst (q := 65) dX10_takeSign_64 rfl ?_
      exact z_iret rfl dX10_takeSign_65 ⟨hl0, u1 c1 c2⟩
    · refine z_aload_n (q := 51) 0 dX10_takeSign_50 rfl rfl ?_
      refine z_gf (q := 54) (ki := 8) (v := (0, (h 7 8))) fX10_38 rfl rfl (hl0.i 7 (by decide) rfl) dX10_takeSign_51 rfl ?_
      refine z_if_le (q := 57) (t := 64) (p2 c1 c2) dX10_takeSign_54 (by decide) rfl (fun c3 => ?_) (fun c3 => ?_)
      · refine z_iconst (q := 65) dX10_takeSign_64 rfl ?_
        exact z_iret rfl dX10_takeSign_65 ⟨hl0, u2 c1 c2 c3⟩
      · refine z_aload_n (q := 58) 0 dX10_takeSign_57 rfl rfl ?_
        refine z_sub (L' := []) [] rfl ?_
        exact z_goV (q := 61) (av := []) (rest := []) cb8 (hl0.i 7 (by decide) rfl) z_toi hl0 (u3 c1 c2 c3) mo_X10_closeRepeat np_X10_closeRepeat k616 k618 k10 rfl (Nat.le_of_ble_eq_true rfl) dX10_takeSign_58 rfl
  by_cases c4 : (h 7 3) = 1
  · refine z_tswIn (t := 66) 1 c4 ⟨by decide, by decide⟩ dX10_takeSign_4 (by decide) (by decide) rfl (by decide) ?_
    refine z_aload_n (q := 67) 0 dX10_takeSign_66 rfl rfl ?_
    refine z_iload_n (q := 68) 1 dX10_takeSign_67 rfl rfl ?_
    refine z_sub (L' := []) [] rfl ?_
    exact z_goV (q := 71) (av := [(0, x1)]) (rest := []) cb8 (hl0.i 7 (by decide) rfl) z_toi hl0 (u4 c1 c4) mo_X10_takeColumn np_X10_takeColumn k628 k630 k11 rfl (Nat.le_of_ble_eq_true rfl) dX10_takeSign_68 rfl
  by_cases c5 : (h 7 3) = 2
  · refine z_tswIn (t := 66) 2 c5 ⟨by decide, by decide⟩ dX10_takeSign_4 (by decide) (by decide) rfl (by decide) ?_
    refine z_aload_n (q := 67) 0 dX10_takeSign_66 rfl rfl ?_
    refine z_iload_n (q := 68) 1 dX10_takeSign_67 rfl rfl ?_
    refine z_sub (L' := []) [] rfl ?_
    exact z_goV (q := 71) (av := [(0, x1)]) (rest := []) cb8 (hl0.i 7 (by decide) rfl) z_toi hl0 (u5 c1 c4 c5) mo_X10_takeColumn np_X10_takeColumn k628 k630 k11 rfl (Nat.le_of_ble_eq_true rfl) dX10_takeSign_68 rfl
  by_cases c6 : (h 7 3) = 3
  · refine z_tswIn (t := 72) 3 c6 ⟨by decide, by decide⟩ dX10_takeSign_4 (by decide) (by decide) rfl (by decide) ?_
    refine z_aload_n (q := 73) 0 dX10_takeSign_72 rfl rfl ?_
    refine z_iload_n (q := 74) 1 dX10_takeSign_73 rfl rfl ?_
    refine z_sub (L' := []) [] rfl ?_
    exact z_goV (q := 77) (av := [(0, x1)]) (rest := []) cb8 (hl0.i 7 (by decide) rfl) z_toi hl0 (u6 c1 c4 c5 c6) mo_X10_takeMark np_X10_takeMark k637 k639 k13 rfl (Nat.le_of_ble_eq_true rfl) dX10_takeSign_74 rfl
  by_cases c7 : (h 7 3) = 4
  · refine z_tswIn (t := 78) 4 c7 ⟨by decide, by decide⟩ dX10_takeSign_4 (by decide) (by decide) rfl (by decide) ?_
    refine z_iload_n (q := 79) 1 dX10_takeSign_78 rfl rfl ?_
    refine z_bipush (q := 81) dX10_takeSign_79 rfl (by decide) ?_
    refine z_icmp_ne (q := 84) (t := 91) (p3 c1 c4 c5 c6 c7) ⟨by decide, by decide⟩ dX10_takeSign_81 (by decide) rfl (fun c8 => ?_) (fun c8 => ?_)
    · refine z_iconst (q := 92) dX10_takeSign_91 rfl ?_
      exact z_iret rfl dX10_takeSign_92 ⟨hl0, u7 c1 c4 c5 c6 c7 c8⟩
    · refine z_aload_n (q := 85) 0 dX10_takeSign_84 rfl rfl ?_
      refine z_sub (L' := []) [] rfl ?_
      exact z_goV (q := 88) (av := []) (rest := []) cb8 (hl0.i 7 (by decide) rfl) z_toi hl0 (u8 c1 c4 c5 c6 c7 c8) mo_X10_endStep np_X10_endStep k642 k644 k14 rfl (Nat.le_of_ble_eq_true rfl) dX10_takeSign_85 rfl
  by_cases c9 : (h 7 3) = 5
  · refine z_tswIn (t := 93) 5 c9 ⟨by decide, by decide⟩ dX10_takeSign_4 (by decide) (by decide) rfl (by decide) ?_
    refine z_aload_n (q := 94) 0 dX10_takeSign_93 rfl rfl ?_
    refine z_iload_n (q := 95) 1 dX10_takeSign_94 rfl rfl ?_
    refine z_sub (L' := []) [] rfl ?_
    exact z_goV (q := 98) (av := [(0, x1)]) (rest := []) cb8 (hl0.i 7 (by decide) rfl) z_toi hl0 (u9 c1 c4 c5 c6 c7 c9) mo_X10_takeTimes np_X10_takeTimes k649 k651 k15 rfl (Nat.le_of_ble_eq_true rfl) dX10_takeSign_95 rfl
  refine z_tswOut (t := 99) (p4 c1 c4 c5 c6 c7 c9) dX10_takeSign_4 (by omega) (by decide) ?_
  refine z_iload_n (q := 100) 1 dX10_takeSign_99 rfl rfl ?_
  refine z_bipush (q := 102) dX10_takeSign_100 rfl (by decide) ?_
  refine z_icmp_ne (q := 105) (t := 112) (p5 c1 c4 c5 c6 c7 c9) ⟨by decide, by decide⟩ dX10_takeSign_102 (by decide) rfl (fun c10 => ?_) (fun c10 => ?_)
  · refine z_iconst (q := 113) dX10_takeSign_112 rfl ?_
    exact z_iret rfl dX10_takeSign_113 ⟨hl0, u10 c1 c4 c5 c6 c7 c9 c10⟩
  · refine z_aload_n (q := 106) 0 dX10_takeSign_105 rfl rfl ?_
    refine z_sub (L' := []) [] rfl ?_
    exact z_goV (q := 109) (av := []) (rest := []) cb8 (hl0.i 7 (by decide) rfl) z_toi hl0 (u11 c1 c4 c5 c6 c7 c9 c10) mo_X10_openRepeat np_X10_openRepeat k653 k655 k16 rfl (Nat.le_of_ble_eq_true rfl) dX10_takeSign_106 rfl
theorem b_X10_takeSign_61 {D : zD} {d : Nat} {G : zG} {h : zH} {Q : zO → zG → zH → Prop} {s0 : Int}
    (u1 : Q (.inl (some (0, s0))) G h) :
    z_Y D M_X10_takeSign d 61 [] [(0, s0)] G h Q := by
  intro hl0
  refine z_goto (t := 65) dX10_takeSign_61 (by decide) ?_
  exact z_iret rfl dX10_takeSign_65 ⟨hl0, u1⟩
theorem b_X10_takeSign_71 {D : zD} {d : Nat} {G : zG} {h : zH} {Q : zO → zG → zH → Prop} {s0 : Int}
    (u1 : Q (.inl (some (0, s0))) G h) :
    z_Y D M_X10_takeSign d 71 [] [(0, s0)] G h Q := by
  intro hl0
  exact z_iret rfl dX10_takeSign_71 ⟨hl0, u1⟩
theorem b_X10_takeSign_77 {D : zD} {d : Nat} {G : zG} {h : zH} {Q : zO → zG → zH → Prop} {s0 : Int}
    (u1 : Q (.inl (some (0, s0))) G h) :
    z_Y D M_X10_takeSign d 77 [] [(0, s0)] G h Q := by
  intro hl0
  exact z_iret rfl dX10_takeSign_77 ⟨hl0, u1⟩
theorem b_X10_takeSign_88 {D : zD} {d : Nat} {G : zG} {h : zH} {Q : zO → zG → zH → Prop} {s0 : Int}
    (u1 : Q (.inl (some (0, s0))) G h) :
    z_Y D M_X10_takeSign d 88 [] [(0, s0)] G h Q := by
  intro hl0
  refine z_goto (t := 92) dX10_takeSign_88 (by decide) ?_
  exact z_iret rfl dX10_takeSign_92 ⟨hl0, u1⟩
theorem b_X10_takeSign_98 {D : zD} {d : Nat} {G : zG} {h : zH} {Q : zO → zG → zH → Prop} {s0 : Int}
    (u1 : Q (.inl (some (0, s0))) G h) :
    z_Y D M_X10_takeSign d 98 [] [(0, s0)] G h Q := by
  intro hl0
  exact z_iret rfl dX10_takeSign_98 ⟨hl0, u1⟩
theorem b_X10_takeSign_109 {D : zD} {d : Nat} {G : zG} {h : zH} {Q : zO → zG → zH → Prop} {s0 : Int}
    (u1 : Q (.inl (some (0, s0))) G h) :
    z_Y D M_X10_takeSign d 109 [] [(0, s0)] G h Q := by
  intro hl0
  refine z_goto (t := 113) dX10_takeSign_109 (by decide) ?_
  exact z_iret rfl dX10_takeSign_113 ⟨hl0, u1⟩
theorem b_X13_makes_0 {D : zD} {d : Nat} {G : zG} {h : zH} {Q : zO → zG → zH → Prop} {x1 x2 x3 x4 : Int} (p1 : 0 ≤ x1) (p2 : x1 < 12)
    (u1 : z_Ki D M_X13_hasAny d [(2, 88), (0, x1)] G (z_wr (z_wr h 88 3 x1) 88 4 (h 89 x1)) (fun r G h => z_Y D M_X13_makes d 28 [(0, 2, 88), (2, 0, x2), (3, 0, x3), (4, 0, x4), (5, 0, (h 90 x1))] [(0, r)] G h Q)) :
    z_Y D M_X13_makes d 0 [(0, 2, 88), (1, 0, x1), (2, 0, x2), (3, 0, x3), (4, 0, x4)] [] G h Q := by
  intro hl0
  refine z_aload_n (q := 1) 0 dX13_makes_0 rfl rfl ?_
  refine z_iload_n (q := 2) 1 dX13_makes_1 rfl rfl ?_
  refine z_pf (q := 5) (ki := 3) fX13_117 rfl (z_sv0 rfl) (hl0.i 88 (by decide) rfl) dX13_makes_2 rfl ?_
  have hl1 := hl0.wr (v := x1) (hl0.i 88 (by decide) rfl) (i := 3) (by decide)
  refine z_aload_n (q := 6) 0 dX13_makes_5 rfl rfl ?_
  refine z_aload_n (q := 7) 0 dX13_makes_6 rfl rfl ?_
  refine z_gf (q := 10) (ki := 0) (v := (2, 89)) fX13_9 rfl (z_ldr rfl (hl1.ref 81 rfl)) (hl1.i 88 (by decide) rfl) dX13_makes_7 rfl ?_
  refine z_iload_n (q := 11) 1 dX13_makes_10 rfl rfl ?_
  refine z_iald (q := 12) (hl1.a 89 (by decide) rfl) p1 p2 dX13_makes_11 rfl ?_
  refine z_pf (q := 15) (ki := 4) fX13_126 rfl (z_sv0 rfl) (hl1.i 88 (by decide) rfl) dX13_makes_12 rfl ?_
  have hl2 := hl1.wr (v := (h 89 x1)) (hl1.i 88 (by decide) rfl) (i := 4) (by decide)
  refine z_aload_n (q := 16) 0 dX13_makes_15 rfl rfl ?_
  refine z_gf (q := 19) (ki := 1) (v := (2, 90)) fX13_13 rfl (z_ldr rfl (hl2.ref 82 rfl)) (hl2.i 88 (by decide) rfl) dX13_makes_16 rfl ?_
  refine z_iload_n (q := 20) 1 dX13_makes_19 rfl rfl ?_
  refine z_iald (q := 21) (hl2.a 90 (by decide) rfl) p1 p2 dX13_makes_20 rfl ?_
  refine z_istore (q := 23) (L' := [(0, 2, 88), (1, 0, x1), (2, 0, x2), (3, 0, x3), (4, 0, x4), (5, 0, (h 90 x1))]) dX13_makes_21 rfl (by decide) rfl ?_
  refine z_aload_n (q := 24) 0 dX13_makes_23 rfl rfl ?_
  refine z_iload_n (q := 25) 1 dX13_makes_24 rfl rfl ?_
  refine z_sub (L' := [(0, 2, 88), (2, 0, x2), (3, 0, x3), (4, 0, x4), (5, 0, (h 90 x1))]) [0, 2, 3, 4, 5] rfl ?_
  exact z_goV (q := 28) (av := [(0, x1)]) (rest := []) cb11 (hl2.i 88 (by decide) rfl) z_toi hl2 (u1) mo_X13_hasAny np_X13_hasAny k1499 k1501 k61 rfl (Nat.le_of_ble_eq_true rfl) dX13_makes_25 rfl
theorem b_X13_makes_28 {D : zD} {d : Nat} {G : zG} {h : zH} {Q : zO → zG → zH → Prop} {s0 x2 x3 x4 x5 : Int} (p1 : z_in s0) (p2 : ¬ (¬ s0 = 0) → z_in x3) (p3 : ¬ (¬ s0 = 0) → ¬ (x3 < 0) → z_in x4) (p4 : ¬ (¬ s0 = 0) → ¬ (x3 < 0) → 0 ≤ x4 → z_in x2)
    (u1 : ¬ s0 = 0 → Q (.inl (some (0, 0))) G h)
    (u2 : ¬ (¬ s0 = 0) → x3 < 0 → Q (.inl (some (0, 0))) G h)
    (u3 : ¬ (¬ s0 = 0) → ¬ (x3 < 0) → 0 ≤ x4 → x2 = 1 → z_Y D M_X13_makes d 65 [(0, 2, 88), (2, 0, x2), (3, 0, x3), (4, 0, x4), (5, 0, x5)] [] G h Q)
    (u4 : ¬ (¬ s0 = 0) → ¬ (x3 < 0) → 0 ≤ x4 → ¬ (x2 = 1) → x2 = 7 → z_Y D M_X13_makes d 65 [(0, 2, 88), (2, 0, x2), (3, 0, x3), (4, 0, x4), (5, 0, x5)] [] G h Q)
    (u5 : ¬ (¬ s0 = 0) → ¬ (x3 < 0) → 0 ≤ x4 → ¬ (x2 = 1) → ¬ (x2 = 7) → x2 = 9 → z_Y D M_X13_makes d 65 [(0, 2, 88), (2, 0, x2), (3, 0, x3), (4, 0, x4), (5, 0, x5)] [] G h Q)
    (u6 : ¬ (¬ s0 = 0) → ¬ (x3 < 0) → 0 ≤ x4 → ¬ (x2 = 1) → ¬ (x2 = 7) → ¬ (x2 = 9) → ¬ x2 = 13 → z_Y D M_X13_makes d 70 [(0, 2, 88), (2, 0, x2), (3, 0, x3), (4, 0, x4), (5, 0, x5)] [(0, 0)] G h Q)
    (u7 : ¬ (¬ s0 = 0) → ¬ (x3 < 0) → 0 ≤ x4 → ¬ (x2 = 1) → ¬ (x2 = 7) → ¬ (x2 = 9) → ¬ (¬ x2 = 13) → z_Y D M_X13_makes d 65 [(0, 2, 88), (2, 0, x2), (3, 0, x3), (4, 0, x4), (5, 0, x5)] [] G h Q)
    (u8 : ¬ (¬ s0 = 0) → ¬ (x3 < 0) → ¬ (0 ≤ x4) → Q (.inl (some (0, 0))) G h) :
    z_Y D M_X13_makes d 28 [(0, 2, 88), (2, 0, x2), (3, 0, x3), (4, 0, x4), (5, 0, x5)] [(0, s0)] G h Q := by
  intro hl0
  refine z_if_ne (q := 31) (t := 40) p1 dX13_makes_28 (by decide) rfl (fun c1 => ?_) (fun c1 => ?_)
  · refine z_iconst (q := 41) dX13_makes_40 rfl ?_
    exact z_bret rfl (by decide) dX13_makes_41 ⟨hl0, u1 c1⟩
  · refine z_iload_n (q := 32) 2 dX13_makes_31 rfl rfl ?_
    refine z_if_lt (q := 35) (t := 40) (p2 c1) dX13_makes_32 (by decide) rfl (fun c2 => ?_) (fun c2 => ?_)
    · refine z_iconst (q := 41) dX13_makes_40 rfl ?_
      exact z_bret rfl (by decide) dX13_makes_41 ⟨hl0, u2 c1 c2⟩
    · refine z_iload (q := 37) 3 dX13_makes_35 rfl rfl ?_
      refine z_if_ge (q := 40) (t := 42) (p3 c1 c2) dX13_makes_37 (by decide) rfl (fun c3 => ?_) (fun c3 => ?_)
      · refine z_iload_n (q := 43) 1 dX13_makes_42 rfl rfl ?_
        refine z_iconst (q := 44) dX13_makes_43 rfl ?_
        refine z_icmp_eq (q := 47) (t := 65) (p4 c1 c2 c3) ⟨by decide, by decide⟩ dX13_makes_44 (by decide) rfl (fun c4 => ?_) (fun c4 => ?_)
        · exact u3 c1 c2 c3 c4 hl0
        · refine z_iload_n (q := 48) 1 dX13_makes_47 rfl rfl ?_
          refine z_bipush (q := 50) dX13_makes_48 rfl (by decide) ?_
          refine z_icmp_eq (q := 53) (t := 65) (p4 c1 c2 c3) ⟨by decide, by decide⟩ dX13_makes_50 (by decide) rfl (fun c5 => ?_) (fun c5 => ?_)
          · exact u4 c1 c2 c3 c4 c5 hl0
          · refine z_iload_n (q := 54) 1 dX13_makes_53 rfl rfl ?_
            refine z_bipush (q := 56) dX13_makes_54 rfl (by decide) ?_
            refine z_icmp_eq (q := 59) (t := 65) (p4 c1 c2 c3) ⟨by decide, by decide⟩ dX13_makes_56 (by decide) rfl (fun c6 => ?_) (fun c6 => ?_)
            · exact u5 c1 c2 c3 c4 c5 c6 hl0
            · refine z_iload_n (q := 60) 1 dX13_makes_59 rfl rfl ?_
              refine z_bipush (q := 62) dX13_makes_60 rfl (by decide) ?_
              refine z_icmp_ne (q := 65) (t := 69) (p4 c1 c2 c3) ⟨by decide, by decide⟩ dX13_makes_62 (by decide) rfl (fun c7 => ?_) (fun c7 => ?_)
              · refine z_iconst (q := 70) dX13_makes_69 rfl ?_
                exact u6 c1 c2 c3 c4 c5 c6 c7 hl0
              · exact u7 c1 c2 c3 c4 c5 c6 c7 hl0
      · refine z_iconst (q := 41) dX13_makes_40 rfl ?_
        exact z_bret rfl (by decide) dX13_makes_41 ⟨hl0, u8 c1 c2 c3⟩
theorem b_X13_makes_65 {D : zD} {d : Nat} {G : zG} {h : zH} {Q : zO → zG → zH → Prop} {x2 x3 x4 x5 : Int}
    (u1 : z_Y D M_X13_makes d 70 [(0, 2, 88), (2, 0, x2), (3, 0, x3), (4, 0, x4), (5, 0, x5)] [(0, 1)] G h Q) :
    z_Y D M_X13_makes d 65 [(0, 2, 88), (2, 0, x2), (3, 0, x3), (4, 0, x4), (5, 0, x5)] [] G h Q := by
  intro hl0
  refine z_iconst (q := 66) dX13_makes_65 rfl ?_
  refine z_goto (t := 70) dX13_makes_66 (by decide) ?_
  exact u1 hl0
theorem b_X13_makes_70 {D : zD} {d : Nat} {G : zG} {h : zH} {Q : zO → zG → zH → Prop} {s0 x2 x3 x4 x5 : Int} (p1 : z_in x2)
    (u1 : x2 = 3 → z_Y D M_X13_makes d 88 [(0, 2, 88), (2, 0, x2), (3, 0, x3), (4, 0, x4), (5, 0, x5), (6, 0, s0)] [] G h Q)
    (u2 : ¬ (x2 = 3) → x2 = 5 → z_Y D M_X13_makes d 88 [(0, 2, 88), (2, 0, x2), (3, 0, x3), (4, 0, x4), (5, 0, x5), (6, 0, s0)] [] G h Q)
    (u3 : ¬ (x2 = 3) → ¬ (x2 = 5) → ¬ x2 = 11 → z_Y D M_X13_makes d 93 [(0, 2, 88), (2, 0, x2), (3, 0, x3), (4, 0, x4), (5, 0, x5), (6, 0, s0)] [(0, 0)] G h Q)
    (u4 : ¬ (x2 = 3) → ¬ (x2 = 5) → ¬ (¬ x2 = 11) → z_Y D M_X13_makes d 88 [(0, 2, 88), (2, 0, x2), (3, 0, x3), (4, 0, x4), (5, 0, x5), (6, 0, s0)] [] G h Q) :
    z_Y D M_X13_makes d 70 [(0, 2, 88), (2, 0, x2), (3, 0, x3), (4, 0, x4), (5, 0, x5)] [(0, s0)] G h Q := by
  intro hl0
  refine z_istore (q := 72) (L' := [(0, 2, 88), (2, 0, x2), (3, 0, x3), (4, 0, x4), (5, 0, x5), (6, 0, s0)]) dX13_makes_70 rfl (by decide) rfl ?_
  refine z_iload_n (q := 73) 1 dX13_makes_72 rfl rfl ?_
  refine z_iconst (q := 74) dX13_makes_73 rfl ?_
  refine z_icmp_eq (q := 77) (t := 88) p1 ⟨by decide, by decide⟩ dX13_makes_74 (by decide) rfl (fun c1 => ?_) (fun c1 => ?_)
  · exact u1 c1 hl0
  · refine z_iload_n (q := 78) 1 dX13_makes_77 rfl rfl ?_
    refine z_iconst (q := 79) dX13_makes_78 rfl ?_
    refine z_icmp_eq (q := 82) (t := 88) p1 ⟨by decide, by decide⟩ dX13_makes_79 (by decide) rfl (fun c2 => ?_) (fun c2 => ?_)
    · exact u2 c1 c2 hl0
    · refine z_iload_n (q := 83) 1 dX13_makes_82 rfl rfl ?_
      refine z_bipush (q := 85) dX13_makes_83 rfl (by decide) ?_
      refine z_icmp_ne (q := 88) (t := 92) p1 ⟨by decide, by decide⟩ dX13_makes_85 (by decide) rfl (fun c3 => ?_) (fun c3 => ?_)
      · refine z_iconst (q := 93) dX13_makes_92 rfl ?_
        exact u3 c1 c2 c3 hl0
      · exact u4 c1 c2 c3 hl0
theorem b_X13_makes_88 {D : zD} {d : Nat} {G : zG} {h : zH} {Q : zO → zG → zH → Prop} {x2 x3 x4 x5 x6 : Int}
    (u1 : z_Y D M_X13_makes d 93 [(0, 2, 88), (2, 0, x2), (3, 0, x3), (4, 0, x4), (5, 0, x5), (6, 0, x6)] [(0, 1)] G h Q) :
    z_Y D M_X13_makes d 88 [(0, 2, 88), (2, 0, x2), (3, 0, x3), (4, 0, x4), (5, 0, x5), (6, 0, x6)] [] G h Q := by
  intro hl0
  refine z_iconst (q := 89) dX13_makes_88 rfl ?_
  refine z_goto (t := 93) dX13_makes_89 (by decide) ?_
  exact u1 hl0
theorem b_X13_makes_93 {D : zD} {d : Nat} {G : zG} {h : zH} {Q : zO → zG → zH → Prop} {s0 x2 x3 x4 x5 x6 : Int} (p1 : z_in x6) (p2 : ¬ (x6 = 0) → z_in x3)
    (u1 : x6 = 0 → z_Y D M_X13_makes d 104 [(0, 2, 88), (2, 0, x2), (3, 0, x3), (4, 0, x4), (5, 0, x5), (6, 0, x6), (7, 0, s0)] [] G h Q)
    (u2 : ¬ (x6 = 0) → ¬ x3 = 0 → Q (.inl (some (0, 0))) G h)
    (u3 : ¬ (x6 = 0) → ¬ (¬ x3 = 0) → z_Y D M_X13_makes d 104 [(0, 2, 88), (2, 0, x2), (3, 0, x3), (4, 0, x4), (5, 0, x5), (6, 0, x6), (7, 0, s0)] [] G h Q) :
    z_Y D M_X13_makes d 93 [(0, 2, 88), (2, 0, x2), (3, 0, x3), (4, 0, x4), (5, 0, x5), (6, 0, x6)] [(0, s0)] G h Q := by
  intro hl0
  refine z_istore (q := 95) (L' := [(0, 2, 88), (2, 0, x2), (3, 0, x3), (4, 0, x4), (5, 0, x5), (6, 0, x6), (7, 0, s0)]) dX13_makes_93 rfl (by decide) rfl ?_
  refine z_iload (q := 97) 5 dX13_makes_95 rfl rfl ?_
  refine z_if_eq (q := 100) (t := 104) p1 dX13_makes_97 (by decide) rfl (fun c1 => ?_) (fun c1 => ?_)
  · exact u1 c1 hl0
  · refine z_iload_n (q := 101) 2 dX13_makes_100 rfl rfl ?_
    refine z_if_ne (q := 104) (t := 125) (p2 c1) dX13_makes_101 (by decide) rfl (fun c2 => ?_) (fun c2 => ?_)
    · refine z_iconst (q := 126) dX13_makes_125 rfl ?_
      exact z_bret rfl (by decide) dX13_makes_126 ⟨hl0, u2 c1 c2⟩
    · exact u3 c1 c2 hl0
theorem b_X13_makes_104 {D : zD} {d : Nat} {G : zG} {h : zH} {Q : zO → zG → zH → Prop} {x2 x3 x4 x5 x6 x7 : Int} (p1 : z_in x7) (p2 : ¬ (¬ x7 = 0) → z_in x4)
    (u1 : ¬ x7 = 0 → z_Y D M_X13_makes d 114 [(0, 2, 88), (2, 0, x2), (3, 0, x3), (4, 0, x4), (5, 0, x5), (6, 0, x6)] [] G h Q)
    (u2 : ¬ (¬ x7 = 0) → ¬ x4 = 0 → Q (.inl (some (0, 0))) G h)
    (u3 : ¬ (¬ x7 = 0) → ¬ (¬ x4 = 0) → z_Y D M_X13_makes d 114 [(0, 2, 88), (2, 0, x2), (3, 0, x3), (4, 0, x4), (5, 0, x5), (6, 0, x6)] [] G h Q) :
    z_Y D M_X13_makes d 104 [(0, 2, 88), (2, 0, x2), (3, 0, x3), (4, 0, x4), (5, 0, x5), (6, 0, x6), (7, 0, x7)] [] G h Q := by
  intro hl0
  refine z_iload (q := 106) 6 dX13_makes_104 rfl rfl ?_
  refine z_if_ne (q := 109) (t := 114) p1 dX13_makes_106 (by decide) rfl (fun c1 => ?_) (fun c1 => ?_)
  · refine z_sub (L' := [(0, 2, 88), (2, 0, x2), (3, 0, x3), (4, 0, x4), (5, 0, x5), (6, 0, x6)]) [0, 1, 2, 3, 4, 5] rfl ?_
    exact u1 c1 hl0
  · refine z_iload (q := 111) 3 dX13_makes_109 rfl rfl ?_
    refine z_if_ne (q := 114) (t := 125) (p2 c1) dX13_makes_111 (by decide) rfl (fun c2 => ?_) (fun c2 => ?_)
    · refine z_iconst (q := 126) dX13_makes_125 rfl ?_
      exact z_bret rfl (by decide) dX13_makes_126 ⟨hl0, u2 c1 c2⟩
    · refine z_sub (L' := [(0, 2, 88), (2, 0, x2), (3, 0, x3), (4, 0, x4), (5, 0, x5), (6, 0, x6)]) [0, 1, 2, 3, 4, 5] rfl ?_
      exact u3 c1 c2 hl0
theorem b_X13_makes_114 {D : zD} {d : Nat} {G : zG} {h : zH} {Q : zO → zG → zH → Prop} {x2 x3 x4 x5 x6 : Int} (p1 : z_in x6) (p2 : ¬ (¬ x6 = 0) → z_in x3) (p3 : ¬ (¬ x6 = 0) → z_in x5)
    (u1 : ¬ x6 = 0 → z_Y D M_X13_makes d 127 [(0, 2, 88), (2, 0, x2), (3, 0, x3), (4, 0, x4), (5, 0, x5)] [] G h Q)
    (u2 : ¬ (¬ x6 = 0) → x3 < x5 → z_Y D M_X13_makes d 127 [(0, 2, 88), (2, 0, x2), (3, 0, x3), (4, 0, x4), (5, 0, x5)] [] G h Q)
    (u3 : ¬ (¬ x6 = 0) → ¬ (x3 < x5) → Q (.inl (some (0, 0))) G h) :
    z_Y D M_X13_makes d 114 [(0, 2, 88), (2, 0, x2), (3, 0, x3), (4, 0, x4), (5, 0, x5), (6, 0, x6)] [] G h Q := by
  intro hl0
  refine z_iload (q := 116) 5 dX13_makes_114 rfl rfl ?_
  refine z_if_ne (q := 119) (t := 127) p1 dX13_makes_116 (by decide) rfl (fun c1 => ?_) (fun c1 => ?_)
  · refine z_sub (L' := [(0, 2, 88), (2, 0, x2), (3, 0, x3), (4, 0, x4), (5, 0, x5)]) [0, 1, 2, 3, 4] rfl ?_
    exact u1 c1 hl0
  · refine z_iload_n (q := 120) 2 dX13_makes_119 rfl rfl ?_
    refine z_iload (q := 122) 4 dX13_makes_120 rfl rfl ?_
    refine z_icmp_lt (q := 125) (t := 127) (p2 c1) (p3 c1) dX13_makes_122 (by decide) rfl (fun c2 => ?_) (fun c2 => ?_)
    · refine z_sub (L' := [(0, 2, 88), (2, 0, x2), (3, 0, x3), (4, 0, x4), (5, 0, x5)]) [0, 1, 2, 3, 4] rfl ?_
      exact u2 c1 c2 hl0
    · refine z_iconst (q := 126) dX13_makes_125 rfl ?_
      exact z_bret rfl (by decide) dX13_makes_126 ⟨hl0, u3 c1 c2⟩
theorem b_X13_makes_127 {D : zD} {d : Nat} {G : zG} {h : zH} {Q : zO → zG → zH → Prop} {x2 x3 x4 x5 : Int} (p1 : ¬ x2 = 1 → ¬ x2 = 2 → ¬ x2 = 3 → ¬ x2 = 4 → ¬ x2 = 5 → ¬ x2 = 6 → ¬ x2 = 7 → ¬ x2 = 8 → ¬ x2 = 9 → ¬ x2 = 10 → ¬ x2 = 11 → ¬ x2 = 12 → ¬ x2 = 13 → z_in x2)
    (u1 : x2 = 1 → z_Ki D M_X13_turns d [(2, 88), (0, x5)] G h (fun r G h => z_Y D M_X13_makes d 202 [] [(0, r)] G h Q))
    (u2 : ¬ x2 = 1 → x2 = 2 → z_Ki D M_X13_drops d [(2, 88), (0, x5), (0, x3)] G h (fun r G h => z_Y D M_X13_makes d 210 [] [(0, r)] G h Q))
    (u3 : ¬ x2 = 1 → ¬ x2 = 2 → x2 = 3 → z_Ki D M_X13_splits d [(2, 88), (0, x5), (0, x3), (0, x4)] G h (fun r G h => z_Y D M_X13_makes d 220 [] [(0, r)] G h Q))
    (u4 : ¬ x2 = 1 → ¬ x2 = 2 → ¬ x2 = 3 → x2 = 4 → z_Ki D M_X13_fills d [(2, 88), (0, x5), (0, x3)] G h (fun r G h => z_Y D M_X13_makes d 228 [] [(0, r)] G h Q))
    (u5 : ¬ x2 = 1 → ¬ x2 = 2 → ¬ x2 = 3 → ¬ x2 = 4 → x2 = 5 → z_Ki D M_X13_joins d [(2, 88), (0, x5), (0, x3), (0, x4)] G h (fun r G h => z_Y D M_X13_makes d 238 [] [(0, r)] G h Q))
    (u6 : ¬ x2 = 1 → ¬ x2 = 2 → ¬ x2 = 3 → ¬ x2 = 4 → ¬ x2 = 5 → x2 = 6 → z_Ki D M_X13_folds d [(2, 88), (0, x5), (0, x3)] G h (fun r G h => z_Y D M_X13_makes d 246 [] [(0, r)] G h Q))
    (u7 : ¬ x2 = 1 → ¬ x2 = 2 → ¬ x2 = 3 → ¬ x2 = 4 → ¬ x2 = 5 → ¬ x2 = 6 → x2 = 7 → z_Ki D M_X13_unfolds d [(2, 88), (0, x5)] G h (fun r G h => z_Y D M_X13_makes d 253 [] [(0, r)] G h Q))
    (u8 : ¬ x2 = 1 → ¬ x2 = 2 → ¬ x2 = 3 → ¬ x2 = 4 → ¬ x2 = 5 → ¬ x2 = 6 → ¬ x2 = 7 → x2 = 8 → z_Ki D M_X13_sorts d [(2, 88), (0, x5), (0, x3)] G h (fun r G h => z_Y D M_X13_makes d 261 [] [(0, r)] G h Q))
    (u9 : ¬ x2 = 1 → ¬ x2 = 2 → ¬ x2 = 3 → ¬ x2 = 4 → ¬ x2 = 5 → ¬ x2 = 6 → ¬ x2 = 7 → ¬ x2 = 8 → x2 = 9 → z_Ki D M_X13_singles d [(2, 88), (0, x5)] G h (fun r G h => z_Y D M_X13_makes d 268 [] [(0, r)] G h Q))
    (u10 : ¬ x2 = 1 → ¬ x2 = 2 → ¬ x2 = 3 → ¬ x2 = 4 → ¬ x2 = 5 → ¬ x2 = 6 → ¬ x2 = 7 → ¬ x2 = 8 → ¬ x2 = 9 → x2 = 10 → z_Ki D M_X13_counts d [(2, 88), (0, x3)] G h (fun r G h => z_Y D M_X13_makes d 274 [] [(0, r)] G h Q))
    (u11 : ¬ x2 = 1 → ¬ x2 = 2 → ¬ x2 = 3 → ¬ x2 = 4 → ¬ x2 = 5 → ¬ x2 = 6 → ¬ x2 = 7 → ¬ x2 = 8 → ¬ x2 = 9 → ¬ x2 = 10 → x2 = 11 → z_Ki D M_X13_sums d [(2, 88), (0, x5), (0, x3), (0, x4)] G h (fun r G h => z_Y D M_X13_makes d 284 [] [(0, r)] G h Q))
    (u12 : ¬ x2 = 1 → ¬ x2 = 2 → ¬ x2 = 3 → ¬ x2 = 4 → ¬ x2 = 5 → ¬ x2 = 6 → ¬ x2 = 7 → ¬ x2 = 8 → ¬ x2 = 9 → ¬ x2 = 10 → ¬ x2 = 11 → x2 = 12 → z_Ki D M_X13_keeps d [(2, 88), (0, x5), (0, x3)] G h (fun r G h => z_Y D M_X13_makes d 292 [] [(0, r)] G h Q))
    (u13 : ¬ x2 = 1 → ¬ x2 = 2 → ¬ x2 = 3 → ¬ x2 = 4 → ¬ x2 = 5 → ¬ x2 = 6 → ¬ x2 = 7 → ¬ x2 = 8 → ¬ x2 = 9 → ¬ x2 = 10 → ¬ x2 = 11 → ¬ x2 = 12 → x2 = 13 → z_Ki D M_X13_loses d [(2, 88), (0, x5)] G h (fun r G h => z_Y D M_X13_makes d 299 [] [(0, r)] G h Q))
    (u14 : ¬ x2 = 1 → ¬ x2 = 2 → ¬ x2 = 3 → ¬ x2 = 4 → ¬ x2 = 5 → ¬ x2 = 6 → ¬ x2 = 7 → ¬ x2 = 8 → ¬ x2 = 9 → ¬ x2 = 10 → ¬ x2 = 11 → ¬ x2 = 12 → ¬ x2 = 13 → z_Ki D M_X13_swaps d [(2, 88), (0, x5), (0, x3)] G h (fun r G h => z_Y D M_X13_makes d 307 [] [(0, r)] G h Q)) :
    z_Y D M_X13_makes d 127 [(0, 2, 88), (2, 0, x2), (3, 0, x3), (4, 0, x4), (5, 0, x5)] [] G h Q := by
  intro hl0
  refine z_iload_n (q := 128) 1 dX13_makes_127 rfl rfl ?_
  by_cases c1 : x2 = 1
  · refine z_tswIn (t := 196) 1 c1 ⟨by decide, by decide⟩ dX13_makes_128 (by decide) (by decide) rfl (by decide) ?_
    refine z_aload_n (q := 197) 0 dX13_makes_196 rfl rfl ?_
    refine z_iload (q := 199) 4 dX13_makes_197 rfl rfl ?_
    refine z_sub (L' := []) [] rfl ?_
    exact z_goV (q := 202) (av := [(0, x5)]) (rest := []) cb11 (hl0.i 88 (by decide) rfl) z_toi hl0 (u1 c1) mo_X13_turns np_X13_turns k1503 k1505 k62 rfl (Nat.le_of_ble_eq_true rfl) dX13_makes_199 rfl
  by_cases c2 : x2 = 2
  · refine z_tswIn (t := 203) 2 c2 ⟨by decide, by decide⟩ dX13_makes_128 (by decide) (by decide) rfl (by decide) ?_
    refine z_aload_n (q := 204) 0 dX13_makes_203 rfl rfl ?_
    refine z_iload (q := 206) 4 dX13_makes_204 rfl rfl ?_
    refine z_iload_n (q := 207) 2 dX13_makes_206 rfl rfl ?_
    refine z_sub (L' := []) [] rfl ?_
    exact z_goV (q := 210) (av := [(0, x5), (0, x3)]) (rest := []) cb11 (hl0.i 88 (by decide) rfl) z_toi hl0 (u2 c1 c2) mo_X13_drops np_X13_drops k1511 k1513 k64 rfl (Nat.le_of_ble_eq_true rfl) dX13_makes_207 rfl
  by_cases c3 : x2 = 3
  · refine z_tswIn (t := 211) 3 c3 ⟨by decide, by decide⟩ dX13_makes_128 (by decide) (by decide) rfl (by decide) ?_
    refine z_aload_n (q := 212) 0 dX13_makes_211 rfl rfl ?_
    refine z_iload (q := 214) 4 dX13_makes_212 rfl rfl ?_
    refine z_iload_n (q := 215) 2 dX13_makes_214 rfl rfl ?_
    refine z_iload (q := 217) 3 dX13_makes_215 rfl rfl ?_
    refine z_sub (L' := []) [] rfl ?_
    exact z_goV (q := 220) (av := [(0, x5), (0, x3), (0, x4)]) (rest := []) cb11 (hl0.i 88 (by decide) rfl) z_toi hl0 (u3 c1 c2 c3) mo_X13_splits np_X13_splits k1515 k1517 k65 rfl (Nat.le_of_ble_eq_true rfl) dX13_makes_217 rfl
  by_cases c4 : x2 = 4
  · refine z_tswIn (t := 221) 4 c4 ⟨by decide, by decide⟩ dX13_makes_128 (by decide) (by decide) rfl (by decide) ?_
    refine z_aload_n (q := 222) 0 dX13_makes_221 rfl rfl ?_
    refine z_iload (q := 224) 4 dX13_makes_222 rfl rfl ?_
    refine z_iload_n (q := 225) 2 dX13_makes_224 rfl rfl ?_
    refine z_sub (L' := []) [] rfl ?_
    exact z_goV (q := 228) (av := [(0, x5), (0, x3)]) (rest := []) cb11 (hl0.i 88 (by decide) rfl) z_toi hl0 (u4 c1 c2 c3 c4) mo_X13_fills np_X13_fills k1525 k1527 k66 rfl (Nat.le_of_ble_eq_true rfl) dX13_makes_225 rfl
  by_cases c5 : x2 = 5
  · refine z_tswIn (t := 229) 5 c5 ⟨by decide, by decide⟩ dX13_makes_128 (by decide) (by decide) rfl (by decide) ?_
    refine z_aload_n (q := 230) 0 dX13_makes_229 rfl rfl ?_
    refine z_iload (q := 232) 4 dX13_makes_230 rfl rfl ?_
    refine z_iload_n (q := 233) 2 dX13_makes_232 rfl rfl ?_
    refine z_iload (q := 235) 3 dX13_makes_233 rfl rfl ?_
    refine z_sub (L' := []) [] rfl ?_
    exact z_goV (q := 238) (av := [(0, x5), (0, x3), (0, x4)]) (rest := []) cb11 (hl0.i 88 (by decide) rfl) z_toi hl0 (u5 c1 c2 c3 c4 c5) mo_X13_joins np_X13_joins k1529 k1531 k67 rfl (Nat.le_of_ble_eq_true rfl) dX13_makes_235 rfl
  by_cases c6 : x2 = 6
  · refine z_tswIn (t := 239) 6 c6 ⟨by decide, by decide⟩ dX13_makes_128 (by decide) (by decide) rfl (by decide) ?_
    refine z_aload_n (q := 240) 0 dX13_makes_239 rfl rfl ?_
    refine z_iload (q := 242) 4 dX13_makes_240 rfl rfl ?_
    refine z_iload_n (q := 243) 2 dX13_makes_242 rfl rfl ?_
    refine z_sub (L' := []) [] rfl ?_
    exact z_goV (q := 246) (av := [(0, x5), (0, x3)]) (rest := []) cb11 (hl0.i 88 (by decide) rfl) z_toi hl0 (u6 c1 c2 c3 c4 c5 c6) mo_X13_folds np_X13_folds k1533 k1535 k68 rfl (Nat.le_of_ble_eq_true rfl) dX13_makes_243 rfl
  by_cases c7 : x2 = 7
  · refine z_tswIn (t := 247) 7 c7 ⟨by decide, by decide⟩ dX13_makes_128 (by decide) (by decide) rfl (by decide) ?_
    refine z_aload_n (q := 248) 0 dX13_makes_247 rfl rfl ?_
    refine z_iload (q := 250) 4 dX13_makes_248 rfl rfl ?_
    refine z_sub (L' := []) [] rfl ?_
    exact z_goV (q := 253) (av := [(0, x5)]) (rest := []) cb11 (hl0.i 88 (by decide) rfl) z_toi hl0 (u7 c1 c2 c3 c4 c5 c6 c7) mo_X13_unfolds np_X13_unfolds k1537 k1539 k69 rfl (Nat.le_of_ble_eq_true rfl) dX13_makes_250 rfl
  by_cases c8 : x2 = 8
  · refine z_tswIn (t := 254) 8 c8 ⟨by decide, by decide⟩ dX13_makes_128 (by decide) (by decide) rfl (by decide) ?_
    refine z_aload_n (q := 255) 0 dX13_makes_254 rfl rfl ?_
    refine z_iload (q := 257) 4 dX13_makes_255 rfl rfl ?_
    refine z_iload_n (q := 258) 2 dX13_makes_257 rfl rfl ?_
    refine z_sub (L' := []) [] rfl ?_
    exact z_goV (q := 261) (av := [(0, x5), (0, x3)]) (rest := []) cb11 (hl0.i 88 (by decide) rfl) z_toi hl0 (u8 c1 c2 c3 c4 c5 c6 c7 c8) mo_X13_sorts np_X13_sorts k1553 k1555 k73 rfl (Nat.le_of_ble_eq_true rfl) dX13_makes_258 rfl
  by_cases c9 : x2 = 9
  · refine z_tswIn (t := 262) 9 c9 ⟨by decide, by decide⟩ dX13_makes_128 (by decide) (by decide) rfl (by decide) ?_
    refine z_aload_n (q := 263) 0 dX13_makes_262 rfl rfl ?_
    refine z_iload (q := 265) 4 dX13_makes_263 rfl rfl ?_
    refine z_sub (L' := []) [] rfl ?_
    exact z_goV (q := 268) (av := [(0, x5)]) (rest := []) cb11 (hl0.i 88 (by decide) rfl) z_toi hl0 (u9 c1 c2 c3 c4 c5 c6 c7 c8 c9) mo_X13_singles np_X13_singles k1564 k1566 k75 rfl (Nat.le_of_ble_eq_true rfl) dX13_makes_265 rfl
  by_cases c10 : x2 = 10
  · refine z_tswIn (t := 269) 10 c10 ⟨by decide, by decide⟩ dX13_makes_128 (by decide) (by decide) rfl (by decide) ?_
    refine z_aload_n (q := 270) 0 dX13_makes_269 rfl rfl ?_
    refine z_iload_n (q := 271) 2 dX13_makes_270 rfl rfl ?_
    refine z_sub (L' := []) [] rfl ?_
    exact z_goV (q := 274) (av := [(0, x3)]) (rest := []) cb11 (hl0.i 88 (by decide) rfl) z_toi hl0 (u10 c1 c2 c3 c4 c5 c6 c7 c8 c9 c10) mo_X13_counts np_X13_counts k1568 k1570 k76 rfl (Nat.le_of_ble_eq_true rfl) dX13_makes_271 rfl
  by_cases c11 : x2 = 11
  · refine z_tswIn (t := 275) 11 c11 ⟨by decide, by decide⟩ dX13_makes_128 (by decide) (by decide) rfl (by decide) ?_
    refine z_aload_n (q := 276) 0 dX13_makes_275 rfl rfl ?_
    refine z_iload (q := 278) 4 dX13_makes_276 rfl rfl ?_
    refine z_iload_n (q := 279) 2 dX13_makes_278 rfl rfl ?_
    refine z_iload (q := 281) 3 dX13_makes_279 rfl rfl ?_
    refine z_sub (L' := []) [] rfl ?_
    exact z_goV (q := 284) (av := [(0, x5), (0, x3), (0, x4)]) (rest := []) cb11 (hl0.i 88 (by decide) rfl) z_toi hl0 (u11 c1 c2 c3 c4 c5 c6 c7 c8 c9 c10 c11) mo_X13_sums np_X13_sums k1575 k1577 k77 rfl (Nat.le_of_ble_eq_true rfl) dX13_makes_281 rfl
  by_cases c12 : x2 = 12
  · refine z_tswIn (t := 285) 12 c12 ⟨by decide, by decide⟩ dX13_makes_128 (by decide) (by decide) rfl (by decide) ?_
    refine z_aload_n (q := 286) 0 dX13_makes_285 rfl rfl ?_
    refine z_iload (q := 288) 4 dX13_makes_286 rfl rfl ?_
    refine z_iload_n (q := 289) 2 dX13_makes_288 rfl rfl ?_
    refine z_sub (L' := []) [] rfl ?_
    exact z_goV (q := 292) (av := [(0, x5), (0, x3)]) (rest := []) cb11 (hl0.i 88 (by decide) rfl) z_toi hl0 (u12 c1 c2 c3 c4 c5 c6 c7 c8 c9 c10 c11 c12) mo_X13_keeps np_X13_keeps k1583 k1585 k78 rfl (Nat.le_of_ble_eq_true rfl) dX13_makes_289 rfl
  by_cases c13 : x2 = 13
  · refine z_tswIn (t := 293) 13 c13 ⟨by decide, by decide⟩ dX13_makes_128 (by decide) (by decide) rfl (by decide) ?_
    refine z_aload_n (q := 294) 0 dX13_makes_293 rfl rfl ?_
    refine z_iload (q := 296) 4 dX13_makes_294 rfl rfl ?_
    refine z_sub (L' := []) [] rfl ?_
    exact z_goV (q := 299) (av := [(0, x5)]) (rest := []) cb11 (hl0.i 88 (by decide) rfl) z_toi hl0 (u13 c1 c2 c3 c4 c5 c6 c7 c8 c9 c10 c11 c12 c13) mo_X13_loses np_X13_loses k1587 k1589 k79 rfl (Nat.le_of_ble_eq_true rfl) dX13_makes_296 rfl
  refine z_tswOut (t := 300) (p1 c1 c2 c3 c4 c5 c6 c7 c8 c9 c10 c11 c12 c13) dX13_makes_128 (by omega) (by decide) ?_
  refine z_aload_n (q := 301) 0 dX13_makes_300 rfl rfl ?_
  refine z_iload (q := 303) 4 dX13_makes_301 rfl rfl ?_
  refine z_iload_n (q := 304) 2 dX13_makes_303 rfl rfl ?_
  refine z_sub (L' := []) [] rfl ?_
  exact z_goV (q := 307) (av := [(0, x5), (0, x3)]) (rest := []) cb11 (hl0.i 88 (by decide) rfl) z_toi hl0 (u14 c1 c2 c3 c4 c5 c6 c7 c8 c9 c10 c11 c12 c13) mo_X13_swaps np_X13_swaps k1591 k1593 k80 rfl (Nat.le_of_ble_eq_true rfl) dX13_makes_304 rfl
theorem b_X13_makes_202 {D : zD} {d : Nat} {G : zG} {h : zH} {Q : zO → zG → zH → Prop} {s0 : Int} (p1 : s0 = 0 ∨ s0 = 1)
    (u1 : Q (.inl (some (0, s0))) G h) :
    z_Y D M_X13_makes d 202 [] [(0, s0)] G h Q := by
  intro hl0
  exact z_bret rfl p1 dX13_makes_202 ⟨hl0, u1⟩
theorem b_X13_makes_210 {D : zD} {d : Nat} {G : zG} {h : zH} {Q : zO → zG → zH → Prop} {s0 : Int} (p1 : s0 = 0 ∨ s0 = 1)
    (u1 : Q (.inl (some (0, s0))) G h) :
    z_Y D M_X13_makes d 210 [] [(0, s0)] G h Q := by
  intro hl0
  exact z_bret rfl p1 dX13_makes_210 ⟨hl0, u1⟩
theorem b_X13_makes_220 {D : zD} {d : Nat} {G : zG} {h : zH} {Q : zO → zG → zH → Prop} {s0 : Int} (p1 : s0 = 0 ∨ s0 = 1)
    (u1 : Q (.inl (some (0, s0))) G h) :
    z_Y D M_X13_makes d 220 [] [(0, s0)] G h Q := by
  intro hl0
  exact z_bret rfl p1 dX13_makes_220 ⟨hl0, u1⟩
theorem b_X13_makes_228 {D : zD} {d : Nat} {G : zG} {h : zH} {Q : zO → zG → zH → Prop} {s0 : Int} (p1 : s0 = 0 ∨ s0 = 1)
    (u1 : Q (.inl (some (0, s0))) G h) :
    z_Y D M_X13_makes d 228 [] [(0, s0)] G h Q := by
  intro hl0
  exact z_bret rfl p1 dX13_makes_228 ⟨hl0, u1⟩
theorem b_X13_makes_238 {D : zD} {d : Nat} {G : zG} {h : zH} {Q : zO → zG → zH → Prop} {s0 : Int} (p1 : s0 = 0 ∨ s0 = 1)
    (u1 : Q (.inl (some (0, s0))) G h) :
    z_Y D M_X13_makes d 238 [] [(0, s0)] G h Q := by
  intro hl0
  exact z_bret rfl p1 dX13_makes_238 ⟨hl0, u1⟩
theorem b_X13_makes_246 {D : zD} {d : Nat} {G : zG} {h : zH} {Q : zO → zG → zH → Prop} {s0 : Int} (p1 : s0 = 0 ∨ s0 = 1)
    (u1 : Q (.inl (some (0, s0))) G h) :
    z_Y D M_X13_makes d 246 [] [(0, s0)] G h Q := by
  intro hl0
  exact z_bret rfl p1 dX13_makes_246 ⟨hl0, u1⟩
theorem b_X13_makes_253 {D : zD} {d : Nat} {G : zG} {h : zH} {Q : zO → zG → zH → Prop} {s0 : Int} (p1 : s0 = 0 ∨ s0 = 1)
    (u1 : Q (.inl (some (0, s0))) G h) :
    z_Y D M_X13_makes d 253 [] [(0, s0)] G h Q := by
  intro hl0
  exact z_bret rfl p1 dX13_makes_253 ⟨hl0, u1⟩
theorem b_X13_makes_261 {D : zD} {d : Nat} {G : zG} {h : zH} {Q : zO → zG → zH → Prop} {s0 : Int} (p1 : s0 = 0 ∨ s0 = 1)
    (u1 : Q (.inl (some (0, s0))) G h) :
    z_Y D M_X13_makes d 261 [] [(0, s0)] G h Q := by
  intro hl0
  exact z_bret rfl p1 dX13_makes_261 ⟨hl0, u1⟩
theorem b_X13_makes_268 {D : zD} {d : Nat} {G : zG} {h : zH} {Q : zO → zG → zH → Prop} {s0 : Int} (p1 : s0 = 0 ∨ s0 = 1)
    (u1 : Q (.inl (some (0, s0))) G h) :
    z_Y D M_X13_makes d 268 [] [(0, s0)] G h Q := by
  intro hl0
  exact z_bret rfl p1 dX13_makes_268 ⟨hl0, u1⟩
theorem b_X13_makes_274 {D : zD} {d : Nat} {G : zG} {h : zH} {Q : zO → zG → zH → Prop} {s0 : Int} (p1 : s0 = 0 ∨ s0 = 1)
    (u1 : Q (.inl (some (0, s0))) G h) :
    z_Y D M_X13_makes d 274 [] [(0, s0)] G h Q := by
  intro hl0
  exact z_bret rfl p1 dX13_makes_274 ⟨hl0, u1⟩
theorem b_X13_makes_284 {D : zD} {d : Nat} {G : zG} {h : zH} {Q : zO → zG → zH → Prop} {s0 : Int} (p1 : s0 = 0 ∨ s0 = 1)
    (u1 : Q (.inl (some (0, s0))) G h) :
    z_Y D M_X13_makes d 284 [] [(0, s0)] G h Q := by
  intro hl0
  exact z_bret rfl p1 dX13_makes_284 ⟨hl0, u1⟩
theorem b_X13_makes_292 {D : zD} {d : Nat} {G : zG} {h : zH} {Q : zO → zG → zH → Prop} {s0 : Int} (p1 : s0 = 0 ∨ s0 = 1)
    (u1 : Q (.inl (some (0, s0))) G h) :
    z_Y D M_X13_makes d 292 [] [(0, s0)] G h Q := by
  intro hl0
  exact z_bret rfl p1 dX13_makes_292 ⟨hl0, u1⟩
theorem b_X13_makes_299 {D : zD} {d : Nat} {G : zG} {h : zH} {Q : zO → zG → zH → Prop} {s0 : Int} (p1 : s0 = 0 ∨ s0 = 1)
    (u1 : Q (.inl (some (0, s0))) G h) :
    z_Y D M_X13_makes d 299 [] [(0, s0)] G h Q := by
  intro hl0
  exact z_bret rfl p1 dX13_makes_299 ⟨hl0, u1⟩
theorem b_X13_makes_307 {D : zD} {d : Nat} {G : zG} {h : zH} {Q : zO → zG → zH → Prop} {s0 : Int} (p1 : s0 = 0 ∨ s0 = 1)
    (u1 : Q (.inl (some (0, s0))) G h) :
    z_Y D M_X13_makes d 307 [] [(0, s0)] G h Q := by
  intro hl0
  exact z_bret rfl p1 dX13_makes_307 ⟨hl0, u1⟩
theorem b_X13_way_0 {D : zD} {d : Nat} {G : zG} {h : zH} {Q : zO → zG → zH → Prop} {x1 : Int}
    (u1 : z_Kv D M_X13_begin d [(2, 88)] G h (fun G h => z_Y D M_X13_way d 14 [(0, 2, 88), (1, 0, x1), (2, 0, (h 88 20)), (3, 0, (h 88 21))] [] G h Q)) :
    z_Y D M_X13_way d 0 [(0, 2, 88), (1, 0, x1)] [] G h Q := by
  intro hl0
  refine z_aload_n (q := 1) 0 dX13_way_0 rfl rfl ?_
  refine z_gf (q := 4) (ki := 20) (v := (0, (h 88 20))) fX13_233 rfl rfl (hl0.i 88 (by decide) rfl) dX13_way_1 rfl ?_
  refine z_istore_n (q := 5) (L' := [(0, 2, 88), (1, 0, x1), (2, 0, (h 88 20))]) dX13_way_4 rfl (by decide) rfl ?_
  refine z_aload_n (q := 6) 0 dX13_way_5 rfl rfl ?_
  refine z_gf (q := 9) (ki := 21) (v := (0, (h 88 21))) fX13_52 rfl rfl (hl0.i 88 (by decide) rfl) dX13_way_6 rfl ?_
  refine z_istore_n (q := 10) (L' := [(0, 2, 88), (1, 0, x1), (2, 0, (h 88 20)), (3, 0, (h 88 21))]) dX13_way_9 rfl (by decide) rfl ?_
  refine z_aload_n (q := 11) 0 dX13_way_10 rfl rfl ?_
  exact z_goV (q := 14) (av := []) (rest := []) cb11 (hl0.i 88 (by decide) rfl) z_tov hl0 (u1) mo_X13_begin np_X13_begin k1307 k1309 k42 rfl (Nat.le_of_ble_eq_true rfl) dX13_way_11 rfl
theorem b_X13_way_14 {D : zD} {d : Nat} {G : zG} {h : zH} {Q : zO → zG → zH → Prop} {x1 x2 x3 : Int}
    (u1 : z_Ki D M_X13_isWay d [(0, x1)] G h (fun r G h => z_Y D M_X13_way d 18 [(0, 2, 88), (1, 0, x1), (2, 0, x2), (3, 0, x3)] [(0, r)] G h Q)) :
    z_Y D M_X13_way d 14 [(0, 2, 88), (1, 0, x1), (2, 0, x2), (3, 0, x3)] [] G h Q := by
  intro hl0
  refine z_iload_n (q := 15) 1 dX13_way_14 rfl rfl ?_
  exact z_goS (q := 18) (av := [(0, x1)]) (rest := []) z_toi hl0 (u1) mo_X13_isWay np_X13_isWay k1356 k1357 rfl (Nat.le_of_ble_eq_true rfl) dX13_way_15 rfl
theorem b_X13_way_18 {D : zD} {d : Nat} {G : zG} {h : zH} {Q : zO → zG → zH → Prop} {s0 x1 x2 x3 : Int} (p1 : z_in s0)
    (u1 : ¬ s0 = 0 → z_Kv D M_X13_scan d [(2, 88)] G (z_wr (z_wr h 95 8 0) 88 19 0) (fun G h => z_Y D M_X13_way d 51 [(0, 2, 88), (1, 0, x1)] [] G h Q))
    (u2 : ¬ (¬ s0 = 0) → Q (.inl (some (0, (-2)))) G (z_wr (z_wr h 88 20 x2) 88 21 x3)) :
    z_Y D M_X13_way d 18 [(0, 2, 88), (1, 0, x1), (2, 0, x2), (3, 0, x3)] [(0, s0)] G h Q := by
  intro hl0
  refine z_if_ne (q := 21) (t := 34) p1 dX13_way_18 (by decide) rfl (fun c1 => ?_) (fun c1 => ?_)
  · refine z_aload_n (q := 35) 0 dX13_way_34 rfl rfl ?_
    refine z_gf (q := 38) (ki := 8) (v := (2, 95)) fX13_29 rfl (z_ldr rfl (hl0.ref 87 rfl)) (hl0.i 88 (by decide) rfl) dX13_way_35 rfl ?_
    refine z_bipush (q := 40) dX13_way_38 rfl (by decide) ?_
    refine z_iconst (q := 41) dX13_way_40 rfl ?_
    refine z_isn (q := 42) (hl0.i 95 (by decide) rfl) (hl0.n 95 (by decide) rfl) (by decide) (by decide) dX13_way_41 rfl ?_
    have hl1 := hl0.wr (v := 0) (hl0.i 95 (by decide) rfl) (i := 8) rfl
    refine z_aload_n (q := 43) 0 dX13_way_42 rfl rfl ?_
    refine z_iconst (q := 44) dX13_way_43 rfl ?_
    refine z_pf (q := 47) (ki := 19) fX13_297 rfl (z_sv0 rfl) (hl1.i 88 (by decide) rfl) dX13_way_44 rfl ?_
    have hl2 := hl1.wr (v := 0) (hl1.i 88 (by decide) rfl) (i := 19) (by decide)
    refine z_aload_n (q := 48) 0 dX13_way_47 rfl rfl ?_
    refine z_sub (L' := [(0, 2, 88), (1, 0, x1)]) [0, 1] rfl ?_
    exact z_goV (q := 51) (av := []) (rest := []) cb11 (hl2.i 88 (by decide) rfl) z_tov hl2 (u1 c1) mo_X13_scan np_X13_scan k1359 k1361 k49 rfl (Nat.le_of_ble_eq_true rfl) dX13_way_48 rfl
  · refine z_aload_n (q := 22) 0 dX13_way_21 rfl rfl ?_
    refine z_iload_n (q := 23) 2 dX13_way_22 rfl rfl ?_
    refine z_pf (q := 26) (ki := 20) fX13_233 rfl (z_sv0 rfl) (hl0.i 88 (by decide) rfl) dX13_way_23 rfl ?_
    have hl1 := hl0.wr (v := x2) (hl0.i 88 (by decide) rfl) (i := 20) (by decide)
    refine z_aload_n (q := 27) 0 dX13_way_26 rfl rfl ?_
    refine z_iload_n (q := 28) 3 dX13_way_27 rfl rfl ?_
    refine z_pf (q := 31) (ki := 21) fX13_52 rfl (z_sv0 rfl) (hl1.i 88 (by decide) rfl) dX13_way_28 rfl ?_
    have hl2 := hl1.wr (v := x3) (hl1.i 88 (by decide) rfl) (i := 21) (by decide)
    refine z_bipush (q := 33) dX13_way_31 rfl (by decide) ?_
    exact z_iret rfl dX13_way_33 ⟨hl2, u2 c1⟩
theorem b_X13_way_51 {D : zD} {d : Nat} {G : zG} {h : zH} {Q : zO → zG → zH → Prop} {x1 : Int}
    (u1 : z_KT D M_X13_way M_X13_readWay d 52 55 [(0, 2, 88), (1, 0, x1)] [] [(2, 88)] G h Q) :
    z_Y D M_X13_way d 51 [(0, 2, 88), (1, 0, x1)] [] G h Q := by
  intro hl0
  refine z_aload_n (q := 52) 0 dX13_way_51 rfl rfl ?_
  exact z_goVT (q := 55) (av := []) (rest := []) cb11 (hl0.i 88 (by decide) rfl) hl0 (u1) mo_X13_readWay np_X13_readWay k1363 k1365 k50 rfl (Nat.le_of_ble_eq_true rfl) dX13_way_52 rfl
theorem b_X13_way_55 {D : zD} {d : Nat} {G : zG} {h : zH} {Q : zO → zG → zH → Prop} {x1 : Int} (p1 : z_in (h 88 18))
    (u1 : (h 88 18) = 0 → z_Kv D M_X13_takeWay d [(2, 88), (0, x1), (0, 8)] G h (fun G h => z_Y D M_X13_way d 86 [(0, 2, 88), (1, 0, x1)] [] G h Q))
    (u2 : ¬ ((h 88 18) = 0) → z_Ka D M_X13_wrong d [(2, 88), (0, 1), (0, (h 88 16))] G h (fun r G h => z_Y D M_X13_way d 71 [] [(2, r)] G h Q)) :
    z_Y D M_X13_way d 55 [(0, 2, 88), (1, 0, x1)] [] G h Q := by
  intro hl0
  refine z_aload_n (q := 56) 0 dX13_way_55 rfl rfl ?_
  refine z_gf (q := 59) (ki := 18) (v := (0, (h 88 18))) fX13_261 rfl rfl (hl0.i 88 (by decide) rfl) dX13_way_56 rfl ?_
  refine z_if_eq (q := 62) (t := 72) p1 dX13_way_59 (by decide) rfl (fun c1 => ?_) (fun c1 => ?_)
  · refine z_goto (t := 79) dX13_way_72 (by decide) ?_
    refine z_aload_n (q := 80) 0 dX13_way_79 rfl rfl ?_
    refine z_iload_n (q := 81) 1 dX13_way_80 rfl rfl ?_
    refine z_bipush (q := 83) dX13_way_81 rfl (by decide) ?_
    exact z_goV (q := 86) (av := [(0, x1), (0, 8)]) (rest := []) cb11 (hl0.i 88 (by decide) rfl) z_tov hl0 (u1 c1) mo_X13_takeWay np_X13_takeWay k1449 k1451 k58 rfl (Nat.le_of_ble_eq_true rfl) dX13_way_83 rfl
  · refine z_aload_n (q := 63) 0 dX13_way_62 rfl rfl ?_
    refine z_iconst (q := 64) dX13_way_63 rfl ?_
    refine z_aload_n (q := 65) 0 dX13_way_64 rfl rfl ?_
    refine z_gf (q := 68) (ki := 16) (v := (0, (h 88 16))) fX13_258 rfl rfl (hl0.i 88 (by decide) rfl) dX13_way_65 rfl ?_
    refine z_sub (L' := []) [] rfl ?_
    exact z_goV (q := 71) (av := [(0, 1), (0, (h 88 16))]) (rest := []) cb11 (hl0.i 88 (by decide) rfl) z_toa hl0 (u2 c1) mo_X13_wrong np_X13_wrong k1337 k1339 k46 rfl (Nat.le_of_ble_eq_true rfl) dX13_way_68 rfl
theorem b_X13_way_75 {D : zD} {d : Nat} {G : zG} {h : zH} {Q : zO → zG → zH → Prop} {s0 : Int}
    (u1 : Q (.inl (some (0, (-1)))) G h) :
    z_Y D M_X13_way d 75 [] [(2, s0)] G h Q := by
  intro hl0
  refine z_astore (q := 77) (L' := [(4, 2, s0)]) dX13_way_75 rfl (by decide) rfl ?_
  refine z_iconst (q := 78) dX13_way_77 rfl ?_
  exact z_iret rfl dX13_way_78 ⟨hl0, u1⟩
theorem b_X13_way_86 {D : zD} {d : Nat} {G : zG} {h : zH} {Q : zO → zG → zH → Prop} {x1 : Int} (p1 : 0 ≤ x1) (p2 : x1 < 9)
    (u1 : Q (.inl (some (0, (h 95 x1)))) G h) :
    z_Y D M_X13_way d 86 [(0, 2, 88), (1, 0, x1)] [] G h Q := by
  intro hl0
  refine z_aload_n (q := 87) 0 dX13_way_86 rfl rfl ?_
  refine z_gf (q := 90) (ki := 8) (v := (2, 95)) fX13_29 rfl (z_ldr rfl (hl0.ref 87 rfl)) (hl0.i 88 (by decide) rfl) dX13_way_87 rfl ?_
  refine z_iload_n (q := 91) 1 dX13_way_90 rfl rfl ?_
  refine z_iald (q := 92) (hl0.a 95 (by decide) rfl) p1 p2 dX13_way_91 rfl ?_
  exact z_iret rfl dX13_way_92 ⟨hl0, u1⟩
theorem b_X13_way_71 {D : zD} {d : Nat} {G : zG} {h : zH} {Q : zO → zG → zH → Prop} {s0 : Int} (p1 : ¬ s0 = -1) (p2 : z_is G s0 10)
    (u1 : z_Y D M_X13_way d 75 [] [(2, s0)] G h Q) :
    z_Y D M_X13_way d 71 [] [(2, s0)] G h Q := by
  intro hl0
  exact z_throw p1 dX13_way_71 (z_Y.catch rfl (by decide) (by decide) (by decide) cb10 p2 k1097 (fun hl => z_sub (L' := []) [] rfl (u1 hl)) hl0)
