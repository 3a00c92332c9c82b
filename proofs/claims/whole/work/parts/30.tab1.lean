theorem b_X4_shape_0 {D : zD} {d : Nat} {G : zG} {h : zH} {Q : zO → zG → zH → Prop} {x0 x1 x2 : Int} (p1 : z_in x1) (p2 : ¬ (x1 < 1) → ¬ (12 < x1) → z_in x2) (p3 : ¬ (x1 < 1) → ¬ (12 < x1) → ¬ (x2 < 1) → x2 ≤ 6 → z_is G x0 3)
    (u1 : x1 < 1 → Q (.inl (some (0, 0))) G h)
    (u2 : ¬ (x1 < 1) → 12 < x1 → Q (.inl (some (0, 0))) G h)
    (u3 : ¬ (x1 < 1) → ¬ (12 < x1) → x2 < 1 → Q (.inl (some (0, 0))) G h)
    (u4 : ¬ (x1 < 1) → ¬ (12 < x1) → ¬ (x2 < 1) → x2 ≤ 6 → Q (.inl (some (0, 1))) G (z_wr (z_wr h x0 1 x1) x0 2 x2))
    (u5 : ¬ (x1 < 1) → ¬ (12 < x1) → ¬ (x2 < 1) → ¬ (x2 ≤ 6) → Q (.inl (some (0, 0))) G h) :
    z_Y D M_X4_shape d 0 [(0, 2, x0), (1, 0, x1), (2, 0, x2)] [] G h Q := by
  intro hl0
  refine z_iload_n (q := 1) 1 dX4_shape_0 rfl rfl ?_
  refine z_iconst (q := 2) dX4_shape_1 rfl ?_
  refine z_icmp_lt (q := 5) (t := 22) p1 ⟨by decide, by decide⟩ dX4_shape_2 (by decide) rfl (fun c1 => ?_) (fun c1 => ?_)
  · refine z_iconst (q := 23) dX4_shape_22 rfl ?_
    exact z_bret rfl (by decide) dX4_shape_23 ⟨hl0, u1 c1⟩
  · refine z_iload_n (q := 6) 1 dX4_shape_5 rfl rfl ?_
    refine z_bipush (q := 8) dX4_shape_6 rfl (by decide) ?_
    refine z_icmp_gt (q := 11) (t := 22) p1 ⟨by decide, by decide⟩ dX4_shape_8 (by decide) rfl (fun c2 => ?_) (fun c2 => ?_)
    · refine z_iconst (q := 23) dX4_shape_22 rfl ?_
      exact z_bret rfl (by decide) dX4_shape_23 ⟨hl0, u2 c1 c2⟩
    · refine z_iload_n (q := 12) 2 dX4_shape_11 rfl rfl ?_
      refine z_iconst (q := 13) dX4_shape_12 rfl ?_
      refine z_icmp_lt (q := 16) (t := 22) (p2 c1 c2) ⟨by decide, by decide⟩ dX4_shape_13 (by decide) rfl (fun c3 => ?_) (fun c3 => ?_)
      · refine z_iconst (q := 23) dX4_shape_22 rfl ?_
        exact z_bret rfl (by decide) dX4_shape_23 ⟨hl0, u3 c1 c2 c3⟩
      · refine z_iload_n (q := 17) 2 dX4_shape_16 rfl rfl ?_
        refine z_bipush (q := 19) dX4_shape_17 rfl (by decide) ?_
        refine z_icmp_le (q := 22) (t := 24) (p2 c1 c2) ⟨by decide, by decide⟩ dX4_shape_19 (by decide) rfl (fun c4 => ?_) (fun c4 => ?_)
        · refine z_aload_n (q := 25) 0 dX4_shape_24 rfl rfl ?_
          refine z_iload_n (q := 26) 1 dX4_shape_25 rfl rfl ?_
          refine z_pf (q := 29) (ki := 1) fX4_13 rfl (z_sv0 rfl) (p3 c1 c2 c3 c4) dX4_shape_26 rfl ?_
          have hl1 := hl0.wr (v := x1) (p3 c1 c2 c3 c4) (i := 1) (by decide)
          refine z_aload_n (q := 30) 0 dX4_shape_29 rfl rfl ?_
          refine z_iload_n (q := 31) 2 dX4_shape_30 rfl rfl ?_
          refine z_pf (q := 34) (ki := 2) fX4_17 rfl (z_sv0 rfl) (p3 c1 c2 c3 c4) dX4_shape_31 rfl ?_
          have hl2 := hl1.wr (v := x2) (p3 c1 c2 c3 c4) (i := 2) (by decide)
          refine z_iconst (q := 35) dX4_shape_34 rfl ?_
          exact z_bret rfl (by decide) dX4_shape_35 ⟨hl2, u4 c1 c2 c3 c4⟩
        · refine z_iconst (q := 23) dX4_shape_22 rfl ?_
          exact z_bret rfl (by decide) dX4_shape_23 ⟨hl0, u5 c1 c2 c3 c4⟩
theorem b_X4_has_0 {D : zD} {d : Nat} {G : zG} {h : zH} {Q : zO → zG → zH → Prop} {x0 x1 x2 : Int} (p1 : z_in x1) (p2 : ¬ (x1 < 0) → z_is G x0 3) (p3 : ¬ (x1 < 0) → z_in (h x0 1)) (p4 : ¬ (x1 < 0) → ¬ ((h x0 1) ≤ x1) → z_in x2) (p5 : ¬ (x1 < 0) → ¬ ((h x0 1) ≤ x1) → ¬ (x2 < 0) → z_in (h x0 2))
    (u1 : x1 < 0 → Q (.inl (some (0, 0))) G h)
    (u2 : ¬ (x1 < 0) → (h x0 1) ≤ x1 → Q (.inl (some (0, 0))) G h)
    (u3 : ¬ (x1 < 0) → ¬ ((h x0 1) ≤ x1) → x2 < 0 → Q (.inl (some (0, 0))) G h)
    (u4 : ¬ (x1 < 0) → ¬ ((h x0 1) ≤ x1) → ¬ (x2 < 0) → (h x0 2) ≤ x2 → Q (.inl (some (0, 0))) G h)
    (u5 : ¬ (x1 < 0) → ¬ ((h x0 1) ≤ x1) → ¬ (x2 < 0) → ¬ ((h x0 2) ≤ x2) → Q (.inl (some (0, 1))) G h) :
    z_Y D M_X4_has d 0 [(0, 2, x0), (1, 0, x1), (2, 0, x2)] [] G h Q := by
  intro hl0
  refine z_iload_n (q := 1) 1 dX4_has_0 rfl rfl ?_
  refine z_if_lt (q := 4) (t := 28) p1 dX4_has_1 (by decide) rfl (fun c1 => ?_) (fun c1 => ?_)
  · refine z_iconst (q := 29) dX4_has_28 rfl ?_
    exact z_bret rfl (by decide) dX4_has_29 ⟨hl0, u1 c1⟩
  · refine z_iload_n (q := 5) 1 dX4_has_4 rfl rfl ?_
    refine z_aload_n (q := 6) 0 dX4_has_5 rfl rfl ?_
    refine z_gf (q := 9) (ki := 1) (v := (0, (h x0 1))) fX4_13 rfl rfl (p2 c1) dX4_has_6 rfl ?_
    refine z_icmp_ge (q := 12) (t := 28) p1 (p3 c1) dX4_has_9 (by decide) rfl (fun c2 => ?_) (fun c2 => ?_)
    · refine z_iconst (q := 29) dX4_has_28 rfl ?_
      exact z_bret rfl (by decide) dX4_has_29 ⟨hl0, u2 c1 c2⟩
    · refine z_iload_n (q := 13) 2 dX4_has_12 rfl rfl ?_
      refine z_if_lt (q := 16) (t := 28) (p4 c1 c2) dX4_has_13 (by decide) rfl (fun c3 => ?_) (fun c3 => ?_)
      · refine z_iconst (q := 29) dX4_has_28 rfl ?_
        exact z_bret rfl (by decide) dX4_has_29 ⟨hl0, u3 c1 c2 c3⟩
      · refine z_iload_n (q := 17) 2 dX4_has_16 rfl rfl ?_
        refine z_aload_n (q := 18) 0 dX4_has_17 rfl rfl ?_
        refine z_gf (q := 21) (ki := 2) (v := (0, (h x0 2))) fX4_17 rfl rfl (p2 c1) dX4_has_18 rfl ?_
        refine z_icmp_ge (q := 24) (t := 28) (p4 c1 c2) (p5 c1 c2 c3) dX4_has_21 (by decide) rfl (fun c4 => ?_) (fun c4 => ?_)
        · refine z_iconst (q := 29) dX4_has_28 rfl ?_
          exact z_bret rfl (by decide) dX4_has_29 ⟨hl0, u4 c1 c2 c3 c4⟩
        · refine z_iconst (q := 25) dX4_has_24 rfl ?_
          refine z_goto (t := 29) dX4_has_25 (by decide) ?_
          exact z_bret rfl (by decide) dX4_has_29 ⟨hl0, u5 c1 c2 c3 c4⟩
theorem b_X4_at_0 {D : zD} {d : Nat} {G : zG} {h : zH} {Q : zO → zG → zH → Prop} {x0 x1 x2 : Int} (p1 : z_is G x0 3) (p2 : z_in ((x1 * (h x0 2)) + x2)) (p3 : ¬ (((x1 * (h x0 2)) + x2) < 0) → ¬ (72 ≤ ((x1 * (h x0 2)) + x2)) → 0 ≤ ((x1 * (h x0 2)) + x2)) (p4 : ¬ (((x1 * (h x0 2)) + x2) < 0) → ¬ (72 ≤ ((x1 * (h x0 2)) + x2)) → ((x1 * (h x0 2)) + x2) < 72)
    (u1 : ((x1 * (h x0 2)) + x2) < 0 → Q (.inl (some (1, 0))) G h)
    (u2 : ¬ (((x1 * (h x0 2)) + x2) < 0) → 72 ≤ ((x1 * (h x0 2)) + x2) → Q (.inl (some (1, 0))) G h)
    (u3 : ¬ (((x1 * (h x0 2)) + x2) < 0) → ¬ (72 ≤ ((x1 * (h x0 2)) + x2)) → Q (.inl (some (1, (h (x0 + 1) ((x1 * (h x0 2)) + x2))))) G h) :
    z_Y D M_X4_at d 0 [(0, 2, x0), (1, 0, x1), (2, 0, x2)] [] G h Q := by
  intro hl0
  refine z_iload_n (q := 1) 1 dX4_at_0 rfl rfl ?_
  refine z_aload_n (q := 2) 0 dX4_at_1 rfl rfl ?_
  refine z_gf (q := 5) (ki := 2) (v := (0, (h x0 2))) fX4_17 rfl rfl p1 dX4_at_2 rfl ?_
  refine z_imul (q := 6) dX4_at_5 rfl ?_
  refine z_iload_n (q := 7) 2 dX4_at_6 rfl rfl ?_
  refine z_iadd (q := 8) dX4_at_7 rfl ?_
  refine z_istore_n (q := 9) (L' := [(0, 2, x0), (1, 0, x1), (2, 0, x2), (3, 0, ((x1 * (h x0 2)) + x2))]) dX4_at_8 rfl (by decide) rfl ?_
  refine z_iload_n (q := 10) 3 dX4_at_9 rfl rfl ?_
  refine z_if_lt (q := 13) (t := 28) p2 dX4_at_10 (by decide) rfl (fun c1 => ?_) (fun c1 => ?_)
  · refine z_lconst0 (q := 29) dX4_at_28 rfl ?_
    exact z_lret rfl dX4_at_29 ⟨hl0, u1 c1⟩
  · refine z_iload_n (q := 14) 3 dX4_at_13 rfl rfl ?_
    refine z_bipush (q := 16) dX4_at_14 rfl (by decide) ?_
    refine z_icmp_ge (q := 19) (t := 28) p2 ⟨by decide, by decide⟩ dX4_at_16 (by decide) rfl (fun c2 => ?_) (fun c2 => ?_)
    · refine z_lconst0 (q := 29) dX4_at_28 rfl ?_
      exact z_lret rfl dX4_at_29 ⟨hl0, u2 c1 c2⟩
    · refine z_aload_n (q := 20) 0 dX4_at_19 rfl rfl ?_
      refine z_gf (q := 23) (ki := 0) (v := (2, (x0 + 1))) fX4_9 rfl (z_ldr rfl (hl0.tab p1)) p1 dX4_at_20 rfl ?_
      refine z_iload_n (q := 24) 3 dX4_at_23 rfl rfl ?_
      refine z_lale (q := 25) (v := (h (x0 + 1) ((x1 * (h x0 2)) + x2))) (hl0.tat p1) (p3 c1 c2) (p4 c1 c2) rfl dX4_at_24 rfl ?_
      refine z_goto (t := 29) dX4_at_25 (by decide) ?_
      exact z_lret rfl dX4_at_29 ⟨hl0, u3 c1 c2⟩
theorem b_X4_put_0 {D : zD} {d : Nat} {G : zG} {h : zH} {Q : zO → zG → zH → Prop} {x0 x1 x2 x3 : Int} (p1 : z_is G x0 3) (p2 : z_in ((x1 * (h x0 2)) + x2)) (p3 : ¬ (((x1 * (h x0 2)) + x2) < 0) → ¬ (72 ≤ ((x1 * (h x0 2)) + x2)) → 0 ≤ ((x1 * (h x0 2)) + x2)) (p4 : ¬ (((x1 * (h x0 2)) + x2) < 0) → ¬ (72 ≤ ((x1 * (h x0 2)) + x2)) → ((x1 * (h x0 2)) + x2) < 72)
    (u1 : ((x1 * (h x0 2)) + x2) < 0 → Q (.inl none) G h)
    (u2 : ¬ (((x1 * (h x0 2)) + x2) < 0) → 72 ≤ ((x1 * (h x0 2)) + x2) → Q (.inl none) G h)
    (u3 : ¬ (((x1 * (h x0 2)) + x2) < 0) → ¬ (72 ≤ ((x1 * (h x0 2)) + x2)) → Q (.inl none) G (z_wr h (x0 + 1) ((x1 * (h x0 2)) + x2) x3)) :
    z_Y D M_X4_put d 0 [(0, 2, x0), (1, 0, x1), (2, 0, x2), (3, 1, x3)] [] G h Q := by
  intro hl0
  refine z_iload_n (q := 1) 1 dX4_put_0 rfl rfl ?_
  refine z_aload_n (q := 2) 0 dX4_put_1 rfl rfl ?_
  refine z_gf (q := 5) (ki := 2) (v := (0, (h x0 2))) fX4_17 rfl rfl p1 dX4_put_2 rfl ?_
  refine z_imul (q := 6) dX4_put_5 rfl ?_
  refine z_iload_n (q := 7) 2 dX4_put_6 rfl rfl ?_
  refine z_iadd (q := 8) dX4_put_7 rfl ?_
  refine z_istore (q := 10) (L' := [(0, 2, x0), (1, 0, x1), (2, 0, x2), (3, 1, x3), (5, 0, ((x1 * (h x0 2)) + x2))]) dX4_put_8 rfl (by decide) rfl ?_
  refine z_iload (q := 12) 4 dX4_put_10 rfl rfl ?_
  refine z_if_lt (q := 15) (t := 30) p2 dX4_put_12 (by decide) rfl (fun c1 => ?_) (fun c1 => ?_)
  · exact z_vret rfl dX4_put_30 ⟨hl0, u1 c1⟩
  · refine z_iload (q := 17) 4 dX4_put_15 rfl rfl ?_
    refine z_bipush (q := 19) dX4_put_17 rfl (by decide) ?_
    refine z_icmp_ge (q := 22) (t := 30) p2 ⟨by decide, by decide⟩ dX4_put_19 (by decide) rfl (fun c2 => ?_) (fun c2 => ?_)
    · exact z_vret rfl dX4_put_30 ⟨hl0, u2 c1 c2⟩
    · refine z_aload_n (q := 23) 0 dX4_put_22 rfl rfl ?_
      refine z_gf (q := 26) (ki := 0) (v := (2, (x0 + 1))) fX4_9 rfl (z_ldr rfl (hl0.tab p1)) p1 dX4_put_23 rfl ?_
      refine z_iload (q := 28) 4 dX4_put_26 rfl rfl ?_
      refine z_lload_n (q := 29) 3 dX4_put_28 rfl rfl ?_
      refine z_lsn (q := 30) (hl0.ti p1) (hl0.tn p1) (p3 c1 c2) (p4 c1 c2) dX4_put_29 rfl ?_
      have hl1 := hl0.wr (v := x3) (hl0.ti p1) (i := ((x1 * (h x0 2)) + x2)) rfl
      exact z_vret rfl dX4_put_30 ⟨hl1, u3 c1 c2⟩
theorem b_X4_become_0 {D : zD} {d : Nat} {G : zG} {h : zH} {Q : zO → zG → zH → Prop} {x0 x1 : Int} (hd : 1 ≤ d) (p1 : z_is G x1 3) (p2 : z_is G x0 3) (p3 : 0 ≤ ((h x1 1) * (h x1 2))) (p4 : 0 + ((h x1 1) * (h x1 2)) ≤ 72)
    (u1 : Q (.inl none) G (z_cp (z_wr (z_wr h x0 1 (h x1 1)) x0 2 (h x1 2)) (x1 + 1) 0 (x0 + 1) 0 ((h x1 1) * (h x1 2)))) :
    z_Y D M_X4_become d 0 [(0, 2, x0), (1, 2, x1)] [] G h Q := by
  intro hl0
  refine z_aload_n (q := 1) 0 dX4_become_0 rfl rfl ?_
  refine z_aload_n (q := 2) 1 dX4_become_1 rfl rfl ?_
  refine z_gf (q := 5) (ki := 1) (v := (0, (h x1 1))) fX4_13 rfl rfl p1 dX4_become_2 rfl ?_
  refine z_pf (q := 8) (ki := 1) fX4_13 rfl (z_sv0 rfl) p2 dX4_become_5 rfl ?_
  have hl1 := hl0.wr (v := (h x1 1)) p2 (i := 1) (by decide)
  refine z_aload_n (q := 9) 0 dX4_become_8 rfl rfl ?_
  refine z_aload_n (q := 10) 1 dX4_become_9 rfl rfl ?_
  refine z_gf (q := 13) (ki := 2) (v := (0, (h x1 2))) fX4_17 rfl (z_ldi rfl (w_nj (by decide))) p1 dX4_become_10 rfl ?_
  refine z_pf (q := 16) (ki := 2) fX4_17 rfl (z_sv0 rfl) p2 dX4_become_13 rfl ?_
  have hl2 := hl1.wr (v := (h x1 2)) p2 (i := 2) (by decide)
  refine z_aload_n (q := 17) 1 dX4_become_16 rfl rfl ?_
  refine z_gf (q := 20) (ki := 0) (v := (2, (x1 + 1))) fX4_9 rfl (z_ldr rfl (hl2.tab p1)) p1 dX4_become_17 rfl ?_
  refine z_iconst (q := 21) dX4_become_20 rfl ?_
  refine z_aload_n (q := 22) 0 dX4_become_21 rfl rfl ?_
  refine z_gf (q := 25) (ki := 0) (v := (2, (x0 + 1))) fX4_9 rfl (z_ldr rfl (hl2.tab p2)) p2 dX4_become_22 rfl ?_
  refine z_iconst (q := 26) dX4_become_25 rfl ?_
  refine z_aload_n (q := 27) 0 dX4_become_26 rfl rfl ?_
  refine z_gf (q := 30) (ki := 1) (v := (0, (h x1 1))) fX4_13 rfl (z_ldi rfl ((w_nj (by decide)).trans w_s)) p2 dX4_become_27 rfl ?_
  refine z_aload_n (q := 31) 0 dX4_become_30 rfl rfl ?_
  refine z_gf (q := 34) (ki := 2) (v := (0, (h x1 2))) fX4_17 rfl (z_ldi rfl w_s) p2 dX4_become_31 rfl ?_
  refine z_imul (q := 35) dX4_become_34 rfl ?_
  refine z_copy (q := 38) 51 (by decide) (hl2.ti p1) (hl2.ti p2) (by decide) (by decide) p3 (by rw [(hl2.tn p1)]; exact p4) (by rw [(hl2.tn p2)]; exact p4) k512 k514 k513 k111 (by omega) (nle rfl) dX4_become_35 rfl ?_
  have hl3 := hl2.cp (a := (x1 + 1)) (sp := 0) (dp := 0) (n := ((h x1 1) * (h x1 2))) (hl2.ti p2) (by decide)
  exact z_vret rfl dX4_become_38 ⟨hl3, u1⟩
