theorem b_X4_putRow_0 {D : zD} {d : Nat} {G : zG} {h : zH} {Q : zO → zG → zH → Prop} {x0 x1 x2 x3 x4 : Int}
    (u1 : z_Y D M_X4_putRow d 3 [(0, 2, x0), (1, 0, x1), (2, 2, x2), (3, 0, x3), (4, 0, x4), (5, 0, 0)] [] G h Q) :
    z_Y D M_X4_putRow d 0 [(0, 2, x0), (1, 0, x1), (2, 2, x2), (3, 0, x3), (4, 0, x4)] [] G h Q := by
  intro hl0
  refine z_iconst (q := 1) dX4_putRow_0 rfl ?_
  refine z_istore (q := 3) (L' := [(0, 2, x0), (1, 0, x1), (2, 2, x2), (3, 0, x3), (4, 0, x4), (5, 0, 0)]) dX4_putRow_1 rfl (by decide) rfl ?_
  exact u1 hl0
theorem b_X4_putRow_3 {D : zD} {d : Nat} {G : zG} {h : zH} {Q : zO → zG → zH → Prop} {x0 x1 x2 x3 x4 x5 : Int} (hd : 2 ≤ d) (p1 : z_in x5) (p2 : z_in x4) (p3 : ¬ (x4 ≤ x5) → z_is G x2 3) (p4 : ¬ (x4 ≤ x5) → 0 ≤ (x3 * (h x2 2) + x5)) (p5 : ¬ (x4 ≤ x5) → (x3 * (h x2 2) + x5) < 72) (p6 : ¬ (x4 ≤ x5) → z_is G x0 3) (p7 : ¬ (x4 ≤ x5) → 0 ≤ (x1 * (h x0 2) + x5)) (p8 : ¬ (x4 ≤ x5) → (x1 * (h x0 2) + x5) < 72)
    (u1 : x4 ≤ x5 → Q (.inl none) G h)
    (u2 : ¬ (x4 ≤ x5) → z_Y D M_X4_putRow d 3 [(0, 2, x0), (1, 0, x1), (2, 2, x2), (3, 0, x3), (4, 0, x4), (5, 0, (x5 + 1))] [] G (z_wr h (x0 + 1) (x1 * (h x0 2) + x5) (h (x2 + 1) (x3 * (h x2 2) + x5))) Q) :
    z_Y D M_X4_putRow d 3 [(0, 2, x0), (1, 0, x1), (2, 2, x2), (3, 0, x3), (4, 0, x4), (5, 0, x5)] [] G h Q := by
  intro hl0
  refine z_iload (q := 5) 5 dX4_putRow_3 rfl rfl ?_
  refine z_iload (q := 7) 4 dX4_putRow_5 rfl rfl ?_
  refine z_icmp_ge (q := 10) (t := 30) p1 p2 dX4_putRow_7 (by decide) rfl (fun c1 => ?_) (fun c1 => ?_)
  · exact z_vret rfl dX4_putRow_30 ⟨hl0, u1 c1⟩
  · refine z_aload_n (q := 11) 0 dX4_putRow_10 rfl rfl ?_
    refine z_iload_n (q := 12) 1 dX4_putRow_11 rfl rfl ?_
    refine z_iload (q := 14) 5 dX4_putRow_12 rfl rfl ?_
    refine z_aload_n (q := 15) 2 dX4_putRow_14 rfl rfl ?_
    refine z_iload_n (q := 16) 3 dX4_putRow_15 rfl rfl ?_
    refine z_iload (q := 18) 5 dX4_putRow_16 rfl rfl ?_
    have e1 := a_X4_at (D := D) (G := G) (h := h) (d := d - 1) (by omega) x2 x3 x5 (h x2 2) (h (x2 + 1) (x3 * (h x2 2) + x5)) (p3 c1) rfl (p4 c1) (p5 c1) rfl
    refine z_goV (q := 21) (av := [(0, x3), (0, x5)]) (rest := [(0, x5), (0, x1), (2, x0)]) cb3 (p3 c1) (z_tol) hl0 (z_El.K e1 (by omega) ?_) mo_X4_at np_X4_at k780 k704 k705 rfl (nle rfl) dX4_putRow_18 rfl
    have e2 := a_X4_put (D := D) (G := G) (h := h) (d := d - 1) (by omega) x0 x1 x5 (h (x2 + 1) (x3 * (h x2 2) + x5)) (h x0 2) (p6 c1) rfl (p7 c1) (p8 c1)
    refine z_goV (q := 24) (av := [(0, x1), (0, x5), (1, (h (x2 + 1) (x3 * (h x2 2) + x5)))]) (rest := []) cb3 (p6 c1) (z_tov) hl0 (z_Ev.K e2 (by omega) ?_) mo_X4_put np_X4_put k781 k745 k746 rfl (nle rfl) dX4_putRow_21 rfl
    have hl1 : lay G (z_wr h (x0 + 1) (x1 * (h x0 2) + x5) (h (x2 + 1) (x3 * (h x2 2) + x5))) := e2.lay hl0
    refine z_iinc (q := 27) (L' := [(0, 2, x0), (1, 0, x1), (2, 2, x2), (3, 0, x3), (4, 0, x4), (5, 0, (x5 + 1))]) 5 dX4_putRow_24 rfl rfl (by decide) rfl ?_
    refine z_goto (t := 3) dX4_putRow_27 (by decide) ?_
    exact u2 c1 hl1
theorem b_X4_isSame_0 {D : zD} {d : Nat} {G : zG} {h : zH} {Q : zO → zG → zH → Prop} {x0 x1 : Int} (p1 : z_is G x0 3) (p2 : z_is G x1 3) (p3 : z_in (h x0 1)) (p4 : z_in (h x1 1)) (p5 : ¬ (¬ (h x0 1) = (h x1 1)) → z_in (h x0 2)) (p6 : ¬ (¬ (h x0 1) = (h x1 1)) → z_in (h x1 2))
    (u1 : ¬ (h x0 1) = (h x1 1) → Q (.inl (some (0, 0))) G h)
    (u2 : ¬ (¬ (h x0 1) = (h x1 1)) → (h x0 2) = (h x1 2) → z_Y D M_X4_isSame d 26 [(0, 2, x0), (1, 2, x1), (2, 0, 0)] [] G h Q)
    (u3 : ¬ (¬ (h x0 1) = (h x1 1)) → ¬ ((h x0 2) = (h x1 2)) → Q (.inl (some (0, 0))) G h) :
    z_Y D M_X4_isSame d 0 [(0, 2, x0), (1, 2, x1)] [] G h Q := by
  intro hl0
  refine z_aload_n (q := 1) 0 dX4_isSame_0 rfl rfl ?_
  refine z_gf (q := 4) (ki := 1) (v := (0, (h x0 1))) fX4_13 rfl rfl p1 dX4_isSame_1 rfl ?_
  refine z_aload_n (q := 5) 1 dX4_isSame_4 rfl rfl ?_
  refine z_gf (q := 8) (ki := 1) (v := (0, (h x1 1))) fX4_13 rfl rfl p2 dX4_isSame_5 rfl ?_
  refine z_icmp_ne (q := 11) (t := 22) p3 p4 dX4_isSame_8 (by decide) rfl (fun c1 => ?_) (fun c1 => ?_)
  · refine z_iconst (q := 23) dX4_isSame_22 rfl ?_
    exact z_bret rfl (by decide) dX4_isSame_23 ⟨hl0, u1 c1⟩
  · refine z_aload_n (q := 12) 0 dX4_isSame_11 rfl rfl ?_
    refine z_gf (q := 15) (ki := 2) (v := (0, (h x0 2))) fX4_17 rfl rfl p1 dX4_isSame_12 rfl ?_
    refine z_aload_n (q := 16) 1 dX4_isSame_15 rfl rfl ?_
    refine z_gf (q := 19) (ki := 2) (v := (0, (h x1 2))) fX4_17 rfl rfl p2 dX4_isSame_16 rfl ?_
    refine z_icmp_eq (q := 22) (t := 24) (p5 c1) (p6 c1) dX4_isSame_19 (by decide) rfl (fun c2 => ?_) (fun c2 => ?_)
    · refine z_iconst (q := 25) dX4_isSame_24 rfl ?_
      refine z_istore_n (q := 26) (L' := [(0, 2, x0), (1, 2, x1), (2, 0, 0)]) dX4_isSame_25 rfl (by decide) rfl ?_
      exact u2 c1 c2 hl0
    · refine z_iconst (q := 23) dX4_isSame_22 rfl ?_
      exact z_bret rfl (by decide) dX4_isSame_23 ⟨hl0, u3 c1 c2⟩
theorem b_X4_isSame_26 {D : zD} {d : Nat} {G : zG} {h : zH} {Q : zO → zG → zH → Prop} {x0 x1 x2 : Int} (p1 : z_is G x0 3) (p2 : z_in x2) (p3 : z_in ((h x0 1) * (h x0 2))) (p4 : ¬ (((h x0 1) * (h x0 2)) ≤ x2) → 0 ≤ x2) (p5 : ¬ (((h x0 1) * (h x0 2)) ≤ x2) → x2 < 72) (p6 : ¬ (((h x0 1) * (h x0 2)) ≤ x2) → z_is G x1 3) (p7 : ¬ (((h x0 1) * (h x0 2)) ≤ x2) → z_in64 (h (x0 + 1) x2)) (p8 : ¬ (((h x0 1) * (h x0 2)) ≤ x2) → z_in64 (h (x1 + 1) x2))
    (u1 : ((h x0 1) * (h x0 2)) ≤ x2 → Q (.inl (some (0, 1))) G h)
    (u2 : ¬ (((h x0 1) * (h x0 2)) ≤ x2) → (h (x0 + 1) x2) = (h (x1 + 1) x2) → z_Y D M_X4_isSame d 26 [(0, 2, x0), (1, 2, x1), (2, 0, (x2 + 1))] [] G h Q)
    (u3 : ¬ (((h x0 1) * (h x0 2)) ≤ x2) → ¬ ((h (x0 + 1) x2) = (h (x1 + 1) x2)) → Q (.inl (some (0, 0))) G h) :
    z_Y D M_X4_isSame d 26 [(0, 2, x0), (1, 2, x1), (2, 0, x2)] [] G h Q := by
  intro hl0
  refine z_iload_n (q := 27) 2 dX4_isSame_26 rfl rfl ?_
  refine z_aload_n (q := 28) 0 dX4_isSame_27 rfl rfl ?_
  refine z_gf (q := 31) (ki := 1) (v := (0, (h x0 1))) fX4_13 rfl rfl p1 dX4_isSame_28 rfl ?_
  refine z_aload_n (q := 32) 0 dX4_isSame_31 rfl rfl ?_
  refine z_gf (q := 35) (ki := 2) (v := (0, (h x0 2))) fX4_17 rfl rfl p1 dX4_isSame_32 rfl ?_
  refine z_imul (q := 36) dX4_isSame_35 rfl ?_
  refine z_icmp_ge (q := 39) (t := 63) p2 p3 dX4_isSame_36 (by decide) rfl (fun c1 => ?_) (fun c1 => ?_)
  · refine z_iconst (q := 64) dX4_isSame_63 rfl ?_
    exact z_bret rfl (by decide) dX4_isSame_64 ⟨hl0, u1 c1⟩
  · refine z_aload_n (q := 40) 0 dX4_isSame_39 rfl rfl ?_
    refine z_gf (q := 43) (ki := 0) (v := (2, (x0 + 1))) fX4_9 rfl (z_ldr rfl (hl0.tab p1)) p1 dX4_isSame_40 rfl ?_
    refine z_iload_n (q := 44) 2 dX4_isSame_43 rfl rfl ?_
    refine z_lale (q := 45) (v := (h (x0 + 1) x2)) (hl0.tat p1) (p4 c1) (p5 c1) rfl dX4_isSame_44 rfl ?_
    refine z_aload_n (q := 46) 1 dX4_isSame_45 rfl rfl ?_
    refine z_gf (q := 49) (ki := 0) (v := (2, (x1 + 1))) fX4_9 rfl (z_ldr rfl (hl0.tab (p6 c1))) (p6 c1) dX4_isSame_46 rfl ?_
    refine z_iload_n (q := 50) 2 dX4_isSame_49 rfl rfl ?_
    refine z_lale (q := 51) (v := (h (x1 + 1) x2)) (hl0.tat (p6 c1)) (p4 c1) (p5 c1) rfl dX4_isSame_50 rfl ?_
    refine z_lcmp_eq (q := 55) (t := 57) (p7 c1) (p8 c1) dX4_isSame_51 (rfl : _ = 52) dX4_isSame_52 (by decide) rfl (fun c2 => ?_) (fun c2 => ?_)
    · refine z_iinc (q := 60) (L' := [(0, 2, x0), (1, 2, x1), (2, 0, (x2 + 1))]) 2 dX4_isSame_57 rfl rfl (by decide) rfl ?_
      refine z_goto (t := 26) dX4_isSame_60 (by decide) ?_
      exact u2 c1 c2 hl0
    · refine z_iconst (q := 56) dX4_isSame_55 rfl ?_
      exact z_bret rfl (by decide) dX4_isSame_56 ⟨hl0, u3 c1 c2⟩
theorem b_X4_isLike_0 {D : zD} {d : Nat} {G : zG} {h : zH} {Q : zO → zG → zH → Prop} {x0 x1 : Int} (p1 : z_is G x0 3) (p2 : z_is G x1 3) (p3 : z_in (h x0 1)) (p4 : z_in (h x1 1)) (p5 : ¬ (¬ (h x0 1) = (h x1 1)) → z_in (h x0 2)) (p6 : ¬ (¬ (h x0 1) = (h x1 1)) → z_in (h x1 2))
    (u1 : ¬ (h x0 1) = (h x1 1) → Q (.inl (some (0, 0))) G h)
    (u2 : ¬ (¬ (h x0 1) = (h x1 1)) → (h x0 2) = (h x1 2) → z_Y D M_X4_isLike d 26 [(0, 2, x0), (1, 2, x1), (2, 0, 0)] [] G h Q)
    (u3 : ¬ (¬ (h x0 1) = (h x1 1)) → ¬ ((h x0 2) = (h x1 2)) → Q (.inl (some (0, 0))) G h) :
    z_Y D M_X4_isLike d 0 [(0, 2, x0), (1, 2, x1)] [] G h Q := by
  intro hl0
  refine z_aload_n (q := 1) 0 dX4_isLike_0 rfl rfl ?_
  refine z_gf (q := 4) (ki := 1) (v := (0, (h x0 1))) fX4_13 rfl rfl p1 dX4_isLike_1 rfl ?_
  refine z_aload_n (q := 5) 1 dX4_isLike_4 rfl rfl ?_
  refine z_gf (q := 8) (ki := 1) (v := (0, (h x1 1))) fX4_13 rfl rfl p2 dX4_isLike_5 rfl ?_
  refine z_icmp_ne (q := 11) (t := 22) p3 p4 dX4_isLike_8 (by decide) rfl (fun c1 => ?_) (fun c1 => ?_)
  · refine z_iconst (q := 23) dX4_isLike_22 rfl ?_
    exact z_bret rfl (by decide) dX4_isLike_23 ⟨hl0, u1 c1⟩
  · refine z_aload_n (q := 12) 0 dX4_isLike_11 rfl rfl ?_
    refine z_gf (q := 15) (ki := 2) (v := (0, (h x0 2))) fX4_17 rfl rfl p1 dX4_isLike_12 rfl ?_
    refine z_aload_n (q := 16) 1 dX4_isLike_15 rfl rfl ?_
    refine z_gf (q := 19) (ki := 2) (v := (0, (h x1 2))) fX4_17 rfl rfl p2 dX4_isLike_16 rfl ?_
    refine z_icmp_eq (q := 22) (t := 24) (p5 c1) (p6 c1) dX4_isLike_19 (by decide) rfl (fun c2 => ?_) (fun c2 => ?_)
    · refine z_iconst (q := 25) dX4_isLike_24 rfl ?_
      refine z_istore_n (q := 26) (L' := [(0, 2, x0), (1, 2, x1), (2, 0, 0)]) dX4_isLike_25 rfl (by decide) rfl ?_
      exact u2 c1 c2 hl0
    · refine z_iconst (q := 23) dX4_isLike_22 rfl ?_
      exact z_bret rfl (by decide) dX4_isLike_23 ⟨hl0, u3 c1 c2⟩
theorem b_X4_isLike_26 {D : zD} {d : Nat} {G : zG} {h : zH} {Q : zO → zG → zH → Prop} {x0 x1 x2 : Int} (p1 : z_is G x0 3) (p2 : z_in x2) (p3 : z_in ((h x0 1) * (h x0 2))) (p4 : ¬ (((h x0 1) * (h x0 2)) ≤ x2) → 0 ≤ x2) (p5 : ¬ (((h x0 1) * (h x0 2)) ≤ x2) → x2 < 72) (p6 : ¬ (((h x0 1) * (h x0 2)) ≤ x2) → z_is G x1 3) (p7 : ¬ (((h x0 1) * (h x0 2)) ≤ x2) → z_in64 (h (x0 + 1) x2)) (p8 : ¬ (((h x0 1) * (h x0 2)) ≤ x2) → z_in64 (h (x1 + 1) x2))
    (u1 : ((h x0 1) * (h x0 2)) ≤ x2 → Q (.inl (some (0, 1))) G h)
    (u2 : ¬ (((h x0 1) * (h x0 2)) ≤ x2) → (h (x0 + 1) x2) = (h (x1 + 1) x2) → z_Y D M_X4_isLike d 26 [(0, 2, x0), (1, 2, x1), (2, 0, (x2 + 1))] [] G h Q)
    (u3 : ¬ (((h x0 1) * (h x0 2)) ≤ x2) → ¬ ((h (x0 + 1) x2) = (h (x1 + 1) x2)) → (h (x0 + 1) x2) = (-1) → z_Y D M_X4_isLike d 26 [(0, 2, x0), (1, 2, x1), (2, 0, (x2 + 1))] [] G h Q)
    (u4 : ¬ (((h x0 1) * (h x0 2)) ≤ x2) → ¬ ((h (x0 + 1) x2) = (h (x1 + 1) x2)) → ¬ ((h (x0 + 1) x2) = (-1)) → (h (x1 + 1) x2) = (-1) → z_Y D M_X4_isLike d 26 [(0, 2, x0), (1, 2, x1), (2, 0, (x2 + 1))] [] G h Q)
    (u5 : ¬ (((h x0 1) * (h x0 2)) ≤ x2) → ¬ ((h (x0 + 1) x2) = (h (x1 + 1) x2)) → ¬ ((h (x0 + 1) x2) = (-1)) → ¬ ((h (x1 + 1) x2) = (-1)) → Q (.inl (some (0, 0))) G h) :
    z_Y D M_X4_isLike d 26 [(0, 2, x0), (1, 2, x1), (2, 0, x2)] [] G h Q := by
  intro hl0
  refine z_iload_n (q := 27) 2 dX4_isLike_26 rfl rfl ?_
  refine z_aload_n (q := 28) 0 dX4_isLike_27 rfl rfl ?_
  refine z_gf (q := 31) (ki := 1) (v := (0, (h x0 1))) fX4_13 rfl rfl p1 dX4_isLike_28 rfl ?_
  refine z_aload_n (q := 32) 0 dX4_isLike_31 rfl rfl ?_
  refine z_gf (q := 35) (ki := 2) (v := (0, (h x0 2))) fX4_17 rfl rfl p1 dX4_isLike_32 rfl ?_
  refine z_imul (q := 36) dX4_isLike_35 rfl ?_
  refine z_icmp_ge (q := 39) (t := 86) p2 p3 dX4_isLike_36 (by decide) rfl (fun c1 => ?_) (fun c1 => ?_)
  · refine z_iconst (q := 87) dX4_isLike_86 rfl ?_
    exact z_bret rfl (by decide) dX4_isLike_87 ⟨hl0, u1 c1⟩
  · refine z_aload_n (q := 40) 0 dX4_isLike_39 rfl rfl ?_
    refine z_gf (q := 43) (ki := 0) (v := (2, (x0 + 1))) fX4_9 rfl (z_ldr rfl (hl0.tab p1)) p1 dX4_isLike_40 rfl ?_
    refine z_iload_n (q := 44) 2 dX4_isLike_43 rfl rfl ?_
    refine z_lale (q := 45) (v := (h (x0 + 1) x2)) (hl0.tat p1) (p4 c1) (p5 c1) rfl dX4_isLike_44 rfl ?_
    refine z_lstore_n (q := 46) (L' := [(0, 2, x0), (1, 2, x1), (2, 0, x2), (3, 1, (h (x0 + 1) x2))]) dX4_isLike_45 rfl (by decide) rfl ?_
    refine z_aload_n (q := 47) 1 dX4_isLike_46 rfl rfl ?_
    refine z_gf (q := 50) (ki := 0) (v := (2, (x1 + 1))) fX4_9 rfl (z_ldr rfl (hl0.tab (p6 c1))) (p6 c1) dX4_isLike_47 rfl ?_
    refine z_iload_n (q := 51) 2 dX4_isLike_50 rfl rfl ?_
    refine z_lale (q := 52) (v := (h (x1 + 1) x2)) (hl0.tat (p6 c1)) (p4 c1) (p5 c1) rfl dX4_isLike_51 rfl ?_
    refine z_lstore (q := 54) (L' := [(0, 2, x0), (1, 2, x1), (2, 0, x2), (3, 1, (h (x0 + 1) x2)), (5, 1, (h (x1 + 1) x2))]) dX4_isLike_52 rfl (by decide) rfl ?_
    refine z_lload_n (q := 55) 3 dX4_isLike_54 rfl rfl ?_
    refine z_lload (q := 57) 4 dX4_isLike_55 rfl rfl ?_
    refine z_lcmp_eq (q := 61) (t := 80) (p7 c1) (p8 c1) dX4_isLike_57 (rfl : _ = 58) dX4_isLike_58 (by decide) rfl (fun c2 => ?_) (fun c2 => ?_)
    · refine z_iinc (q := 83) (L' := [(0, 2, x0), (1, 2, x1), (2, 0, (x2 + 1)), (3, 1, (h (x0 + 1) x2)), (5, 1, (h (x1 + 1) x2))]) 2 dX4_isLike_80 rfl rfl (by decide) rfl ?_
      refine z_goto (t := 26) dX4_isLike_83 (by decide) ?_
      refine z_sub (L' := [(0, 2, x0), (1, 2, x1), (2, 0, (x2 + 1))]) [0, 1, 2] rfl ?_
      exact u2 c1 c2 hl0
    · refine z_lload_n (q := 62) 3 dX4_isLike_61 rfl rfl ?_
      refine z_ldc2 (q := 65) (n := (-1)) k693 (by decide) dX4_isLike_62 rfl ?_
      refine z_lcmp_eq (q := 69) (t := 80) (p7 c1) ⟨by decide, by decide⟩ dX4_isLike_65 (rfl : _ = 66) dX4_isLike_66 (by decide) rfl (fun c3 => ?_) (fun c3 => ?_)
      · refine z_iinc (q := 83) (L' := [(0, 2, x0), (1, 2, x1), (2, 0, (x2 + 1)), (3, 1, (h (x0 + 1) x2)), (5, 1, (h (x1 + 1) x2))]) 2 dX4_isLike_80 rfl rfl (by decide) rfl ?_
        refine z_goto (t := 26) dX4_isLike_83 (by decide) ?_
        refine z_sub (L' := [(0, 2, x0), (1, 2, x1), (2, 0, (x2 + 1))]) [0, 1, 2] rfl ?_
        exact u3 c1 c2 c3 hl0
      · refine z_lload (q := 71) 4 dX4_isLike_69 rfl rfl ?_
        refine z_ldc2 (q := 74) (n := (-1)) k693 (by decide) dX4_isLike_71 rfl ?_
        refine z_lcmp_eq (q := 78) (t := 80) (p8 c1) ⟨by decide, by decide⟩ dX4_isLike_74 (rfl : _ = 75) dX4_isLike_75 (by decide) rfl (fun c4 => ?_) (fun c4 => ?_)
        · refine z_iinc (q := 83) (L' := [(0, 2, x0), (1, 2, x1), (2, 0, (x2 + 1)), (3, 1, (h (x0 + 1) x2)), (5, 1, (h (x1 + 1) x2))]) 2 dX4_isLike_80 rfl rfl (by decide) rfl ?_
          refine z_goto (t := 26) dX4_isLike_83 (by decide) ?_
          refine z_sub (L' := [(0, 2, x0), (1, 2, x1), (2, 0, (x2 + 1))]) [0, 1, 2] rfl ?_
          exact u4 c1 c2 c3 c4 hl0
        · refine z_iconst (q := 79) dX4_isLike_78 rfl ?_
          exact z_bret rfl (by decide) dX4_isLike_79 ⟨hl0, u5 c1 c2 c3 c4⟩
theorem b_X4_rowsAgree_0 {D : zD} {d : Nat} {G : zG} {h : zH} {Q : zO → zG → zH → Prop} {x0 x1 x2 x3 x4 : Int} (p1 : z_in x1) (p2 : ¬ (x1 < 0) → z_is G x0 3) (p3 : ¬ (x1 < 0) → z_in (h x0 1)) (p4 : ¬ (x1 < 0) → ¬ ((h x0 1) ≤ x1) → z_in x2) (p5 : ¬ (x1 < 0) → ¬ ((h x0 1) ≤ x1) → ¬ (x2 < 0) → ¬ ((h x0 1) ≤ x2) → z_in x3) (p6 : ¬ (x1 < 0) → ¬ ((h x0 1) ≤ x1) → ¬ (x2 < 0) → ¬ ((h x0 1) ≤ x2) → ¬ (x3 < 0) → z_in x4) (p7 : ¬ (x1 < 0) → ¬ ((h x0 1) ≤ x1) → ¬ (x2 < 0) → ¬ ((h x0 1) ≤ x2) → ¬ (x3 < 0) → z_in (h x0 2))
    (u1 : x1 < 0 → Q (.inl (some (0, 0))) G h)
    (u2 : ¬ (x1 < 0) → (h x0 1) ≤ x1 → Q (.inl (some (0, 0))) G h)
    (u3 : ¬ (x1 < 0) → ¬ ((h x0 1) ≤ x1) → x2 < 0 → Q (.inl (some (0, 0))) G h)
    (u4 : ¬ (x1 < 0) → ¬ ((h x0 1) ≤ x1) → ¬ (x2 < 0) → (h x0 1) ≤ x2 → Q (.inl (some (0, 0))) G h)
    (u5 : ¬ (x1 < 0) → ¬ ((h x0 1) ≤ x1) → ¬ (x2 < 0) → ¬ ((h x0 1) ≤ x2) → x3 < 0 → Q (.inl (some (0, 0))) G h)
    (u6 : ¬ (x1 < 0) → ¬ ((h x0 1) ≤ x1) → ¬ (x2 < 0) → ¬ ((h x0 1) ≤ x2) → ¬ (x3 < 0) → x4 ≤ (h x0 2) → z_Y D M_X4_rowsAgree d 42 [(0, 2, x0), (1, 0, x1), (2, 0, x2), (4, 0, x4), (5, 0, x3)] [] G h Q)
    (u7 : ¬ (x1 < 0) → ¬ ((h x0 1) ≤ x1) → ¬ (x2 < 0) → ¬ ((h x0 1) ≤ x2) → ¬ (x3 < 0) → ¬ (x4 ≤ (h x0 2)) → Q (.inl (some (0, 0))) G h) :
    z_Y D M_X4_rowsAgree d 0 [(0, 2, x0), (1, 0, x1), (2, 0, x2), (3, 0, x3), (4, 0, x4)] [] G h Q := by
  intro hl0
  refine z_iload_n (q := 1) 1 dX4_rowsAgree_0 rfl rfl ?_
  refine z_if_lt (q := 4) (t := 37) p1 dX4_rowsAgree_1 (by decide) rfl (fun c1 => ?_) (fun c1 => ?_)
  · refine z_iconst (q := 38) dX4_rowsAgree_37 rfl ?_
    exact z_bret rfl (by decide) dX4_rowsAgree_38 ⟨hl0, u1 c1⟩
  · refine z_iload_n (q := 5) 1 dX4_rowsAgree_4 rfl rfl ?_
    refine z_aload_n (q := 6) 0 dX4_rowsAgree_5 rfl rfl ?_
    refine z_gf (q := 9) (ki := 1) (v := (0, (h x0 1))) fX4_13 rfl rfl (p2 c1) dX4_rowsAgree_6 rfl ?_
    refine z_icmp_ge (q := 12) (t := 37) p1 (p3 c1) dX4_rowsAgree_9 (by decide) rfl (fun c2 => ?_) (fun c2 => ?_)
    · refine z_iconst (q := 38) dX4_rowsAgree_37 rfl ?_
      exact z_bret rfl (by decide) dX4_rowsAgree_38 ⟨hl0, u2 c1 c2⟩
    · refine z_iload_n (q := 13) 2 dX4_rowsAgree_12 rfl rfl ?_
      refine z_if_lt (q := 16) (t := 37) (p4 c1 c2) dX4_rowsAgree_13 (by decide) rfl (fun c3 => ?_) (fun c3 => ?_)
      · refine z_iconst (q := 38) dX4_rowsAgree_37 rfl ?_
        exact z_bret rfl (by decide) dX4_rowsAgree_38 ⟨hl0, u3 c1 c2 c3⟩
      · refine z_iload_n (q := 17) 2 dX4_rowsAgree_16 rfl rfl ?_
        refine z_aload_n (q := 18) 0 dX4_rowsAgree_17 rfl rfl ?_
        refine z_gf (q := 21) (ki := 1) (v := (0, (h x0 1))) fX4_13 rfl rfl (p2 c1) dX4_rowsAgree_18 rfl ?_
        refine z_icmp_ge (q := 24) (t := 37) (p4 c1 c2) (p3 c1) dX4_rowsAgree_21 (by decide) rfl (fun c4 => ?_) (fun c4 => ?_)
        · refine z_iconst (q := 38) dX4_rowsAgree_37 rfl ?_
          exact z_bret rfl (by decide) dX4_rowsAgree_38 ⟨hl0, u4 c1 c2 c3 c4⟩
        · refine z_iload_n (q := 25) 3 dX4_rowsAgree_24 rfl rfl ?_
          refine z_if_lt (q := 28) (t := 37) (p5 c1 c2 c3 c4) dX4_rowsAgree_25 (by decide) rfl (fun c5 => ?_) (fun c5 => ?_)
          · refine z_iconst (q := 38) dX4_rowsAgree_37 rfl ?_
            exact z_bret rfl (by decide) dX4_rowsAgree_38 ⟨hl0, u5 c1 c2 c3 c4 c5⟩
          · refine z_iload (q := 30) 4 dX4_rowsAgree_28 rfl rfl ?_
            refine z_aload_n (q := 31) 0 dX4_rowsAgree_30 rfl rfl ?_
            refine z_gf (q := 34) (ki := 2) (v := (0, (h x0 2))) fX4_17 rfl rfl (p2 c1) dX4_rowsAgree_31 rfl ?_
            refine z_icmp_le (q := 37) (t := 39) (p6 c1 c2 c3 c4 c5) (p7 c1 c2 c3 c4 c5) dX4_rowsAgree_34 (by decide) rfl (fun c6 => ?_) (fun c6 => ?_)
            · refine z_iload_n (q := 40) 3 dX4_rowsAgree_39 rfl rfl ?_
              refine z_istore (q := 42) (L' := [(0, 2, x0), (1, 0, x1), (2, 0, x2), (3, 0, x3), (4, 0, x4), (5, 0, x3)]) dX4_rowsAgree_40 rfl (by decide) rfl ?_
              refine z_sub (L' := [(0, 2, x0), (1, 0, x1), (2, 0, x2), (4, 0, x4), (5, 0, x3)]) [0, 1, 2, 4, 5] rfl ?_
              exact u6 c1 c2 c3 c4 c5 c6 hl0
            · refine z_iconst (q := 38) dX4_rowsAgree_37 rfl ?_
              exact z_bret rfl (by decide) dX4_rowsAgree_38 ⟨hl0, u7 c1 c2 c3 c4 c5 c6⟩
theorem b_X4_rowsAgree_42 {D : zD} {d : Nat} {G : zG} {h : zH} {Q : zO → zG → zH → Prop} {x0 x1 x2 x4 x5 : Int} (p1 : z_in x5) (p2 : z_in x4) (p3 : ¬ (x4 ≤ x5) → z_is G x0 3) (p4 : ¬ (x4 ≤ x5) → 0 ≤ ((x1 * (h x0 2)) + x5)) (p5 : ¬ (x4 ≤ x5) → ((x1 * (h x0 2)) + x5) < 72) (p6 : ¬ (x4 ≤ x5) → 0 ≤ ((x2 * (h x0 2)) + x5)) (p7 : ¬ (x4 ≤ x5) → ((x2 * (h x0 2)) + x5) < 72) (p8 : ¬ (x4 ≤ x5) → z_in64 (h (x0 + 1) ((x1 * (h x0 2)) + x5))) (p9 : ¬ (x4 ≤ x5) → z_in64 (h (x0 + 1) ((x2 * (h x0 2)) + x5)))
    (u1 : x4 ≤ x5 → Q (.inl (some (0, 1))) G h)
    (u2 : ¬ (x4 ≤ x5) → (h (x0 + 1) ((x1 * (h x0 2)) + x5)) = (h (x0 + 1) ((x2 * (h x0 2)) + x5)) → z_Y D M_X4_rowsAgree d 42 [(0, 2, x0), (1, 0, x1), (2, 0, x2), (4, 0, x4), (5, 0, (x5 + 1))] [] G h Q)
    (u3 : ¬ (x4 ≤ x5) → ¬ ((h (x0 + 1) ((x1 * (h x0 2)) + x5)) = (h (x0 + 1) ((x2 * (h x0 2)) + x5))) → Q (.inl (some (0, 0))) G h) :
    z_Y D M_X4_rowsAgree d 42 [(0, 2, x0), (1, 0, x1), (2, 0, x2), (4, 0, x4), (5, 0, x5)] [] G h Q := by
  intro hl0
  refine z_iload (q := 44) 4 dX4_rowsAgree_42 rfl rfl ?_
  refine z_iload (q := 46) 3 dX4_rowsAgree_44 rfl rfl ?_
  refine z_icmp_ge (q := 49) (t := 89) p1 p2 dX4_rowsAgree_46 (by decide) rfl (fun c1 => ?_) (fun c1 => ?_)
  · refine z_iconst (q := 90) dX4_rowsAgree_89 rfl ?_
    exact z_bret rfl (by decide) dX4_rowsAgree_90 ⟨hl0, u1 c1⟩
  · refine z_aload_n (q := 50) 0 dX4_rowsAgree_49 rfl rfl ?_
    refine z_gf (q := 53) (ki := 0) (v := (2, (x0 + 1))) fX4_9 rfl (z_ldr rfl (hl0.tab (p3 c1))) (p3 c1) dX4_rowsAgree_50 rfl ?_
    refine z_iload_n (q := 54) 1 dX4_rowsAgree_53 rfl rfl ?_
    refine z_aload_n (q := 55) 0 dX4_rowsAgree_54 rfl rfl ?_
    refine z_gf (q := 58) (ki := 2) (v := (0, (h x0 2))) fX4_17 rfl rfl (p3 c1) dX4_rowsAgree_55 rfl ?_
    refine z_imul (q := 59) dX4_rowsAgree_58 rfl ?_
    refine z_iload (q := 61) 4 dX4_rowsAgree_59 rfl rfl ?_
    refine z_iadd (q := 62) dX4_rowsAgree_61 rfl ?_
    refine z_lale (q := 63) (v := (h (x0 + 1) ((x1 * (h x0 2)) + x5))) (hl0.tat (p3 c1)) (p4 c1) (p5 c1) rfl dX4_rowsAgree_62 rfl ?_
    refine z_aload_n (q := 64) 0 dX4_rowsAgree_63 rfl rfl ?_
    refine z_gf (q := 67) (ki := 0) (v := (2, (x0 + 1))) fX4_9 rfl (z_ldr rfl (hl0.tab (p3 c1))) (p3 c1) dX4_rowsAgree_64 rfl ?_
    refine z_iload_n (q := 68) 2 dX4_rowsAgree_67 rfl rfl ?_
    refine z_aload_n (q := 69) 0 dX4_rowsAgree_68 rfl rfl ?_
    refine z_gf (q := 72) (ki := 2) (v := (0, (h x0 2))) fX4_17 rfl rfl (p3 c1) dX4_rowsAgree_69 rfl ?_
    refine z_imul (q := 73) dX4_rowsAgree_72 rfl ?_
    refine z_iload (q := 75) 4 dX4_rowsAgree_73 rfl rfl ?_
    refine z_iadd (q := 76) dX4_rowsAgree_75 rfl ?_
    refine z_lale (q := 77) (v := (h (x0 + 1) ((x2 * (h x0 2)) + x5))) (hl0.tat (p3 c1)) (p6 c1) (p7 c1) rfl dX4_rowsAgree_76 rfl ?_
    refine z_lcmp_eq (q := 81) (t := 83) (p8 c1) (p9 c1) dX4_rowsAgree_77 (rfl : _ = 78) dX4_rowsAgree_78 (by decide) rfl (fun c2 => ?_) (fun c2 => ?_)
    · refine z_iinc (q := 86) (L' := [(0, 2, x0), (1, 0, x1), (2, 0, x2), (4, 0, x4), (5, 0, (x5 + 1))]) 4 dX4_rowsAgree_83 rfl rfl (by decide) rfl ?_
      refine z_goto (t := 42) dX4_rowsAgree_86 (by decide) ?_
      exact u2 c1 c2 hl0
    · refine z_iconst (q := 82) dX4_rowsAgree_81 rfl ?_
      exact z_bret rfl (by decide) dX4_rowsAgree_82 ⟨hl0, u3 c1 c2⟩
theorem b_X4_empties_0 {D : zD} {d : Nat} {G : zG} {h : zH} {Q : zO → zG → zH → Prop} {x0 : Int} (p1 : z_is G x0 3)
    (u1 : z_Ki D M_X4_cellsThatAre d [(2, x0), (1, 0)] G h (fun r G' h' => z_Y D M_X4_empties d 5 [] [(0, r)] G' h' Q)) :
    z_Y D M_X4_empties d 0 [(0, 2, x0)] [] G h Q := by
  intro hl0
  refine z_aload_n (q := 1) 0 dX4_empties_0 rfl rfl ?_
  refine z_lconst0 (q := 2) dX4_empties_1 rfl ?_
  refine z_sub (L' := []) [] rfl ?_
  exact z_goV (q := 5) (av := [(1, 0)]) (rest := []) cb3 p1 z_toi hl0 (u1) mo_X4_cellsThatAre np_X4_cellsThatAre k674 k676 k17 rfl (nle rfl) dX4_empties_2 rfl
theorem b_X4_empties_5 {D : zD} {d : Nat} {G : zG} {h : zH} {Q : zO → zG → zH → Prop} {s0 : Int}
    (u1 : Q (.inl (some (0, s0))) G h) :
    z_Y D M_X4_empties d 5 [] [(0, s0)] G h Q := by
  intro hl0
  exact z_iret rfl dX4_empties_5 ⟨hl0, u1⟩
theorem b_X4_anys_0 {D : zD} {d : Nat} {G : zG} {h : zH} {Q : zO → zG → zH → Prop} {x0 : Int} (p1 : z_is G x0 3)
    (u1 : z_Ki D M_X4_cellsThatAre d [(2, x0), (1, (-1))] G h (fun r G' h' => z_Y D M_X4_anys d 7 [] [(0, r)] G' h' Q)) :
    z_Y D M_X4_anys d 0 [(0, 2, x0)] [] G h Q := by
  intro hl0
  refine z_aload_n (q := 1) 0 dX4_anys_0 rfl rfl ?_
  refine z_ldc2 (q := 4) (n := (-1)) k693 (by decide) dX4_anys_1 rfl ?_
  refine z_sub (L' := []) [] rfl ?_
  exact z_goV (q := 7) (av := [(1, (-1))]) (rest := []) cb3 p1 z_toi hl0 (u1) mo_X4_cellsThatAre np_X4_cellsThatAre k674 k676 k17 rfl (nle rfl) dX4_anys_4 rfl
theorem b_X4_anys_7 {D : zD} {d : Nat} {G : zG} {h : zH} {Q : zO → zG → zH → Prop} {s0 : Int}
    (u1 : Q (.inl (some (0, s0))) G h) :
    z_Y D M_X4_anys d 7 [] [(0, s0)] G h Q := by
  intro hl0
  exact z_iret rfl dX4_anys_7 ⟨hl0, u1⟩
theorem b_X4_numbers_0 {D : zD} {d : Nat} {G : zG} {h : zH} {Q : zO → zG → zH → Prop} {x0 : Int}
    (u1 : z_Y D M_X4_numbers d 4 [(0, 2, x0), (1, 0, 0), (2, 0, 0)] [] G h Q) :
    z_Y D M_X4_numbers d 0 [(0, 2, x0)] [] G h Q := by
  intro hl0
  refine z_iconst (q := 1) dX4_numbers_0 rfl ?_
  refine z_istore_n (q := 2) (L' := [(0, 2, x0), (1, 0, 0)]) dX4_numbers_1 rfl (by decide) rfl ?_
  refine z_iconst (q := 3) dX4_numbers_2 rfl ?_
  refine z_istore_n (q := 4) (L' := [(0, 2, x0), (1, 0, 0), (2, 0, 0)]) dX4_numbers_3 rfl (by decide) rfl ?_
  exact u1 hl0
theorem b_X4_numbers_4 {D : zD} {d : Nat} {G : zG} {h : zH} {Q : zO → zG → zH → Prop} {x0 x1 x2 : Int} (hd : 3 ≤ d) (p1 : z_is G x0 3) (p2 : z_in x2) (p3 : z_in ((h x0 1) * (h x0 2))) (p4 : ¬ (((h x0 1) * (h x0 2)) ≤ x2) → 0 ≤ x2) (p5 : ¬ (((h x0 1) * (h x0 2)) ≤ x2) → x2 < 72) (p6 : ¬ (((h x0 1) * (h x0 2)) ≤ x2) → -1 ≤ (h (x0 + 1) x2)) (p7 : ¬ (((h x0 1) * (h x0 2)) ≤ x2) → (h (x0 + 1) x2) < 72057594037927936)
    (u1 : ((h x0 1) * (h x0 2)) ≤ x2 → Q (.inl (some (0, x1))) G h)
    (u2 : ¬ (((h x0 1) * (h x0 2)) ≤ x2) → znum (h (x0 + 1) x2) → z_Y D M_X4_numbers d 4 [(0, 2, x0), (1, 0, (x1 + 1)), (2, 0, (x2 + 1))] [] G h Q)
    (u3 : ¬ (((h x0 1) * (h x0 2)) ≤ x2) → ¬ (znum (h (x0 + 1) x2)) → z_Y D M_X4_numbers d 4 [(0, 2, x0), (1, 0, x1), (2, 0, (x2 + 1))] [] G h Q) :
    z_Y D M_X4_numbers d 4 [(0, 2, x0), (1, 0, x1), (2, 0, x2)] [] G h Q := by
  intro hl0
  refine z_iload_n (q := 5) 2 dX4_numbers_4 rfl rfl ?_
  refine z_aload_n (q := 6) 0 dX4_numbers_5 rfl rfl ?_
  refine z_gf (q := 9) (ki := 1) (v := (0, (h x0 1))) fX4_13 rfl rfl p1 dX4_numbers_6 rfl ?_
  refine z_aload_n (q := 10) 0 dX4_numbers_9 rfl rfl ?_
  refine z_gf (q := 13) (ki := 2) (v := (0, (h x0 2))) fX4_17 rfl rfl p1 dX4_numbers_10 rfl ?_
  refine z_imul (q := 14) dX4_numbers_13 rfl ?_
  refine z_icmp_ge (q := 17) (t := 38) p2 p3 dX4_numbers_14 (by decide) rfl (fun c1 => ?_) (fun c1 => ?_)
  · refine z_iload_n (q := 39) 1 dX4_numbers_38 rfl rfl ?_
    exact z_iret rfl dX4_numbers_39 ⟨hl0, u1 c1⟩
  · refine z_aload_n (q := 18) 0 dX4_numbers_17 rfl rfl ?_
    refine z_gf (q := 21) (ki := 0) (v := (2, (x0 + 1))) fX4_9 rfl (z_ldr rfl (hl0.tab p1)) p1 dX4_numbers_18 rfl ?_
    refine z_iload_n (q := 22) 2 dX4_numbers_21 rfl rfl ?_
    refine z_lale (q := 23) (v := (h (x0 + 1) x2)) (hl0.tat p1) (p4 c1) (p5 c1) rfl dX4_numbers_22 rfl ?_
    have e1 := a_X6_isNumber (D := D) (G := G) (h := h) (d := d - 1) (by omega) (h (x0 + 1) x2) (p6 c1) (p7 c1)
    refine z_goS (q := 26) (av := [(1, (h (x0 + 1) x2))]) (rest := []) (z_toi) hl0 (z_Ei.K e1 (by omega) ?_) mo_X6_isNumber np_X6_isNumber k682 k683 rfl (nle rfl) dX4_numbers_23 rfl
    by_cases c2 : znum (h (x0 + 1) x2)
    · rw [z_b1 c2]
      refine z_if_eq (q := 29) (t := 32) ⟨by decide, by decide⟩ dX4_numbers_26 (by decide) rfl (fun c => absurd c (by decide)) (fun _ => ?_)
      refine z_iinc (q := 32) (L' := [(0, 2, x0), (1, 0, (x1 + 1)), (2, 0, x2)]) 1 dX4_numbers_29 rfl rfl (by decide) rfl ?_
      refine z_iinc (q := 35) (L' := [(0, 2, x0), (1, 0, (x1 + 1)), (2, 0, (x2 + 1))]) 2 dX4_numbers_32 rfl rfl (by decide) rfl ?_
      refine z_goto (t := 4) dX4_numbers_35 (by decide) ?_
      exact u2 c1 c2 hl0
    · rw [z_b0 c2]
      refine z_if_eq (q := 29) (t := 32) ⟨by decide, by decide⟩ dX4_numbers_26 (by decide) rfl (fun _ => ?_) (fun c => absurd c (by decide))
      refine z_iinc (q := 35) (L' := [(0, 2, x0), (1, 0, x1), (2, 0, (x2 + 1))]) 2 dX4_numbers_32 rfl rfl (by decide) rfl ?_
      refine z_goto (t := 4) dX4_numbers_35 (by decide) ?_
      exact u3 c1 c2 hl0
theorem b_X4_cellsThatAre_0 {D : zD} {d : Nat} {G : zG} {h : zH} {Q : zO → zG → zH → Prop} {x0 x1 : Int}
    (u1 : z_Y D M_X4_cellsThatAre d 5 [(0, 2, x0), (1, 1, x1), (3, 0, 0), (4, 0, 0)] [] G h Q) :
    z_Y D M_X4_cellsThatAre d 0 [(0, 2, x0), (1, 1, x1)] [] G h Q := by
  intro hl0
  refine z_iconst (q := 1) dX4_cellsThatAre_0 rfl ?_
  refine z_istore_n (q := 2) (L' := [(0, 2, x0), (1, 1, x1), (3, 0, 0)]) dX4_cellsThatAre_1 rfl (by decide) rfl ?_
  refine z_iconst (q := 3) dX4_cellsThatAre_2 rfl ?_
  refine z_istore (q := 5) (L' := [(0, 2, x0), (1, 1, x1), (3, 0, 0), (4, 0, 0)]) dX4_cellsThatAre_3 rfl (by decide) rfl ?_
  exact u1 hl0
theorem b_X4_cellsThatAre_5 {D : zD} {d : Nat} {G : zG} {h : zH} {Q : zO → zG → zH → Prop} {x0 x1 x3 x4 : Int} (p1 : z_is G x0 3) (p2 : z_in x4) (p3 : z_in ((h x0 1) * (h x0 2))) (p4 : ¬ (((h x0 1) * (h x0 2)) ≤ x4) → 0 ≤ x4) (p5 : ¬ (((h x0 1) * (h x0 2)) ≤ x4) → x4 < 72) (p6 : ¬ (((h x0 1) * (h x0 2)) ≤ x4) → z_in64 (h (x0 + 1) x4)) (p7 : ¬ (((h x0 1) * (h x0 2)) ≤ x4) → z_in64 x1)
    (u1 : ((h x0 1) * (h x0 2)) ≤ x4 → Q (.inl (some (0, x3))) G h)
    (u2 : ¬ (((h x0 1) * (h x0 2)) ≤ x4) → ¬ (h (x0 + 1) x4) = x1 → z_Y D M_X4_cellsThatAre d 5 [(0, 2, x0), (1, 1, x1), (3, 0, x3), (4, 0, (x4 + 1))] [] G h Q)
    (u3 : ¬ (((h x0 1) * (h x0 2)) ≤ x4) → ¬ (¬ (h (x0 + 1) x4) = x1) → z_Y D M_X4_cellsThatAre d 5 [(0, 2, x0), (1, 1, x1), (3, 0, (x3 + 1)), (4, 0, (x4 + 1))] [] G h Q) :
    z_Y D M_X4_cellsThatAre d 5 [(0, 2, x0), (1, 1, x1), (3, 0, x3), (4, 0, x4)] [] G h Q := by
  intro hl0
  refine z_iload (q := 7) 3 dX4_cellsThatAre_5 rfl rfl ?_
  refine z_aload_n (q := 8) 0 dX4_cellsThatAre_7 rfl rfl ?_
  refine z_gf (q := 11) (ki := 1) (v := (0, (h x0 1))) fX4_13 rfl rfl p1 dX4_cellsThatAre_8 rfl ?_
  refine z_aload_n (q := 12) 0 dX4_cellsThatAre_11 rfl rfl ?_
  refine z_gf (q := 15) (ki := 2) (v := (0, (h x0 2))) fX4_17 rfl rfl p1 dX4_cellsThatAre_12 rfl ?_
  refine z_imul (q := 16) dX4_cellsThatAre_15 rfl ?_
  refine z_icmp_ge (q := 19) (t := 40) p2 p3 dX4_cellsThatAre_16 (by decide) rfl (fun c1 => ?_) (fun c1 => ?_)
  · refine z_iload_n (q := 41) 2 dX4_cellsThatAre_40 rfl rfl ?_
    exact z_iret rfl dX4_cellsThatAre_41 ⟨hl0, u1 c1⟩
  · refine z_aload_n (q := 20) 0 dX4_cellsThatAre_19 rfl rfl ?_
    refine z_gf (q := 23) (ki := 0) (v := (2, (x0 + 1))) fX4_9 rfl (z_ldr rfl (hl0.tab p1)) p1 dX4_cellsThatAre_20 rfl ?_
    refine z_iload (q := 25) 3 dX4_cellsThatAre_23 rfl rfl ?_
    refine z_lale (q := 26) (v := (h (x0 + 1) x4)) (hl0.tat p1) (p4 c1) (p5 c1) rfl dX4_cellsThatAre_25 rfl ?_
    refine z_lload_n (q := 27) 1 dX4_cellsThatAre_26 rfl rfl ?_
    refine z_lcmp_ne (q := 31) (t := 34) (p6 c1) (p7 c1) dX4_cellsThatAre_27 (rfl : _ = 28) dX4_cellsThatAre_28 (by decide) rfl (fun c2 => ?_) (fun c2 => ?_)
    · refine z_iinc (q := 37) (L' := [(0, 2, x0), (1, 1, x1), (3, 0, x3), (4, 0, (x4 + 1))]) 3 dX4_cellsThatAre_34 rfl rfl (by decide) rfl ?_
      refine z_goto (t := 5) dX4_cellsThatAre_37 (by decide) ?_
      exact u2 c1 c2 hl0
    · refine z_iinc (q := 34) (L' := [(0, 2, x0), (1, 1, x1), (3, 0, (x3 + 1)), (4, 0, x4)]) 2 dX4_cellsThatAre_31 rfl rfl (by decide) rfl ?_
      refine z_iinc (q := 37) (L' := [(0, 2, x0), (1, 1, x1), (3, 0, (x3 + 1)), (4, 0, (x4 + 1))]) 3 dX4_cellsThatAre_34 rfl rfl (by decide) rfl ?_
      refine z_goto (t := 5) dX4_cellsThatAre_37 (by decide) ?_
      exact u3 c1 c2 hl0
