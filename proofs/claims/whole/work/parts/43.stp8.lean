theorem b_X3_group_0 {D : zD} {d : Nat} {G : zG} {h : zH} {Q : zO → zG → zH → Prop} {x0 x1 x2 x3 x4 : Int}
    (u1 : z_Y D M_X3_group d 6 [(0, 2, x0), (1, 0, x1), (2, 0, x2), (3, 2, x3), (4, 2, x4), (5, 0, 0), (6, 0, 0)] [] G h Q) :
    z_Y D M_X3_group d 0 [(0, 2, x0), (1, 0, x1), (2, 0, x2), (3, 2, x3), (4, 2, x4)] [] G h Q := by
  intro hl0
  refine z_iconst (q := 1) dX3_group_0 rfl ?_
  refine z_istore (q := 3) (L' := [(0, 2, x0), (1, 0, x1), (2, 0, x2), (3, 2, x3), (4, 2, x4), (5, 0, 0)]) dX3_group_1 rfl (by decide) rfl ?_
  refine z_iconst (q := 4) dX3_group_3 rfl ?_
  refine z_istore (q := 6) (L' := [(0, 2, x0), (1, 0, x1), (2, 0, x2), (3, 2, x3), (4, 2, x4), (5, 0, 0), (6, 0, 0)]) dX3_group_4 rfl (by decide) rfl ?_
  exact u1 hl0
theorem b_X3_group_6 {D : zD} {d : Nat} {G : zG} {h : zH} {Q : zO → zG → zH → Prop} {x0 x1 x2 x3 x4 x5 x6 : Int} (p1 : z_is G x0 3) (p2 : z_in x6) (p3 : z_in (h x0 1))
    (u1 : (h x0 1) ≤ x6 → Q (.inl (some (0, x5))) G h)
    (u2 : ¬ ((h x0 1) ≤ x6) → z_Y D M_X3_group d 18 [(0, 2, x0), (1, 0, x1), (2, 0, x2), (3, 2, x3), (4, 2, x4), (5, 0, x5), (6, 0, x6), (7, 0, 0)] [] G h Q) :
    z_Y D M_X3_group d 6 [(0, 2, x0), (1, 0, x1), (2, 0, x2), (3, 2, x3), (4, 2, x4), (5, 0, x5), (6, 0, x6)] [] G h Q := by
  intro hl0
  refine z_iload (q := 8) 6 dX3_group_6 rfl rfl ?_
  refine z_aload_n (q := 9) 0 dX3_group_8 rfl rfl ?_
  refine z_gf (q := 12) (ki := 1) (v := (0, (h x0 1))) fX3_106 rfl rfl p1 dX3_group_9 rfl ?_
  refine z_icmp_ge (q := 15) (t := 79) p2 p3 dX3_group_12 (by decide) rfl (fun c1 => ?_) (fun c1 => ?_)
  · refine z_iload (q := 81) 5 dX3_group_79 rfl rfl ?_
    exact z_iret rfl dX3_group_81 ⟨hl0, u1 c1⟩
  · refine z_iconst (q := 16) dX3_group_15 rfl ?_
    refine z_istore (q := 18) (L' := [(0, 2, x0), (1, 0, x1), (2, 0, x2), (3, 2, x3), (4, 2, x4), (5, 0, x5), (6, 0, x6), (7, 0, 0)]) dX3_group_16 rfl (by decide) rfl ?_
    exact u2 c1 hl0
theorem b_X3_group_18 {D : zD} {d : Nat} {G : zG} {h : zH} {Q : zO → zG → zH → Prop} {x0 x1 x2 x3 x4 x5 x6 x7 : Int} (hd : 2 ≤ d) (p1 : z_in x7) (p2 : z_in x5) (p3 : ¬ (x5 ≤ x7) → z_is G x4 50) (p4 : ¬ (x5 ≤ x7) → 0 ≤ x7) (p5 : ¬ (x5 ≤ x7) → x7 < (G.2.2.2 x4)) (p6 : ¬ (x5 ≤ x7) → z_is G x0 3) (p7 : ¬ (x5 ≤ x7) → okS h x0) (p8 : ¬ (x5 ≤ x7) → okC h x0) (p9 : ¬ (x5 ≤ x7) → 0 ≤ x6 ∧ x6 < h x0 1) (p10 : ¬ (x5 ≤ x7) → 0 ≤ (h x4 x7) ∧ (h x4 x7) < h x0 1) (p11 : ¬ (x5 ≤ x7) → 0 ≤ x1) (p12 : ¬ (x5 ≤ x7) → x1 ≤ x2) (p13 : ¬ (x5 ≤ x7) → x2 ≤ h x0 2)
    (u1 : x5 ≤ x7 → z_Y D M_X3_group d 50 [(0, 2, x0), (1, 0, x1), (2, 0, x2), (3, 2, x3), (4, 2, x4), (5, 0, x5), (6, 0, x6), (7, 0, x7)] [] G h Q)
    (u2 : ¬ (x5 ≤ x7) → (∀ k : Int, x1 ≤ k → k < x2 → h (x0 + 1) (x6 * h x0 2 + k) = h (x0 + 1) ((h x4 x7) * h x0 2 + k)) → z_Y D M_X3_group d 50 [(0, 2, x0), (1, 0, x1), (2, 0, x2), (3, 2, x3), (4, 2, x4), (5, 0, x5), (6, 0, x6), (7, 0, x7)] [] G h Q)
    (u3 : ¬ (x5 ≤ x7) → ¬ ((∀ k : Int, x1 ≤ k → k < x2 → h (x0 + 1) (x6 * h x0 2 + k) = h (x0 + 1) ((h x4 x7) * h x0 2 + k))) → z_Y D M_X3_group d 18 [(0, 2, x0), (1, 0, x1), (2, 0, x2), (3, 2, x3), (4, 2, x4), (5, 0, x5), (6, 0, x6), (7, 0, (x7 + 1))] [] G h Q) :
    z_Y D M_X3_group d 18 [(0, 2, x0), (1, 0, x1), (2, 0, x2), (3, 2, x3), (4, 2, x4), (5, 0, x5), (6, 0, x6), (7, 0, x7)] [] G h Q := by
  intro hl0
  refine z_iload (q := 20) 7 dX3_group_18 rfl rfl ?_
  refine z_iload (q := 22) 5 dX3_group_20 rfl rfl ?_
  refine z_icmp_ge (q := 25) (t := 50) p1 p2 dX3_group_22 (by decide) rfl (fun c1 => ?_) (fun c1 => ?_)
  · exact u1 c1 hl0
  · refine z_aload_n (q := 26) 0 dX3_group_25 rfl rfl ?_
    refine z_iload (q := 28) 6 dX3_group_26 rfl rfl ?_
    refine z_aload (q := 30) 4 dX3_group_28 rfl rfl ?_
    refine z_iload (q := 32) 7 dX3_group_30 rfl rfl ?_
    refine z_iale (q := 33) (v := (h x4 x7)) (z_ati (p3 c1)) (p4 c1) (p5 c1) rfl dX3_group_32 rfl ?_
    refine z_iload_n (q := 34) 1 dX3_group_33 rfl rfl ?_
    refine z_iload_n (q := 35) 2 dX3_group_34 rfl rfl ?_
    have e1 := a_X4_rowsAgree (D := D) (G := G) (h := h) (d := d - 1) (by omega) x0 x6 (h x4 x7) x1 x2 (p6 c1) (p7 c1) (p8 c1) (p9 c1) (p10 c1) (p11 c1) (p12 c1) (p13 c1)
    refine z_goV (q := 38) (av := [(0, x6), (0, (h x4 x7)), (0, x1), (0, x2)]) (rest := []) cb3 (p6 c1) (z_toi) hl0 (z_Ei.K e1 (by omega) ?_) mo_X4_rowsAgree np_X4_rowsAgree k789 k790 k791 rfl (nle rfl) dX3_group_35 rfl
    by_cases c2 : (∀ k : Int, x1 ≤ k → k < x2 → h (x0 + 1) (x6 * h x0 2 + k) = h (x0 + 1) ((h x4 x7) * h x0 2 + k))
    · rw [z_b1 c2]
      refine z_if_eq (q := 41) (t := 44) ⟨by decide, by decide⟩ dX3_group_38 (by decide) rfl (fun c => absurd c (by decide)) (fun _ => ?_)
      refine z_goto (t := 50) dX3_group_41 (by decide) ?_
      exact u2 c1 c2 hl0
    · rw [z_b0 c2]
      refine z_if_eq (q := 41) (t := 44) ⟨by decide, by decide⟩ dX3_group_38 (by decide) rfl (fun _ => ?_) (fun c => absurd c (by decide))
      refine z_iinc (q := 47) (L' := [(0, 2, x0), (1, 0, x1), (2, 0, x2), (3, 2, x3), (4, 2, x4), (5, 0, x5), (6, 0, x6), (7, 0, (x7 + 1))]) 7 dX3_group_44 rfl rfl (by decide) rfl ?_
      refine z_goto (t := 18) dX3_group_47 (by decide) ?_
      exact u3 c1 c2 hl0
theorem b_X3_group_50 {D : zD} {d : Nat} {G : zG} {h : zH} {Q : zO → zG → zH → Prop} {x0 x1 x2 x3 x4 x5 x6 x7 : Int} (p1 : z_in x7) (p2 : z_in x5) (p3 : ¬ (¬ x7 = x5) → z_is G x4 50) (p4 : ¬ (¬ x7 = x5) → 0 ≤ x5) (p5 : ¬ (¬ x7 = x5) → x5 < (G.2.2.2 x4))
    (u1 : ¬ x7 = x5 → z_Y D M_X3_group d 67 [(0, 2, x0), (1, 0, x1), (2, 0, x2), (3, 2, x3), (4, 2, x4), (5, 0, x5), (6, 0, x6), (7, 0, x7)] [] G h Q)
    (u2 : ¬ (¬ x7 = x5) → z_Y D M_X3_group d 67 [(0, 2, x0), (1, 0, x1), (2, 0, x2), (3, 2, x3), (4, 2, x4), (5, 0, (x5 + 1)), (6, 0, x6), (7, 0, x7)] [] G (z_wr h x4 x5 x6) Q) :
    z_Y D M_X3_group d 50 [(0, 2, x0), (1, 0, x1), (2, 0, x2), (3, 2, x3), (4, 2, x4), (5, 0, x5), (6, 0, x6), (7, 0, x7)] [] G h Q := by
  intro hl0
  refine z_iload (q := 52) 7 dX3_group_50 rfl rfl ?_
  refine z_iload (q := 54) 5 dX3_group_52 rfl rfl ?_
  refine z_icmp_ne (q := 57) (t := 67) p1 p2 dX3_group_54 (by decide) rfl (fun c1 => ?_) (fun c1 => ?_)
  · exact u1 c1 hl0
  · refine z_aload (q := 59) 4 dX3_group_57 rfl rfl ?_
    refine z_iload (q := 61) 5 dX3_group_59 rfl rfl ?_
    refine z_iload (q := 63) 6 dX3_group_61 rfl rfl ?_
    refine z_isn (q := 64) (p3 c1) rfl (p4 c1) (p5 c1) dX3_group_63 rfl ?_
    have hl1 := hl0.wr (v := x6) (p3 c1) (i := x5) rfl
    refine z_iinc (q := 67) (L' := [(0, 2, x0), (1, 0, x1), (2, 0, x2), (3, 2, x3), (4, 2, x4), (5, 0, (x5 + 1)), (6, 0, x6), (7, 0, x7)]) 5 dX3_group_64 rfl rfl (by decide) rfl ?_
    exact u2 c1 hl1
theorem b_X3_group_67 {D : zD} {d : Nat} {G : zG} {h : zH} {Q : zO → zG → zH → Prop} {x0 x1 x2 x3 x4 x5 x6 x7 : Int} (p1 : z_is G x3 50) (p2 : 0 ≤ x6) (p3 : x6 < (G.2.2.2 x3))
    (u1 : z_Y D M_X3_group d 6 [(0, 2, x0), (1, 0, x1), (2, 0, x2), (3, 2, x3), (4, 2, x4), (5, 0, x5), (6, 0, (x6 + 1))] [] G (z_wr h x3 x6 x7) Q) :
    z_Y D M_X3_group d 67 [(0, 2, x0), (1, 0, x1), (2, 0, x2), (3, 2, x3), (4, 2, x4), (5, 0, x5), (6, 0, x6), (7, 0, x7)] [] G h Q := by
  intro hl0
  refine z_aload_n (q := 68) 3 dX3_group_67 rfl rfl ?_
  refine z_iload (q := 70) 6 dX3_group_68 rfl rfl ?_
  refine z_iload (q := 72) 7 dX3_group_70 rfl rfl ?_
  refine z_isn (q := 73) p1 rfl p2 p3 dX3_group_72 rfl ?_
  have hl1 := hl0.wr (v := x7) p1 (i := x6) rfl
  refine z_iinc (q := 76) (L' := [(0, 2, x0), (1, 0, x1), (2, 0, x2), (3, 2, x3), (4, 2, x4), (5, 0, x5), (6, 0, (x6 + 1)), (7, 0, x7)]) 6 dX3_group_73 rfl rfl (by decide) rfl ?_
  refine z_goto (t := 6) dX3_group_76 (by decide) ?_
  refine z_sub (L' := [(0, 2, x0), (1, 0, x1), (2, 0, x2), (3, 2, x3), (4, 2, x4), (5, 0, x5), (6, 0, (x6 + 1))]) [0, 1, 2, 3, 4, 5, 6] rfl ?_
  exact u1 hl1
theorem b_X3_keep_0 {D : zD} {d : Nat} {G : zG} {h : zH} {Q : zO → zG → zH → Prop} {x1 x2 x3 : Int}
    (u1 : z_Y D M_X3_keep d 6 [(0, 2, 12), (1, 2, x1), (2, 2, x2), (3, 0, x3), (4, 0, 0), (5, 0, 0)] [] G h Q) :
    z_Y D M_X3_keep d 0 [(0, 2, 12), (1, 2, x1), (2, 2, x2), (3, 0, x3)] [] G h Q := by
  intro hl0
  refine z_iconst (q := 1) dX3_keep_0 rfl ?_
  refine z_istore (q := 3) (L' := [(0, 2, 12), (1, 2, x1), (2, 2, x2), (3, 0, x3), (4, 0, 0)]) dX3_keep_1 rfl (by decide) rfl ?_
  refine z_iconst (q := 4) dX3_keep_3 rfl ?_
  refine z_istore (q := 6) (L' := [(0, 2, 12), (1, 2, x1), (2, 2, x2), (3, 0, x3), (4, 0, 0), (5, 0, 0)]) dX3_keep_4 rfl (by decide) rfl ?_
  exact u1 hl0
theorem b_X3_keep_6 {D : zD} {d : Nat} {G : zG} {h : zH} {Q : zO → zG → zH → Prop} {x1 x2 x3 x4 x5 : Int} (hd : 2 ≤ d) (p1 : z_is G x1 3) (p2 : z_in x5) (p3 : z_in (h x1 1)) (p4 : (h x1 1) ≤ x5 → z_in x4) (p5 : (h x1 1) ≤ x5 → ¬ (x4 = (h x1 1)) → z_is G x2 3) (p6 : (h x1 1) ≤ x5 → ¬ (x4 = (h x1 1)) → z_in (h x1 2)) (p7 : ¬ ((h x1 1) ≤ x5) → 0 ≤ (x5 * (h x1 2) + x3)) (p8 : ¬ ((h x1 1) ≤ x5) → (x5 * (h x1 2) + x3) < 72) (p9 : ¬ ((h x1 1) ≤ x5) → z_in64 (h (x1 + 1) (x5 * (h x1 2) + x3))) (p10 : ¬ ((h x1 1) ≤ x5) → ¬ ((h (x1 + 1) (x5 * (h x1 2) + x3)) = 0) → 0 ≤ x4) (p11 : ¬ ((h x1 1) ≤ x5) → ¬ ((h (x1 + 1) (x5 * (h x1 2) + x3)) = 0) → x4 < 12)
    (u1 : (h x1 1) ≤ x5 → x4 = (h x1 1) → Q (.inl (some (0, 0))) G h)
    (u2 : (h x1 1) ≤ x5 → ¬ (x4 = (h x1 1)) → (1 ≤ x4 ∧ x4 ≤ 12) ∧ 1 ≤ (h x1 2) ∧ (h x1 2) ≤ 6 → z_Y D M_X3_keep d 72 [(0, 2, 12), (1, 2, x1), (2, 2, x2), (4, 0, x4), (5, 0, 0)] [] G (z_wr (z_wr h x2 1 x4) x2 2 (h x1 2)) Q)
    (u3 : (h x1 1) ≤ x5 → ¬ (x4 = (h x1 1)) → ¬ ((1 ≤ x4 ∧ x4 ≤ 12) ∧ 1 ≤ (h x1 2) ∧ (h x1 2) ≤ 6) → Q (.inl (some (0, 0))) G h)
    (u4 : ¬ ((h x1 1) ≤ x5) → (h (x1 + 1) (x5 * (h x1 2) + x3)) = 0 → z_Y D M_X3_keep d 6 [(0, 2, 12), (1, 2, x1), (2, 2, x2), (3, 0, x3), (4, 0, x4), (5, 0, (x5 + 1))] [] G h Q)
    (u5 : ¬ ((h x1 1) ≤ x5) → ¬ ((h (x1 + 1) (x5 * (h x1 2) + x3)) = 0) → z_Y D M_X3_keep d 6 [(0, 2, 12), (1, 2, x1), (2, 2, x2), (3, 0, x3), (4, 0, (x4 + 1)), (5, 0, (x5 + 1))] [] G (z_wr h 18 x4 x5) Q) :
    z_Y D M_X3_keep d 6 [(0, 2, 12), (1, 2, x1), (2, 2, x2), (3, 0, x3), (4, 0, x4), (5, 0, x5)] [] G h Q := by
  intro hl0
  refine z_iload (q := 8) 5 dX3_keep_6 rfl rfl ?_
  refine z_aload_n (q := 9) 1 dX3_keep_8 rfl rfl ?_
  refine z_gf (q := 12) (ki := 1) (v := (0, (h x1 1))) fX3_106 rfl rfl p1 dX3_keep_9 rfl ?_
  refine z_icmp_ge (q := 15) (t := 45) p2 p3 dX3_keep_12 (by decide) rfl (fun c1 => ?_) (fun c1 => ?_)
  · refine z_iload (q := 47) 4 dX3_keep_45 rfl rfl ?_
    refine z_aload_n (q := 48) 1 dX3_keep_47 rfl rfl ?_
    refine z_gf (q := 51) (ki := 1) (v := (0, (h x1 1))) fX3_106 rfl rfl p1 dX3_keep_48 rfl ?_
    refine z_icmp_eq (q := 54) (t := 67) (p4 c1) p3 dX3_keep_51 (by decide) rfl (fun c2 => ?_) (fun c2 => ?_)
    · refine z_iconst (q := 68) dX3_keep_67 rfl ?_
      exact z_bret rfl (by decide) dX3_keep_68 ⟨hl0, u1 c1 c2⟩
    · refine z_aload_n (q := 55) 2 dX3_keep_54 rfl rfl ?_
      refine z_iload (q := 57) 4 dX3_keep_55 rfl rfl ?_
      refine z_aload_n (q := 58) 1 dX3_keep_57 rfl rfl ?_
      refine z_gf (q := 61) (ki := 2) (v := (0, (h x1 2))) fX3_43 rfl rfl p1 dX3_keep_58 rfl ?_
      by_cases c3 : (1 ≤ x4 ∧ x4 ≤ 12) ∧ 1 ≤ (h x1 2) ∧ (h x1 2) ≤ 6
      · have e1 := a_X4_shape1 (D := D) (G := G) (h := h) (d := d - 1) (by omega) x2 x4 (h x1 2) (p5 c1 c2) (p4 c1) (p6 c1 c2) c3
        refine z_goV (q := 64) (av := [(0, x4), (0, (h x1 2))]) (rest := []) cb3 (p5 c1 c2) (z_toi) hl0 (z_Ei.K e1 (by omega) ?_) mo_X4_shape np_X4_shape k742 k505 k506 rfl (nle rfl) dX3_keep_61 rfl
        have hl1 : lay G (z_wr (z_wr h x2 1 x4) x2 2 (h x1 2)) := e1.lay hl0
        refine z_if_ne (q := 67) (t := 69) ⟨by decide, by decide⟩ dX3_keep_64 (by decide) rfl (fun _ => ?_) (fun c => absurd c (by decide))
        refine z_iconst (q := 70) dX3_keep_69 rfl ?_
        refine z_istore (q := 72) (L' := [(0, 2, 12), (1, 2, x1), (2, 2, x2), (3, 0, x3), (4, 0, x4), (5, 0, 0)]) dX3_keep_70 rfl (by decide) rfl ?_
        refine z_sub (L' := [(0, 2, 12), (1, 2, x1), (2, 2, x2), (4, 0, x4), (5, 0, 0)]) [0, 1, 2, 4, 5] rfl ?_
        exact u2 c1 c2 c3 hl1
      · have e2 := a_X4_shape0 (D := D) (G := G) (h := h) (d := d - 1) (by omega) x2 x4 (h x1 2) (p5 c1 c2) (p4 c1) (p6 c1 c2) c3
        refine z_goV (q := 64) (av := [(0, x4), (0, (h x1 2))]) (rest := []) cb3 (p5 c1 c2) (z_toi) hl0 (z_Ei.K e2 (by omega) ?_) mo_X4_shape np_X4_shape k742 k505 k506 rfl (nle rfl) dX3_keep_61 rfl
        refine z_if_ne (q := 67) (t := 69) ⟨by decide, by decide⟩ dX3_keep_64 (by decide) rfl (fun c => absurd c (by decide)) (fun _ => ?_)
        refine z_iconst (q := 68) dX3_keep_67 rfl ?_
        exact z_bret rfl (by decide) dX3_keep_68 ⟨hl0, u3 c1 c2 c3⟩
  · refine z_aload_n (q := 16) 1 dX3_keep_15 rfl rfl ?_
    refine z_iload (q := 18) 5 dX3_keep_16 rfl rfl ?_
    refine z_iload_n (q := 19) 3 dX3_keep_18 rfl rfl ?_
    have e3 := a_X4_at (D := D) (G := G) (h := h) (d := d - 1) (by omega) x1 x5 x3 (h x1 2) (h (x1 + 1) (x5 * (h x1 2) + x3)) p1 rfl (p7 c1) (p8 c1) rfl
    refine z_goV (q := 22) (av := [(0, x5), (0, x3)]) (rest := []) cb3 p1 (z_tol) hl0 (z_El.K e3 (by omega) ?_) mo_X4_at np_X4_at k743 k704 k705 rfl (nle rfl) dX3_keep_19 rfl
    refine z_lconst0 (q := 23) dX3_keep_22 rfl ?_
    refine z_lcmp_eq (q := 27) (t := 39) (p9 c1) ⟨by decide, by decide⟩ dX3_keep_23 (rfl : _ = 24) dX3_keep_24 (by decide) rfl (fun c4 => ?_) (fun c4 => ?_)
    · refine z_iinc (q := 42) (L' := [(0, 2, 12), (1, 2, x1), (2, 2, x2), (3, 0, x3), (4, 0, x4), (5, 0, (x5 + 1))]) 5 dX3_keep_39 rfl rfl (by decide) rfl ?_
      refine z_goto (t := 6) dX3_keep_42 (by decide) ?_
      exact u4 c1 c4 hl0
    · refine z_aload_n (q := 28) 0 dX3_keep_27 rfl rfl ?_
      refine z_gf (q := 31) (ki := 5) (v := (2, 18)) fX3_29 rfl (z_ldr rfl (hl0.ref 16 rfl)) (hl0.i 12 (by decide) rfl) dX3_keep_28 rfl ?_
      refine z_iload (q := 33) 4 dX3_keep_31 rfl rfl ?_
      refine z_iload (q := 35) 5 dX3_keep_33 rfl rfl ?_
      refine z_isn (q := 36) (hl0.i 18 (by decide) rfl) (hl0.n 18 (by decide) rfl) (p10 c1 c4) (p11 c1 c4) dX3_keep_35 rfl ?_
      have hl1 := hl0.wr (v := x5) (hl0.i 18 (by decide) rfl) (i := x4) rfl
      refine z_iinc (q := 39) (L' := [(0, 2, 12), (1, 2, x1), (2, 2, x2), (3, 0, x3), (4, 0, (x4 + 1)), (5, 0, x5)]) 4 dX3_keep_36 rfl rfl (by decide) rfl ?_
      refine z_iinc (q := 42) (L' := [(0, 2, 12), (1, 2, x1), (2, 2, x2), (3, 0, x3), (4, 0, (x4 + 1)), (5, 0, (x5 + 1))]) 5 dX3_keep_39 rfl rfl (by decide) rfl ?_
      refine z_goto (t := 6) dX3_keep_42 (by decide) ?_
      exact u5 c1 c4 hl1
theorem b_X3_keep_72 {D : zD} {d : Nat} {G : zG} {h : zH} {Q : zO → zG → zH → Prop} {x1 x2 x4 x5 : Int} (hd : 3 ≤ d) (p1 : z_in x5) (p2 : z_in x4) (p3 : ¬ (x4 ≤ x5) → 0 ≤ x5) (p4 : ¬ (x4 ≤ x5) → x5 < 12) (p5 : ¬ (x4 ≤ x5) → z_is G x1 3) (p6 : ¬ (x4 ≤ x5) → z_is G x2 3) (p7 : ¬ (x4 ≤ x5) → ¬ x1 = x2) (p8 : ¬ (x4 ≤ x5) → 0 ≤ (h x1 2)) (p9 : ¬ (x4 ≤ x5) → 0 ≤ (x5 * (h x2 2))) (p10 : ¬ (x4 ≤ x5) → (x5 * (h x2 2)) + (h x1 2) ≤ 72) (p11 : ¬ (x4 ≤ x5) → 0 ≤ ((h 18 x5) * (h x1 2))) (p12 : ¬ (x4 ≤ x5) → ((h 18 x5) * (h x1 2)) + (h x1 2) ≤ 72)
    (u1 : x4 ≤ x5 → Q (.inl (some (0, 1))) G h)
    (u2 : ¬ (x4 ≤ x5) → z_Y D M_X3_keep d 72 [(0, 2, 12), (1, 2, x1), (2, 2, x2), (4, 0, x4), (5, 0, (x5 + 1))] [] G (z_cp h (x1 + 1) ((h 18 x5) * (h x1 2)) (x2 + 1) (x5 * (h x2 2)) (h x1 2)) Q) :
    z_Y D M_X3_keep d 72 [(0, 2, 12), (1, 2, x1), (2, 2, x2), (4, 0, x4), (5, 0, x5)] [] G h Q := by
  intro hl0
  refine z_iload (q := 74) 4 dX3_keep_72 rfl rfl ?_
  refine z_iload (q := 76) 3 dX3_keep_74 rfl rfl ?_
  refine z_icmp_ge (q := 79) (t := 103) p1 p2 dX3_keep_76 (by decide) rfl (fun c1 => ?_) (fun c1 => ?_)
  · refine z_iconst (q := 104) dX3_keep_103 rfl ?_
    exact z_bret rfl (by decide) dX3_keep_104 ⟨hl0, u1 c1⟩
  · refine z_aload_n (q := 80) 2 dX3_keep_79 rfl rfl ?_
    refine z_iload (q := 82) 4 dX3_keep_80 rfl rfl ?_
    refine z_aload_n (q := 83) 1 dX3_keep_82 rfl rfl ?_
    refine z_aload_n (q := 84) 0 dX3_keep_83 rfl rfl ?_
    refine z_gf (q := 87) (ki := 5) (v := (2, 18)) fX3_29 rfl (z_ldr rfl (hl0.ref 16 rfl)) (hl0.i 12 (by decide) rfl) dX3_keep_84 rfl ?_
    refine z_iload (q := 89) 4 dX3_keep_87 rfl rfl ?_
    refine z_iale (q := 90) (v := (h 18 x5)) (hl0.a 18 (by decide) rfl) (p3 c1) (p4 c1) rfl dX3_keep_89 rfl ?_
    refine z_aload_n (q := 91) 1 dX3_keep_90 rfl rfl ?_
    refine z_gf (q := 94) (ki := 2) (v := (0, (h x1 2))) fX3_43 rfl rfl (p5 c1) dX3_keep_91 rfl ?_
    have e1 := a_X4_putRow (D := D) (G := G) (h := h) (d := d - 1) (by omega) x2 x5 x1 (h 18 x5) (h x1 2) (h x2 2) (h x1 2) (p6 c1) (p5 c1) (nesy (p7 c1)) rfl rfl (p8 c1) (p9 c1) (p10 c1) (p11 c1) (p12 c1)
    refine z_goV (q := 97) (av := [(0, x5), (2, x1), (0, (h 18 x5)), (0, (h x1 2))]) (rest := []) cb3 (p6 c1) (z_tov) hl0 (z_Ev.K e1 (by omega) ?_) mo_X4_putRow np_X4_putRow k776 k777 k778 rfl (nle rfl) dX3_keep_94 rfl
    have hl1 : lay G (z_cp h (x1 + 1) ((h 18 x5) * (h x1 2)) (x2 + 1) (x5 * (h x2 2)) (h x1 2)) := e1.lay hl0
    refine z_iinc (q := 100) (L' := [(0, 2, 12), (1, 2, x1), (2, 2, x2), (4, 0, x4), (5, 0, (x5 + 1))]) 4 dX3_keep_97 rfl rfl (by decide) rfl ?_
    refine z_goto (t := 72) dX3_keep_100 (by decide) ?_
    exact u2 c1 hl1
theorem b_X3_single_0 {D : zD} {d : Nat} {G : zG} {h : zH} {Q : zO → zG → zH → Prop} {x1 x2 : Int} (p1 : z_is G x1 3)
    (u1 : z_Ki D M_X3_group d [(2, x1), (0, 0), (0, (h x1 2)), (2, 13), (2, 14)] G h (fun r G' h' => z_Y D M_X3_single d 17 [(0, 2, 12), (1, 2, x1), (2, 2, x2)] [(0, r)] G' h' Q)) :
    z_Y D M_X3_single d 0 [(0, 2, 12), (1, 2, x1), (2, 2, x2)] [] G h Q := by
  intro hl0
  refine z_aload_n (q := 1) 1 dX3_single_0 rfl rfl ?_
  refine z_iconst (q := 2) dX3_single_1 rfl ?_
  refine z_aload_n (q := 3) 1 dX3_single_2 rfl rfl ?_
  refine z_gf (q := 6) (ki := 2) (v := (0, (h x1 2))) fX3_43 rfl rfl p1 dX3_single_3 rfl ?_
  refine z_aload_n (q := 7) 0 dX3_single_6 rfl rfl ?_
  refine z_gf (q := 10) (ki := 0) (v := (2, 13)) fX3_11 rfl (z_ldr rfl (hl0.ref 11 rfl)) (hl0.i 12 (by decide) rfl) dX3_single_7 rfl ?_
  refine z_aload_n (q := 11) 0 dX3_single_10 rfl rfl ?_
  refine z_gf (q := 14) (ki := 1) (v := (2, 14)) fX3_17 rfl (z_ldr rfl (hl0.ref 12 rfl)) (hl0.i 12 (by decide) rfl) dX3_single_11 rfl ?_
  exact z_goS (q := 17) (av := [(2, x1), (0, 0), (0, (h x1 2)), (2, 13), (2, 14)]) (rest := []) z_toi hl0 (u1) mo_X3_group np_X3_group k786 k787 rfl (nle rfl) dX3_single_14 rfl
theorem b_X3_single_17 {D : zD} {d : Nat} {G : zG} {h : zH} {Q : zO → zG → zH → Prop} {s0 x1 x2 : Int} (hd : 2 ≤ d) (p1 : z_is G x1 3) (p2 : z_in s0) (p3 : z_in (h x1 1)) (p4 : ¬ (s0 = (h x1 1)) → z_is G x2 3) (p5 : ¬ (s0 = (h x1 1)) → z_in (h x1 2))
    (u1 : s0 = (h x1 1) → Q (.inl (some (0, 0))) G h)
    (u2 : ¬ (s0 = (h x1 1)) → (1 ≤ s0 ∧ s0 ≤ 12) ∧ 1 ≤ (h x1 2) ∧ (h x1 2) ≤ 6 → z_Y D M_X3_single d 43 [(0, 2, 12), (1, 2, x1), (2, 2, x2), (3, 0, s0), (4, 0, 0)] [] G (z_wr (z_wr h x2 1 s0) x2 2 (h x1 2)) Q)
    (u3 : ¬ (s0 = (h x1 1)) → ¬ ((1 ≤ s0 ∧ s0 ≤ 12) ∧ 1 ≤ (h x1 2) ∧ (h x1 2) ≤ 6) → Q (.inl (some (0, 0))) G h) :
    z_Y D M_X3_single d 17 [(0, 2, 12), (1, 2, x1), (2, 2, x2)] [(0, s0)] G h Q := by
  intro hl0
  refine z_istore_n (q := 18) (L' := [(0, 2, 12), (1, 2, x1), (2, 2, x2), (3, 0, s0)]) dX3_single_17 rfl (by decide) rfl ?_
  refine z_iload_n (q := 19) 3 dX3_single_18 rfl rfl ?_
  refine z_aload_n (q := 20) 1 dX3_single_19 rfl rfl ?_
  refine z_gf (q := 23) (ki := 1) (v := (0, (h x1 1))) fX3_106 rfl rfl p1 dX3_single_20 rfl ?_
  refine z_icmp_eq (q := 26) (t := 38) p2 p3 dX3_single_23 (by decide) rfl (fun c1 => ?_) (fun c1 => ?_)
  · refine z_iconst (q := 39) dX3_single_38 rfl ?_
    exact z_bret rfl (by decide) dX3_single_39 ⟨hl0, u1 c1⟩
  · refine z_aload_n (q := 27) 2 dX3_single_26 rfl rfl ?_
    refine z_iload_n (q := 28) 3 dX3_single_27 rfl rfl ?_
    refine z_aload_n (q := 29) 1 dX3_single_28 rfl rfl ?_
    refine z_gf (q := 32) (ki := 2) (v := (0, (h x1 2))) fX3_43 rfl rfl p1 dX3_single_29 rfl ?_
    by_cases c2 : (1 ≤ s0 ∧ s0 ≤ 12) ∧ 1 ≤ (h x1 2) ∧ (h x1 2) ≤ 6
    · have e1 := a_X4_shape1 (D := D) (G := G) (h := h) (d := d - 1) (by omega) x2 s0 (h x1 2) (p4 c1) p2 (p5 c1) c2
      refine z_goV (q := 35) (av := [(0, s0), (0, (h x1 2))]) (rest := []) cb3 (p4 c1) (z_toi) hl0 (z_Ei.K e1 (by omega) ?_) mo_X4_shape np_X4_shape k742 k505 k506 rfl (nle rfl) dX3_single_32 rfl
      have hl1 : lay G (z_wr (z_wr h x2 1 s0) x2 2 (h x1 2)) := e1.lay hl0
      refine z_if_ne (q := 38) (t := 40) ⟨by decide, by decide⟩ dX3_single_35 (by decide) rfl (fun _ => ?_) (fun c => absurd c (by decide))
      refine z_iconst (q := 41) dX3_single_40 rfl ?_
      refine z_istore (q := 43) (L' := [(0, 2, 12), (1, 2, x1), (2, 2, x2), (3, 0, s0), (4, 0, 0)]) dX3_single_41 rfl (by decide) rfl ?_
      exact u2 c1 c2 hl1
    · have e2 := a_X4_shape0 (D := D) (G := G) (h := h) (d := d - 1) (by omega) x2 s0 (h x1 2) (p4 c1) p2 (p5 c1) c2
      refine z_goV (q := 35) (av := [(0, s0), (0, (h x1 2))]) (rest := []) cb3 (p4 c1) (z_toi) hl0 (z_Ei.K e2 (by omega) ?_) mo_X4_shape np_X4_shape k742 k505 k506 rfl (nle rfl) dX3_single_32 rfl
      refine z_if_ne (q := 38) (t := 40) ⟨by decide, by decide⟩ dX3_single_35 (by decide) rfl (fun c => absurd c (by decide)) (fun _ => ?_)
      refine z_iconst (q := 39) dX3_single_38 rfl ?_
      exact z_bret rfl (by decide) dX3_single_39 ⟨hl0, u3 c1 c2⟩
theorem b_X3_single_43 {D : zD} {d : Nat} {G : zG} {h : zH} {Q : zO → zG → zH → Prop} {x1 x2 x3 x4 : Int} (hd : 3 ≤ d) (p1 : z_in x4) (p2 : z_in x3) (p3 : ¬ (x3 ≤ x4) → 0 ≤ x4) (p4 : ¬ (x3 ≤ x4) → x4 < 12) (p5 : ¬ (x3 ≤ x4) → z_is G x1 3) (p6 : ¬ (x3 ≤ x4) → z_is G x2 3) (p7 : ¬ (x3 ≤ x4) → ¬ x1 = x2) (p8 : ¬ (x3 ≤ x4) → 0 ≤ (h x1 2)) (p9 : ¬ (x3 ≤ x4) → 0 ≤ (x4 * (h x2 2))) (p10 : ¬ (x3 ≤ x4) → (x4 * (h x2 2)) + (h x1 2) ≤ 72) (p11 : ¬ (x3 ≤ x4) → 0 ≤ ((h 14 x4) * (h x1 2))) (p12 : ¬ (x3 ≤ x4) → ((h 14 x4) * (h x1 2)) + (h x1 2) ≤ 72)
    (u1 : x3 ≤ x4 → Q (.inl (some (0, 1))) G h)
    (u2 : ¬ (x3 ≤ x4) → z_Y D M_X3_single d 43 [(0, 2, 12), (1, 2, x1), (2, 2, x2), (3, 0, x3), (4, 0, (x4 + 1))] [] G (z_cp h (x1 + 1) ((h 14 x4) * (h x1 2)) (x2 + 1) (x4 * (h x2 2)) (h x1 2)) Q) :
    z_Y D M_X3_single d 43 [(0, 2, 12), (1, 2, x1), (2, 2, x2), (3, 0, x3), (4, 0, x4)] [] G h Q := by
  intro hl0
  refine z_iload (q := 45) 4 dX3_single_43 rfl rfl ?_
  refine z_iload_n (q := 46) 3 dX3_single_45 rfl rfl ?_
  refine z_icmp_ge (q := 49) (t := 73) p1 p2 dX3_single_46 (by decide) rfl (fun c1 => ?_) (fun c1 => ?_)
  · refine z_iconst (q := 74) dX3_single_73 rfl ?_
    exact z_bret rfl (by decide) dX3_single_74 ⟨hl0, u1 c1⟩
  · refine z_aload_n (q := 50) 2 dX3_single_49 rfl rfl ?_
    refine z_iload (q := 52) 4 dX3_single_50 rfl rfl ?_
    refine z_aload_n (q := 53) 1 dX3_single_52 rfl rfl ?_
    refine z_aload_n (q := 54) 0 dX3_single_53 rfl rfl ?_
    refine z_gf (q := 57) (ki := 1) (v := (2, 14)) fX3_17 rfl (z_ldr rfl (hl0.ref 12 rfl)) (hl0.i 12 (by decide) rfl) dX3_single_54 rfl ?_
    refine z_iload (q := 59) 4 dX3_single_57 rfl rfl ?_
    refine z_iale (q := 60) (v := (h 14 x4)) (hl0.a 14 (by decide) rfl) (p3 c1) (p4 c1) rfl dX3_single_59 rfl ?_
    refine z_aload_n (q := 61) 1 dX3_single_60 rfl rfl ?_
    refine z_gf (q := 64) (ki := 2) (v := (0, (h x1 2))) fX3_43 rfl rfl (p5 c1) dX3_single_61 rfl ?_
    have e1 := a_X4_putRow (D := D) (G := G) (h := h) (d := d - 1) (by omega) x2 x4 x1 (h 14 x4) (h x1 2) (h x2 2) (h x1 2) (p6 c1) (p5 c1) (nesy (p7 c1)) rfl rfl (p8 c1) (p9 c1) (p10 c1) (p11 c1) (p12 c1)
    refine z_goV (q := 67) (av := [(0, x4), (2, x1), (0, (h 14 x4)), (0, (h x1 2))]) (rest := []) cb3 (p6 c1) (z_tov) hl0 (z_Ev.K e1 (by omega) ?_) mo_X4_putRow np_X4_putRow k776 k777 k778 rfl (nle rfl) dX3_single_64 rfl
    have hl1 : lay G (z_cp h (x1 + 1) ((h 14 x4) * (h x1 2)) (x2 + 1) (x4 * (h x2 2)) (h x1 2)) := e1.lay hl0
    refine z_iinc (q := 70) (L' := [(0, 2, 12), (1, 2, x1), (2, 2, x2), (3, 0, x3), (4, 0, (x4 + 1))]) 4 dX3_single_67 rfl rfl (by decide) rfl ?_
    refine z_goto (t := 43) dX3_single_70 (by decide) ?_
    exact u2 c1 hl1
theorem b_X3_sort_0 {D : zD} {d : Nat} {G : zG} {h : zH} {Q : zO → zG → zH → Prop} {x1 x2 x3 : Int}
    (u1 : z_Y D M_X3_sort d 6 [(0, 2, 12), (1, 2, x1), (2, 2, x2), (3, 0, x3), (4, 0, 0), (5, 0, 0)] [] G h Q) :
    z_Y D M_X3_sort d 0 [(0, 2, 12), (1, 2, x1), (2, 2, x2), (3, 0, x3)] [] G h Q := by
  intro hl0
  refine z_iconst (q := 1) dX3_sort_0 rfl ?_
  refine z_istore (q := 3) (L' := [(0, 2, 12), (1, 2, x1), (2, 2, x2), (3, 0, x3), (4, 0, 0)]) dX3_sort_1 rfl (by decide) rfl ?_
  refine z_iconst (q := 4) dX3_sort_3 rfl ?_
  refine z_istore (q := 6) (L' := [(0, 2, 12), (1, 2, x1), (2, 2, x2), (3, 0, x3), (4, 0, 0), (5, 0, 0)]) dX3_sort_4 rfl (by decide) rfl ?_
  exact u1 hl0
theorem b_X3_sort_6 {D : zD} {d : Nat} {G : zG} {h : zH} {Q : zO → zG → zH → Prop} {x1 x2 x3 x4 x5 : Int} (hd : 3 ≤ d) (p1 : z_is G x1 3) (p2 : z_in x5) (p3 : z_in (h x1 1)) (p4 : (h x1 1) ≤ x5 → z_in x4) (p5 : (h x1 1) ≤ x5 → ¬ (x4 = 0) → z_is G x2 3) (p6 : (h x1 1) ≤ x5 → ¬ (x4 = 0) → z_in (h x1 2)) (p7 : ¬ ((h x1 1) ≤ x5) → 0 ≤ (x5 * (h x1 2) + x3)) (p8 : ¬ ((h x1 1) ≤ x5) → (x5 * (h x1 2) + x3) < 72) (p9 : ¬ ((h x1 1) ≤ x5) → 0 ≤ (h (x1 + 1) (x5 * (h x1 2) + x3))) (p10 : ¬ ((h x1 1) ≤ x5) → (h (x1 + 1) (x5 * (h x1 2) + x3)) < 72057594037927936)
    (u1 : (h x1 1) ≤ x5 → x4 = 0 → Q (.inl (some (0, 0))) G h)
    (u2 : (h x1 1) ≤ x5 → ¬ (x4 = 0) → (1 ≤ (h x1 1) ∧ (h x1 1) ≤ 12) ∧ 1 ≤ (h x1 2) ∧ (h x1 2) ≤ 6 → z_Y D M_X3_sort d 140 [(0, 2, 12), (1, 2, x1), (2, 2, x2), (5, 0, 0)] [] G (z_wr (z_wr h x2 1 (h x1 1)) x2 2 (h x1 2)) Q)
    (u3 : (h x1 1) ≤ x5 → ¬ (x4 = 0) → ¬ ((1 ≤ (h x1 1) ∧ (h x1 1) ≤ 12) ∧ 1 ≤ (h x1 2) ∧ (h x1 2) ≤ 6) → Q (.inl (some (0, 0))) G h)
    (u4 : ¬ ((h x1 1) ≤ x5) → z_Y D M_X3_sort d 31 [(0, 2, 12), (1, 2, x1), (2, 2, x2), (3, 0, x3), (4, 0, x4), (5, 0, x5), (6, 1, (zkey (h (x1 + 1) (x5 * (h x1 2) + x3)))), (8, 0, x5)] [] G h Q) :
    z_Y D M_X3_sort d 6 [(0, 2, 12), (1, 2, x1), (2, 2, x2), (3, 0, x3), (4, 0, x4), (5, 0, x5)] [] G h Q := by
  intro hl0
  refine z_iload (q := 8) 5 dX3_sort_6 rfl rfl ?_
  refine z_aload_n (q := 9) 1 dX3_sort_8 rfl rfl ?_
  refine z_gf (q := 12) (ki := 1) (v := (0, (h x1 1))) fX3_106 rfl rfl p1 dX3_sort_9 rfl ?_
  refine z_icmp_ge (q := 15) (t := 115) p2 p3 dX3_sort_12 (by decide) rfl (fun c1 => ?_) (fun c1 => ?_)
  · refine z_iload (q := 117) 4 dX3_sort_115 rfl rfl ?_
    refine z_if_eq (q := 120) (t := 135) (p4 c1) dX3_sort_117 (by decide) rfl (fun c2 => ?_) (fun c2 => ?_)
    · refine z_iconst (q := 136) dX3_sort_135 rfl ?_
      exact z_bret rfl (by decide) dX3_sort_136 ⟨hl0, u1 c1 c2⟩
    · refine z_aload_n (q := 121) 2 dX3_sort_120 rfl rfl ?_
      refine z_aload_n (q := 122) 1 dX3_sort_121 rfl rfl ?_
      refine z_gf (q := 125) (ki := 1) (v := (0, (h x1 1))) fX3_106 rfl rfl p1 dX3_sort_122 rfl ?_
      refine z_aload_n (q := 126) 1 dX3_sort_125 rfl rfl ?_
      refine z_gf (q := 129) (ki := 2) (v := (0, (h x1 2))) fX3_43 rfl rfl p1 dX3_sort_126 rfl ?_
      by_cases c3 : (1 ≤ (h x1 1) ∧ (h x1 1) ≤ 12) ∧ 1 ≤ (h x1 2) ∧ (h x1 2) ≤ 6
      · have e1 := a_X4_shape1 (D := D) (G := G) (h := h) (d := d - 1) (by omega) x2 (h x1 1) (h x1 2) (p5 c1 c2) p3 (p6 c1 c2) c3
        refine z_goV (q := 132) (av := [(0, (h x1 1)), (0, (h x1 2))]) (rest := []) cb3 (p5 c1 c2) (z_toi) hl0 (z_Ei.K e1 (by omega) ?_) mo_X4_shape np_X4_shape k742 k505 k506 rfl (nle rfl) dX3_sort_129 rfl
        have hl1 : lay G (z_wr (z_wr h x2 1 (h x1 1)) x2 2 (h x1 2)) := e1.lay hl0
        refine z_if_ne (q := 135) (t := 137) ⟨by decide, by decide⟩ dX3_sort_132 (by decide) rfl (fun _ => ?_) (fun c => absurd c (by decide))
        refine z_iconst (q := 138) dX3_sort_137 rfl ?_
        refine z_istore (q := 140) (L' := [(0, 2, 12), (1, 2, x1), (2, 2, x2), (3, 0, x3), (4, 0, x4), (5, 0, 0)]) dX3_sort_138 rfl (by decide) rfl ?_
        refine z_sub (L' := [(0, 2, 12), (1, 2, x1), (2, 2, x2), (5, 0, 0)]) [0, 1, 2, 5] rfl ?_
        exact u2 c1 c2 c3 hl1
      · have e2 := a_X4_shape0 (D := D) (G := G) (h := h) (d := d - 1) (by omega) x2 (h x1 1) (h x1 2) (p5 c1 c2) p3 (p6 c1 c2) c3
        refine z_goV (q := 132) (av := [(0, (h x1 1)), (0, (h x1 2))]) (rest := []) cb3 (p5 c1 c2) (z_toi) hl0 (z_Ei.K e2 (by omega) ?_) mo_X4_shape np_X4_shape k742 k505 k506 rfl (nle rfl) dX3_sort_129 rfl
        refine z_if_ne (q := 135) (t := 137) ⟨by decide, by decide⟩ dX3_sort_132 (by decide) rfl (fun c => absurd c (by decide)) (fun _ => ?_)
        refine z_iconst (q := 136) dX3_sort_135 rfl ?_
        exact z_bret rfl (by decide) dX3_sort_136 ⟨hl0, u3 c1 c2 c3⟩
  · refine z_aload_n (q := 16) 1 dX3_sort_15 rfl rfl ?_
    refine z_iload (q := 18) 5 dX3_sort_16 rfl rfl ?_
    refine z_iload_n (q := 19) 3 dX3_sort_18 rfl rfl ?_
    have e3 := a_X4_at (D := D) (G := G) (h := h) (d := d - 1) (by omega) x1 x5 x3 (h x1 2) (h (x1 + 1) (x5 * (h x1 2) + x3)) p1 rfl (p7 c1) (p8 c1) rfl
    refine z_goV (q := 22) (av := [(0, x5), (0, x3)]) (rest := []) cb3 p1 (z_tol) hl0 (z_El.K e3 (by omega) ?_) mo_X4_at np_X4_at k743 k704 k705 rfl (nle rfl) dX3_sort_19 rfl
    have e4 := a_X6_sortKey (D := D) (G := G) (h := h) (d := d - 1) (by omega) (h (x1 + 1) (x5 * (h x1 2) + x3)) (p9 c1) (p10 c1)
    refine z_goS (q := 25) (av := [(1, (h (x1 + 1) (x5 * (h x1 2) + x3)))]) (rest := []) (z_tol) hl0 (z_El.K e4 (by omega) ?_) mo_X6_sortKey np_X6_sortKey k804 k805 rfl (nle rfl) dX3_sort_22 rfl
    refine z_lstore (q := 27) (L' := [(0, 2, 12), (1, 2, x1), (2, 2, x2), (3, 0, x3), (4, 0, x4), (5, 0, x5), (6, 1, (zkey (h (x1 + 1) (x5 * (h x1 2) + x3))))]) dX3_sort_25 rfl (by decide) rfl ?_
    refine z_iload (q := 29) 5 dX3_sort_27 rfl rfl ?_
    refine z_istore (q := 31) (L' := [(0, 2, 12), (1, 2, x1), (2, 2, x2), (3, 0, x3), (4, 0, x4), (5, 0, x5), (6, 1, (zkey (h (x1 + 1) (x5 * (h x1 2) + x3)))), (8, 0, x5)]) dX3_sort_29 rfl (by decide) rfl ?_
    exact u4 c1 hl0
theorem b_X3_sort_140 {D : zD} {d : Nat} {G : zG} {h : zH} {Q : zO → zG → zH → Prop} {x1 x2 x5 : Int} (hd : 3 ≤ d) (p1 : z_is G x1 3) (p2 : z_in x5) (p3 : z_in (h x1 1)) (p4 : ¬ ((h x1 1) ≤ x5) → 0 ≤ x5) (p5 : ¬ ((h x1 1) ≤ x5) → x5 < 12) (p6 : ¬ ((h x1 1) ≤ x5) → z_is G x2 3) (p7 : ¬ ((h x1 1) ≤ x5) → ¬ x1 = x2) (p8 : ¬ ((h x1 1) ≤ x5) → 0 ≤ (h x1 2)) (p9 : ¬ ((h x1 1) ≤ x5) → 0 ≤ (x5 * (h x2 2))) (p10 : ¬ ((h x1 1) ≤ x5) → (x5 * (h x2 2)) + (h x1 2) ≤ 72) (p11 : ¬ ((h x1 1) ≤ x5) → 0 ≤ ((h 18 x5) * (h x1 2))) (p12 : ¬ ((h x1 1) ≤ x5) → ((h 18 x5) * (h x1 2)) + (h x1 2) ≤ 72)
    (u1 : (h x1 1) ≤ x5 → Q (.inl (some (0, 1))) G h)
    (u2 : ¬ ((h x1 1) ≤ x5) → z_Y D M_X3_sort d 140 [(0, 2, 12), (1, 2, x1), (2, 2, x2), (5, 0, (x5 + 1))] [] G (z_cp h (x1 + 1) ((h 18 x5) * (h x1 2)) (x2 + 1) (x5 * (h x2 2)) (h x1 2)) Q) :
    z_Y D M_X3_sort d 140 [(0, 2, 12), (1, 2, x1), (2, 2, x2), (5, 0, x5)] [] G h Q := by
  intro hl0
  refine z_iload (q := 142) 3 dX3_sort_140 rfl rfl ?_
  refine z_aload_n (q := 143) 1 dX3_sort_142 rfl rfl ?_
  refine z_gf (q := 146) (ki := 1) (v := (0, (h x1 1))) fX3_106 rfl rfl p1 dX3_sort_143 rfl ?_
  refine z_icmp_ge (q := 149) (t := 173) p2 p3 dX3_sort_146 (by decide) rfl (fun c1 => ?_) (fun c1 => ?_)
  · refine z_iconst (q := 174) dX3_sort_173 rfl ?_
    exact z_bret rfl (by decide) dX3_sort_174 ⟨hl0, u1 c1⟩
  · refine z_aload_n (q := 150) 2 dX3_sort_149 rfl rfl ?_
    refine z_iload (q := 152) 3 dX3_sort_150 rfl rfl ?_
    refine z_aload_n (q := 153) 1 dX3_sort_152 rfl rfl ?_
    refine z_aload_n (q := 154) 0 dX3_sort_153 rfl rfl ?_
    refine z_gf (q := 157) (ki := 5) (v := (2, 18)) fX3_29 rfl (z_ldr rfl (hl0.ref 16 rfl)) (hl0.i 12 (by decide) rfl) dX3_sort_154 rfl ?_
    refine z_iload (q := 159) 3 dX3_sort_157 rfl rfl ?_
    refine z_iale (q := 160) (v := (h 18 x5)) (hl0.a 18 (by decide) rfl) (p4 c1) (p5 c1) rfl dX3_sort_159 rfl ?_
    refine z_aload_n (q := 161) 1 dX3_sort_160 rfl rfl ?_
    refine z_gf (q := 164) (ki := 2) (v := (0, (h x1 2))) fX3_43 rfl rfl p1 dX3_sort_161 rfl ?_
    have e1 := a_X4_putRow (D := D) (G := G) (h := h) (d := d - 1) (by omega) x2 x5 x1 (h 18 x5) (h x1 2) (h x2 2) (h x1 2) (p6 c1) p1 (nesy (p7 c1)) rfl rfl (p8 c1) (p9 c1) (p10 c1) (p11 c1) (p12 c1)
    refine z_goV (q := 167) (av := [(0, x5), (2, x1), (0, (h 18 x5)), (0, (h x1 2))]) (rest := []) cb3 (p6 c1) (z_tov) hl0 (z_Ev.K e1 (by omega) ?_) mo_X4_putRow np_X4_putRow k776 k777 k778 rfl (nle rfl) dX3_sort_164 rfl
    have hl1 : lay G (z_cp h (x1 + 1) ((h 18 x5) * (h x1 2)) (x2 + 1) (x5 * (h x2 2)) (h x1 2)) := e1.lay hl0
    refine z_iinc (q := 170) (L' := [(0, 2, 12), (1, 2, x1), (2, 2, x2), (5, 0, (x5 + 1))]) 3 dX3_sort_167 rfl rfl (by decide) rfl ?_
    refine z_goto (t := 140) dX3_sort_170 (by decide) ?_
    exact u2 c1 hl1
theorem b_X3_sort_31 {D : zD} {d : Nat} {G : zG} {h : zH} {Q : zO → zG → zH → Prop} {x1 x2 x3 x4 x5 x6 x8 : Int} (hd : 3 ≤ d) (p1 : z_in x8) (p2 : ¬ (x8 ≤ 0) → 0 ≤ (x8 - 1)) (p3 : ¬ (x8 ≤ 0) → (x8 - 1) < 12) (p4 : ¬ (x8 ≤ 0) → z_is G x1 3) (p5 : ¬ (x8 ≤ 0) → 0 ≤ ((h 18 (x8 - 1)) * (h x1 2) + x3)) (p6 : ¬ (x8 ≤ 0) → ((h 18 (x8 - 1)) * (h x1 2) + x3) < 72) (p7 : ¬ (x8 ≤ 0) → 0 ≤ (h (x1 + 1) ((h 18 (x8 - 1)) * (h x1 2) + x3))) (p8 : ¬ (x8 ≤ 0) → (h (x1 + 1) ((h 18 (x8 - 1)) * (h x1 2) + x3)) < 72057594037927936) (p9 : ¬ (x8 ≤ 0) → z_in64 (zkey (h (x1 + 1) ((h 18 (x8 - 1)) * (h x1 2) + x3)))) (p10 : ¬ (x8 ≤ 0) → z_in64 x6) (p11 : ¬ (x8 ≤ 0) → ¬ ((zkey (h (x1 + 1) ((h 18 (x8 - 1)) * (h x1 2) + x3))) ≤ x6) → 0 ≤ x8) (p12 : ¬ (x8 ≤ 0) → ¬ ((zkey (h (x1 + 1) ((h 18 (x8 - 1)) * (h x1 2) + x3))) ≤ x6) → x8 < 12)
    (u1 : x8 ≤ 0 → z_Y D M_X3_sort d 81 [(0, 2, 12), (1, 2, x1), (2, 2, x2), (3, 0, x3), (4, 0, x4), (5, 0, x5), (8, 0, x8)] [] G h Q)
    (u2 : ¬ (x8 ≤ 0) → (zkey (h (x1 + 1) ((h 18 (x8 - 1)) * (h x1 2) + x3))) ≤ x6 → z_Y D M_X3_sort d 81 [(0, 2, 12), (1, 2, x1), (2, 2, x2), (3, 0, x3), (4, 0, x4), (5, 0, x5), (8, 0, x8)] [] G h Q)
    (u3 : ¬ (x8 ≤ 0) → ¬ ((zkey (h (x1 + 1) ((h 18 (x8 - 1)) * (h x1 2) + x3))) ≤ x6) → z_Y D M_X3_sort d 31 [(0, 2, 12), (1, 2, x1), (2, 2, x2), (3, 0, x3), (4, 0, x4), (5, 0, x5), (6, 1, x6), (8, 0, (x8 + (-1)))] [] G (z_wr h 18 x8 (h 18 (x8 - 1))) Q) :
    z_Y D M_X3_sort d 31 [(0, 2, 12), (1, 2, x1), (2, 2, x2), (3, 0, x3), (4, 0, x4), (5, 0, x5), (6, 1, x6), (8, 0, x8)] [] G h Q := by
  intro hl0
  refine z_iload (q := 33) 7 dX3_sort_31 rfl rfl ?_
  refine z_if_le (q := 36) (t := 81) p1 dX3_sort_33 (by decide) rfl (fun c1 => ?_) (fun c1 => ?_)
  · refine z_sub (L' := [(0, 2, 12), (1, 2, x1), (2, 2, x2), (3, 0, x3), (4, 0, x4), (5, 0, x5), (8, 0, x8)]) [0, 1, 2, 3, 4, 5, 7] rfl ?_
    exact u1 c1 hl0
  · refine z_aload_n (q := 37) 1 dX3_sort_36 rfl rfl ?_
    refine z_aload_n (q := 38) 0 dX3_sort_37 rfl rfl ?_
    refine z_gf (q := 41) (ki := 5) (v := (2, 18)) fX3_29 rfl (z_ldr rfl (hl0.ref 16 rfl)) (hl0.i 12 (by decide) rfl) dX3_sort_38 rfl ?_
    refine z_iload (q := 43) 7 dX3_sort_41 rfl rfl ?_
    refine z_iconst (q := 44) dX3_sort_43 rfl ?_
    refine z_isub (q := 45) dX3_sort_44 rfl ?_
    refine z_iale (q := 46) (v := (h 18 (x8 - 1))) (hl0.a 18 (by decide) rfl) (p2 c1) (p3 c1) rfl dX3_sort_45 rfl ?_
    refine z_iload_n (q := 47) 3 dX3_sort_46 rfl rfl ?_
    have e1 := a_X4_at (D := D) (G := G) (h := h) (d := d - 1) (by omega) x1 (h 18 (x8 - 1)) x3 (h x1 2) (h (x1 + 1) ((h 18 (x8 - 1)) * (h x1 2) + x3)) (p4 c1) rfl (p5 c1) (p6 c1) rfl
    refine z_goV (q := 50) (av := [(0, (h 18 (x8 - 1))), (0, x3)]) (rest := []) cb3 (p4 c1) (z_tol) hl0 (z_El.K e1 (by omega) ?_) mo_X4_at np_X4_at k743 k704 k705 rfl (nle rfl) dX3_sort_47 rfl
    have e2 := a_X6_sortKey (D := D) (G := G) (h := h) (d := d - 1) (by omega) (h (x1 + 1) ((h 18 (x8 - 1)) * (h x1 2) + x3)) (p7 c1) (p8 c1)
    refine z_goS (q := 53) (av := [(1, (h (x1 + 1) ((h 18 (x8 - 1)) * (h x1 2) + x3)))]) (rest := []) (z_tol) hl0 (z_El.K e2 (by omega) ?_) mo_X6_sortKey np_X6_sortKey k804 k805 rfl (nle rfl) dX3_sort_50 rfl
    refine z_lload (q := 55) 6 dX3_sort_53 rfl rfl ?_
    refine z_lcmp_le (q := 59) (t := 81) (p9 c1) (p10 c1) dX3_sort_55 (rfl : _ = 56) dX3_sort_56 (by decide) rfl (fun c2 => ?_) (fun c2 => ?_)
    · refine z_sub (L' := [(0, 2, 12), (1, 2, x1), (2, 2, x2), (3, 0, x3), (4, 0, x4), (5, 0, x5), (8, 0, x8)]) [0, 1, 2, 3, 4, 5, 7] rfl ?_
      exact u2 c1 c2 hl0
    · refine z_aload_n (q := 60) 0 dX3_sort_59 rfl rfl ?_
      refine z_gf (q := 63) (ki := 5) (v := (2, 18)) fX3_29 rfl (z_ldr rfl (hl0.ref 16 rfl)) (hl0.i 12 (by decide) rfl) dX3_sort_60 rfl ?_
      refine z_iload (q := 65) 7 dX3_sort_63 rfl rfl ?_
      refine z_aload_n (q := 66) 0 dX3_sort_65 rfl rfl ?_
      refine z_gf (q := 69) (ki := 5) (v := (2, 18)) fX3_29 rfl (z_ldr rfl (hl0.ref 16 rfl)) (hl0.i 12 (by decide) rfl) dX3_sort_66 rfl ?_
      refine z_iload (q := 71) 7 dX3_sort_69 rfl rfl ?_
      refine z_iconst (q := 72) dX3_sort_71 rfl ?_
      refine z_isub (q := 73) dX3_sort_72 rfl ?_
      refine z_iale (q := 74) (v := (h 18 (x8 - 1))) (hl0.a 18 (by decide) rfl) (p2 c1) (p3 c1) rfl dX3_sort_73 rfl ?_
      refine z_isn (q := 75) (hl0.i 18 (by decide) rfl) (hl0.n 18 (by decide) rfl) (p11 c1 c2) (p12 c1 c2) dX3_sort_74 rfl ?_
      have hl1 := hl0.wr (v := (h 18 (x8 - 1))) (hl0.i 18 (by decide) rfl) (i := x8) rfl
      refine z_iinc (q := 78) (L' := [(0, 2, 12), (1, 2, x1), (2, 2, x2), (3, 0, x3), (4, 0, x4), (5, 0, x5), (6, 1, x6), (8, 0, (x8 + (-1)))]) 7 dX3_sort_75 rfl rfl (by decide) rfl ?_
      refine z_goto (t := 31) dX3_sort_78 (by decide) ?_
      exact u3 c1 c2 hl1
theorem b_X3_sort_81 {D : zD} {d : Nat} {G : zG} {h : zH} {Q : zO → zG → zH → Prop} {x1 x2 x3 x4 x5 x8 : Int} (p1 : 0 ≤ x8) (p2 : x8 < 12) (p3 : z_in x4) (p4 : ¬ (¬ x4 = 0) → z_in x8) (p5 : ¬ (¬ x4 = 0) → z_in x5)
    (u1 : ¬ x4 = 0 → z_Y D M_X3_sort d 102 [(0, 2, 12), (1, 2, x1), (2, 2, x2), (3, 0, x3), (5, 0, x5)] [] G (z_wr h 18 x8 x5) Q)
    (u2 : ¬ (¬ x4 = 0) → x5 ≤ x8 → z_Y D M_X3_sort d 107 [(0, 2, 12), (1, 2, x1), (2, 2, x2), (3, 0, x3), (5, 0, x5)] [(0, 0)] G (z_wr h 18 x8 x5) Q)
    (u3 : ¬ (¬ x4 = 0) → ¬ (x5 ≤ x8) → z_Y D M_X3_sort d 102 [(0, 2, 12), (1, 2, x1), (2, 2, x2), (3, 0, x3), (5, 0, x5)] [] G (z_wr h 18 x8 x5) Q) :
    z_Y D M_X3_sort d 81 [(0, 2, 12), (1, 2, x1), (2, 2, x2), (3, 0, x3), (4, 0, x4), (5, 0, x5), (8, 0, x8)] [] G h Q := by
  intro hl0
  refine z_aload_n (q := 82) 0 dX3_sort_81 rfl rfl ?_
  refine z_gf (q := 85) (ki := 5) (v := (2, 18)) fX3_29 rfl (z_ldr rfl (hl0.ref 16 rfl)) (hl0.i 12 (by decide) rfl) dX3_sort_82 rfl ?_
  refine z_iload (q := 87) 6 dX3_sort_85 rfl rfl ?_
  refine z_iload (q := 89) 5 dX3_sort_87 rfl rfl ?_
  refine z_isn (q := 90) (hl0.i 18 (by decide) rfl) (hl0.n 18 (by decide) rfl) p1 p2 dX3_sort_89 rfl ?_
  have hl1 := hl0.wr (v := x5) (hl0.i 18 (by decide) rfl) (i := x8) rfl
  refine z_iload (q := 92) 4 dX3_sort_90 rfl rfl ?_
  refine z_if_ne (q := 95) (t := 102) p3 dX3_sort_92 (by decide) rfl (fun c1 => ?_) (fun c1 => ?_)
  · refine z_sub (L' := [(0, 2, 12), (1, 2, x1), (2, 2, x2), (3, 0, x3), (5, 0, x5)]) [0, 1, 2, 3, 5] rfl ?_
    exact u1 c1 hl1
  · refine z_iload (q := 97) 6 dX3_sort_95 rfl rfl ?_
    refine z_iload (q := 99) 5 dX3_sort_97 rfl rfl ?_
    refine z_icmp_ge (q := 102) (t := 106) (p4 c1) (p5 c1) dX3_sort_99 (by decide) rfl (fun c2 => ?_) (fun c2 => ?_)
    · refine z_iconst (q := 107) dX3_sort_106 rfl ?_
      refine z_sub (L' := [(0, 2, 12), (1, 2, x1), (2, 2, x2), (3, 0, x3), (5, 0, x5)]) [0, 1, 2, 3, 5] rfl ?_
      exact u2 c1 c2 hl1
    · refine z_sub (L' := [(0, 2, 12), (1, 2, x1), (2, 2, x2), (3, 0, x3), (5, 0, x5)]) [0, 1, 2, 3, 5] rfl ?_
      exact u3 c1 c2 hl1
theorem b_X3_sort_102 {D : zD} {d : Nat} {G : zG} {h : zH} {Q : zO → zG → zH → Prop} {x1 x2 x3 x5 : Int}
    (u1 : z_Y D M_X3_sort d 107 [(0, 2, 12), (1, 2, x1), (2, 2, x2), (3, 0, x3), (5, 0, x5)] [(0, 1)] G h Q) :
    z_Y D M_X3_sort d 102 [(0, 2, 12), (1, 2, x1), (2, 2, x2), (3, 0, x3), (5, 0, x5)] [] G h Q := by
  intro hl0
  refine z_iconst (q := 103) dX3_sort_102 rfl ?_
  refine z_goto (t := 107) dX3_sort_103 (by decide) ?_
  exact u1 hl0
theorem b_X3_sort_107 {D : zD} {d : Nat} {G : zG} {h : zH} {Q : zO → zG → zH → Prop} {s0 x1 x2 x3 x5 : Int}
    (u1 : z_Y D M_X3_sort d 6 [(0, 2, 12), (1, 2, x1), (2, 2, x2), (3, 0, x3), (4, 0, s0), (5, 0, (x5 + 1))] [] G h Q) :
    z_Y D M_X3_sort d 107 [(0, 2, 12), (1, 2, x1), (2, 2, x2), (3, 0, x3), (5, 0, x5)] [(0, s0)] G h Q := by
  intro hl0
  refine z_istore (q := 109) (L' := [(0, 2, 12), (1, 2, x1), (2, 2, x2), (3, 0, x3), (4, 0, s0), (5, 0, x5)]) dX3_sort_107 rfl (by decide) rfl ?_
  refine z_iinc (q := 112) (L' := [(0, 2, 12), (1, 2, x1), (2, 2, x2), (3, 0, x3), (4, 0, s0), (5, 0, (x5 + 1))]) 5 dX3_sort_109 rfl rfl (by decide) rfl ?_
  refine z_goto (t := 6) dX3_sort_112 (by decide) ?_
  exact u1 hl0
