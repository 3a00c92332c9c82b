theorem b_X13_turns_0 {D : zD} {d : Nat} {G : zG} {h : zH} {Q : zO → zG → zH → Prop} {x1 : Int} (p1 : z_in (h 88 4))
    (u1 : (h 88 4) ≤ 6 → z_Kv D M_X13_shape d [(2, 88), (0, 10), (0, x1), (0, (h 88 4))] G h (fun G' h' => z_Y D M_X13_turns d 22 [(0, 2, 88), (1, 0, x1)] [] G' h' Q))
    (u2 : ¬ ((h 88 4) ≤ 6) → Q (.inl (some (0, 0))) G h) :
    z_Y D M_X13_turns d 0 [(0, 2, 88), (1, 0, x1)] [] G h Q := by
  intro hl0
  refine z_aload_n (q := 1) 0 dX13_turns_0 rfl rfl ?_
  refine z_gf (q := 4) (ki := 4) (v := (0, (h 88 4))) fX13_126 rfl rfl (hl0.i 88 (by decide) rfl) dX13_turns_1 rfl ?_
  refine z_bipush (q := 6) dX13_turns_4 rfl (by decide) ?_
  refine z_icmp_le (q := 9) (t := 11) p1 ⟨by decide, by decide⟩ dX13_turns_6 (by decide) rfl (fun c1 => ?_) (fun c1 => ?_)
  · refine z_aload_n (q := 12) 0 dX13_turns_11 rfl rfl ?_
    refine z_bipush (q := 14) dX13_turns_12 rfl (by decide) ?_
    refine z_iload_n (q := 15) 1 dX13_turns_14 rfl rfl ?_
    refine z_aload_n (q := 16) 0 dX13_turns_15 rfl rfl ?_
    refine z_gf (q := 19) (ki := 4) (v := (0, (h 88 4))) fX13_126 rfl rfl (hl0.i 88 (by decide) rfl) dX13_turns_16 rfl ?_
    exact z_goV (q := 22) (av := [(0, 10), (0, x1), (0, (h 88 4))]) (rest := []) cb11 (hl0.i 88 (by decide) rfl) z_tov hl0 (u1 c1) mo_X13_shape np_X13_shape k1319 k1321 k44 rfl (nle rfl) dX13_turns_19 rfl
  · refine z_iconst (q := 10) dX13_turns_9 rfl ?_
    exact z_bret rfl (by decide) dX13_turns_10 ⟨hl0, u2 c1⟩
theorem b_X13_turns_22 {D : zD} {d : Nat} {G : zG} {h : zH} {Q : zO → zG → zH → Prop} {x1 : Int}
    (u1 : z_Y D M_X13_turns d 24 [(0, 2, 88), (1, 0, x1), (2, 0, 0)] [] G h Q) :
    z_Y D M_X13_turns d 22 [(0, 2, 88), (1, 0, x1)] [] G h Q := by
  intro hl0
  refine z_iconst (q := 23) dX13_turns_22 rfl ?_
  refine z_istore_n (q := 24) (L' := [(0, 2, 88), (1, 0, x1), (2, 0, 0)]) dX13_turns_23 rfl (by decide) rfl ?_
  exact u1 hl0
theorem b_X13_turns_24 {D : zD} {d : Nat} {G : zG} {h : zH} {Q : zO → zG → zH → Prop} {x1 x2 : Int} (p1 : z_in x2) (p2 : z_in (h 88 4))
    (u1 : (h 88 4) ≤ x2 → Q (.inl (some (0, 1))) G h)
    (u2 : ¬ ((h 88 4) ≤ x2) → z_Y D M_X13_turns d 34 [(0, 2, 88), (1, 0, x1), (2, 0, x2), (3, 0, 0)] [] G h Q) :
    z_Y D M_X13_turns d 24 [(0, 2, 88), (1, 0, x1), (2, 0, x2)] [] G h Q := by
  intro hl0
  refine z_iload_n (q := 25) 2 dX13_turns_24 rfl rfl ?_
  refine z_aload_n (q := 26) 0 dX13_turns_25 rfl rfl ?_
  refine z_gf (q := 29) (ki := 4) (v := (0, (h 88 4))) fX13_126 rfl rfl (hl0.i 88 (by decide) rfl) dX13_turns_26 rfl ?_
  refine z_icmp_ge (q := 32) (t := 63) p1 p2 dX13_turns_29 (by decide) rfl (fun c1 => ?_) (fun c1 => ?_)
  · refine z_iconst (q := 64) dX13_turns_63 rfl ?_
    exact z_bret rfl (by decide) dX13_turns_64 ⟨hl0, u1 c1⟩
  · refine z_iconst (q := 33) dX13_turns_32 rfl ?_
    refine z_istore_n (q := 34) (L' := [(0, 2, 88), (1, 0, x1), (2, 0, x2), (3, 0, 0)]) dX13_turns_33 rfl (by decide) rfl ?_
    exact u2 c1 hl0
theorem b_X13_turns_34 {D : zD} {d : Nat} {G : zG} {h : zH} {Q : zO → zG → zH → Prop} {x1 x2 x3 : Int} (hd : 3 ≤ d) (p1 : z_in x3) (p2 : z_in x1) (p3 : ¬ (x1 ≤ x3) → 0 ≤ (72 * (h 88 3) + 6 * x2 + x3)) (p4 : ¬ (x1 ≤ x3) → (72 * (h 88 3) + 6 * x2 + x3) < 864) (p5 : ¬ (x1 ≤ x3) → 0 ≤ (72 * 10 + 6 * x3 + x2)) (p6 : ¬ (x1 ≤ x3) → (72 * 10 + 6 * x3 + x2) < 864)
    (u1 : x1 ≤ x3 → z_Y D M_X13_turns d 24 [(0, 2, 88), (1, 0, x1), (2, 0, (x2 + 1))] [] G h Q)
    (u2 : ¬ (x1 ≤ x3) → z_Y D M_X13_turns d 34 [(0, 2, 88), (1, 0, x1), (2, 0, x2), (3, 0, (x3 + 1))] [] G (z_wr h 91 (72 * 10 + 6 * x3 + x2) (h 91 (72 * (h 88 3) + 6 * x2 + x3))) Q) :
    z_Y D M_X13_turns d 34 [(0, 2, 88), (1, 0, x1), (2, 0, x2), (3, 0, x3)] [] G h Q := by
  intro hl0
  refine z_iload_n (q := 35) 3 dX13_turns_34 rfl rfl ?_
  refine z_iload_n (q := 36) 1 dX13_turns_35 rfl rfl ?_
  refine z_icmp_ge (q := 39) (t := 57) p1 p2 dX13_turns_36 (by decide) rfl (fun c1 => ?_) (fun c1 => ?_)
  · refine z_iinc (q := 60) (L' := [(0, 2, 88), (1, 0, x1), (2, 0, (x2 + 1)), (3, 0, x3)]) 2 dX13_turns_57 rfl rfl (by decide) rfl ?_
    refine z_goto (t := 24) dX13_turns_60 (by decide) ?_
    refine z_sub (L' := [(0, 2, 88), (1, 0, x1), (2, 0, (x2 + 1))]) [0, 1, 2] rfl ?_
    exact u1 c1 hl0
  · refine z_aload_n (q := 40) 0 dX13_turns_39 rfl rfl ?_
    refine z_iload_n (q := 41) 3 dX13_turns_40 rfl rfl ?_
    refine z_iload_n (q := 42) 2 dX13_turns_41 rfl rfl ?_
    refine z_aload_n (q := 43) 0 dX13_turns_42 rfl rfl ?_
    refine z_iload_n (q := 44) 2 dX13_turns_43 rfl rfl ?_
    refine z_iload_n (q := 45) 3 dX13_turns_44 rfl rfl ?_
    have e1 := a_X13_cellAt (D := D) (G := G) (h := h) (d := d - 1) (by omega) x2 x3 (h 88 3) (h 91 (72 * (h 88 3) + 6 * x2 + x3)) rfl (p3 c1) (p4 c1) rfl
    refine z_goV (q := 48) (av := [(0, x2), (0, x3)]) (rest := [(0, x2), (0, x3), (2, 88)]) cb11 (hl0.i 88 (by decide) rfl) (z_tol) hl0 (z_El.K e1 (by omega) ?_) mo_X13_cellAt np_X13_cellAt k1507 k1509 k63 rfl (nle rfl) dX13_turns_45 rfl
    have e2 := a_X13_put (D := D) (G := G) (h := h) (d := d - 1) (by omega) x3 x2 (h 91 (72 * (h 88 3) + 6 * x2 + x3)) (p5 c1) (p6 c1)
    refine z_goV (q := 51) (av := [(0, x3), (0, x2), (1, (h 91 (72 * (h 88 3) + 6 * x2 + x3)))]) (rest := []) cb11 (hl0.i 88 (by decide) rfl) (z_tov) hl0 (z_Ev.K e2 (by omega) ?_) mo_X13_put np_X13_put k1341 k1343 k47 rfl (nle rfl) dX13_turns_48 rfl
    have hl1 : lay G (z_wr h 91 (72 * 10 + 6 * x3 + x2) (h 91 (72 * (h 88 3) + 6 * x2 + x3))) := e2.lay hl0
    refine z_iinc (q := 54) (L' := [(0, 2, 88), (1, 0, x1), (2, 0, x2), (3, 0, (x3 + 1))]) 3 dX13_turns_51 rfl rfl (by decide) rfl ?_
    refine z_goto (t := 34) dX13_turns_54 (by decide) ?_
    exact u2 c1 hl1
theorem b_X13_drops_0 {D : zD} {d : Nat} {G : zG} {h : zH} {Q : zO → zG → zH → Prop} {x1 x2 : Int} (p1 : z_in x1)
    (u1 : 2 ≤ x1 → z_Kv D M_X13_shape d [(2, 88), (0, 10), (0, (h 88 4)), (0, (x1 - 1))] G h (fun G' h' => z_Y D M_X13_drops d 20 [(0, 2, 88), (1, 0, x1), (2, 0, x2)] [] G' h' Q))
    (u2 : ¬ (2 ≤ x1) → Q (.inl (some (0, 0))) G h) :
    z_Y D M_X13_drops d 0 [(0, 2, 88), (1, 0, x1), (2, 0, x2)] [] G h Q := by
  intro hl0
  refine z_iload_n (q := 1) 1 dX13_drops_0 rfl rfl ?_
  refine z_iconst (q := 2) dX13_drops_1 rfl ?_
  refine z_icmp_ge (q := 5) (t := 7) p1 ⟨by decide, by decide⟩ dX13_drops_2 (by decide) rfl (fun c1 => ?_) (fun c1 => ?_)
  · refine z_aload_n (q := 8) 0 dX13_drops_7 rfl rfl ?_
    refine z_bipush (q := 10) dX13_drops_8 rfl (by decide) ?_
    refine z_aload_n (q := 11) 0 dX13_drops_10 rfl rfl ?_
    refine z_gf (q := 14) (ki := 4) (v := (0, (h 88 4))) fX13_126 rfl rfl (hl0.i 88 (by decide) rfl) dX13_drops_11 rfl ?_
    refine z_iload_n (q := 15) 1 dX13_drops_14 rfl rfl ?_
    refine z_iconst (q := 16) dX13_drops_15 rfl ?_
    refine z_isub (q := 17) dX13_drops_16 rfl ?_
    exact z_goV (q := 20) (av := [(0, 10), (0, (h 88 4)), (0, (x1 - 1))]) (rest := []) cb11 (hl0.i 88 (by decide) rfl) z_tov hl0 (u1 c1) mo_X13_shape np_X13_shape k1319 k1321 k44 rfl (nle rfl) dX13_drops_17 rfl
  · refine z_iconst (q := 6) dX13_drops_5 rfl ?_
    exact z_bret rfl (by decide) dX13_drops_6 ⟨hl0, u2 c1⟩
theorem b_X13_drops_20 {D : zD} {d : Nat} {G : zG} {h : zH} {Q : zO → zG → zH → Prop} {x1 x2 : Int}
    (u1 : z_Y D M_X13_drops d 22 [(0, 2, 88), (1, 0, x1), (2, 0, x2), (3, 0, 0)] [] G h Q) :
    z_Y D M_X13_drops d 20 [(0, 2, 88), (1, 0, x1), (2, 0, x2)] [] G h Q := by
  intro hl0
  refine z_iconst (q := 21) dX13_drops_20 rfl ?_
  refine z_istore_n (q := 22) (L' := [(0, 2, 88), (1, 0, x1), (2, 0, x2), (3, 0, 0)]) dX13_drops_21 rfl (by decide) rfl ?_
  exact u1 hl0
theorem b_X13_drops_22 {D : zD} {d : Nat} {G : zG} {h : zH} {Q : zO → zG → zH → Prop} {x1 x2 x3 : Int} (p1 : z_in x3) (p2 : z_in (h 88 4))
    (u1 : (h 88 4) ≤ x3 → Q (.inl (some (0, 1))) G h)
    (u2 : ¬ ((h 88 4) ≤ x3) → z_Y D M_X13_drops d 33 [(0, 2, 88), (1, 0, x1), (2, 0, x2), (3, 0, x3), (4, 0, 0)] [] G h Q) :
    z_Y D M_X13_drops d 22 [(0, 2, 88), (1, 0, x1), (2, 0, x2), (3, 0, x3)] [] G h Q := by
  intro hl0
  refine z_iload_n (q := 23) 3 dX13_drops_22 rfl rfl ?_
  refine z_aload_n (q := 24) 0 dX13_drops_23 rfl rfl ?_
  refine z_gf (q := 27) (ki := 4) (v := (0, (h 88 4))) fX13_126 rfl rfl (hl0.i 88 (by decide) rfl) dX13_drops_24 rfl ?_
  refine z_icmp_ge (q := 30) (t := 84) p1 p2 dX13_drops_27 (by decide) rfl (fun c1 => ?_) (fun c1 => ?_)
  · refine z_iconst (q := 85) dX13_drops_84 rfl ?_
    exact z_bret rfl (by decide) dX13_drops_85 ⟨hl0, u1 c1⟩
  · refine z_iconst (q := 31) dX13_drops_30 rfl ?_
    refine z_istore (q := 33) (L' := [(0, 2, 88), (1, 0, x1), (2, 0, x2), (3, 0, x3), (4, 0, 0)]) dX13_drops_31 rfl (by decide) rfl ?_
    exact u2 c1 hl0
theorem b_X13_drops_33 {D : zD} {d : Nat} {G : zG} {h : zH} {Q : zO → zG → zH → Prop} {x1 x2 x3 x4 : Int} (p1 : z_in x4) (p2 : z_in x1) (p3 : ¬ (x1 ≤ x4) → z_in x2)
    (u1 : x1 ≤ x4 → z_Y D M_X13_drops d 22 [(0, 2, 88), (1, 0, x1), (2, 0, x2), (3, 0, (x3 + 1))] [] G h Q)
    (u2 : ¬ (x1 ≤ x4) → x4 = x2 → z_Y D M_X13_drops d 33 [(0, 2, 88), (1, 0, x1), (2, 0, x2), (3, 0, x3), (4, 0, (x4 + 1))] [] G h Q)
    (u3 : ¬ (x1 ≤ x4) → ¬ (x4 = x2) → x2 ≤ x4 → z_Y D M_X13_drops d 62 [(0, 2, 88), (1, 0, x1), (2, 0, x2), (3, 0, x3), (4, 0, x4)] [(0, (x4 - 1)), (0, x3), (2, 88)] G h Q)
    (u4 : ¬ (x1 ≤ x4) → ¬ (x4 = x2) → ¬ (x2 ≤ x4) → z_Y D M_X13_drops d 62 [(0, 2, 88), (1, 0, x1), (2, 0, x2), (3, 0, x3), (4, 0, x4)] [(0, x4), (0, x3), (2, 88)] G h Q) :
    z_Y D M_X13_drops d 33 [(0, 2, 88), (1, 0, x1), (2, 0, x2), (3, 0, x3), (4, 0, x4)] [] G h Q := by
  intro hl0
  refine z_iload (q := 35) 4 dX13_drops_33 rfl rfl ?_
  refine z_iload_n (q := 36) 1 dX13_drops_35 rfl rfl ?_
  refine z_icmp_ge (q := 39) (t := 78) p1 p2 dX13_drops_36 (by decide) rfl (fun c1 => ?_) (fun c1 => ?_)
  · refine z_iinc (q := 81) (L' := [(0, 2, 88), (1, 0, x1), (2, 0, x2), (3, 0, (x3 + 1)), (4, 0, x4)]) 3 dX13_drops_78 rfl rfl (by decide) rfl ?_
    refine z_goto (t := 22) dX13_drops_81 (by decide) ?_
    refine z_sub (L' := [(0, 2, 88), (1, 0, x1), (2, 0, x2), (3, 0, (x3 + 1))]) [0, 1, 2, 3] rfl ?_
    exact u1 c1 hl0
  · refine z_iload (q := 41) 4 dX13_drops_39 rfl rfl ?_
    refine z_iload_n (q := 42) 2 dX13_drops_41 rfl rfl ?_
    refine z_icmp_eq (q := 45) (t := 72) p1 (p3 c1) dX13_drops_42 (by decide) rfl (fun c2 => ?_) (fun c2 => ?_)
    · refine z_iinc (q := 75) (L' := [(0, 2, 88), (1, 0, x1), (2, 0, x2), (3, 0, x3), (4, 0, (x4 + 1))]) 4 dX13_drops_72 rfl rfl (by decide) rfl ?_
      refine z_goto (t := 33) dX13_drops_75 (by decide) ?_
      exact u2 c1 c2 hl0
    · refine z_aload_n (q := 46) 0 dX13_drops_45 rfl rfl ?_
      refine z_iload_n (q := 47) 3 dX13_drops_46 rfl rfl ?_
      refine z_iload (q := 49) 4 dX13_drops_47 rfl rfl ?_
      refine z_iload_n (q := 50) 2 dX13_drops_49 rfl rfl ?_
      refine z_icmp_ge (q := 53) (t := 58) p1 (p3 c1) dX13_drops_50 (by decide) rfl (fun c3 => ?_) (fun c3 => ?_)
      · refine z_iload (q := 60) 4 dX13_drops_58 rfl rfl ?_
        refine z_iconst (q := 61) dX13_drops_60 rfl ?_
        refine z_isub (q := 62) dX13_drops_61 rfl ?_
        exact u3 c1 c2 c3 hl0
      · refine z_iload (q := 55) 4 dX13_drops_53 rfl rfl ?_
        refine z_goto (t := 62) dX13_drops_55 (by decide) ?_
        exact u4 c1 c2 c3 hl0
theorem b_X13_drops_62 {D : zD} {d : Nat} {G : zG} {h : zH} {Q : zO → zG → zH → Prop} {s1 s2 x1 x2 x3 x4 : Int} (hd : 3 ≤ d) (p1 : 0 ≤ (72 * (h 88 3) + 6 * x3 + x4)) (p2 : (72 * (h 88 3) + 6 * x3 + x4) < 864) (p3 : 0 ≤ (72 * 10 + 6 * s1 + s2)) (p4 : (72 * 10 + 6 * s1 + s2) < 864)
    (u1 : z_Y D M_X13_drops d 33 [(0, 2, 88), (1, 0, x1), (2, 0, x2), (3, 0, x3), (4, 0, (x4 + 1))] [] G (z_wr h 91 (72 * 10 + 6 * s1 + s2) (h 91 (72 * (h 88 3) + 6 * x3 + x4))) Q) :
    z_Y D M_X13_drops d 62 [(0, 2, 88), (1, 0, x1), (2, 0, x2), (3, 0, x3), (4, 0, x4)] [(0, s2), (0, s1), (2, 88)] G h Q := by
  intro hl0
  refine z_aload_n (q := 63) 0 dX13_drops_62 rfl rfl ?_
  refine z_iload_n (q := 64) 3 dX13_drops_63 rfl rfl ?_
  refine z_iload (q := 66) 4 dX13_drops_64 rfl rfl ?_
  have e1 := a_X13_cellAt (D := D) (G := G) (h := h) (d := d - 1) (by omega) x3 x4 (h 88 3) (h 91 (72 * (h 88 3) + 6 * x3 + x4)) rfl p1 p2 rfl
  refine z_goV (q := 69) (av := [(0, x3), (0, x4)]) (rest := [(0, s2), (0, s1), (2, 88)]) cb11 (hl0.i 88 (by decide) rfl) (z_tol) hl0 (z_El.K e1 (by omega) ?_) mo_X13_cellAt np_X13_cellAt k1507 k1509 k63 rfl (nle rfl) dX13_drops_66 rfl
  have e2 := a_X13_put (D := D) (G := G) (h := h) (d := d - 1) (by omega) s1 s2 (h 91 (72 * (h 88 3) + 6 * x3 + x4)) p3 p4
  refine z_goV (q := 72) (av := [(0, s1), (0, s2), (1, (h 91 (72 * (h 88 3) + 6 * x3 + x4)))]) (rest := []) cb11 (hl0.i 88 (by decide) rfl) (z_tov) hl0 (z_Ev.K e2 (by omega) ?_) mo_X13_put np_X13_put k1341 k1343 k47 rfl (nle rfl) dX13_drops_69 rfl
  have hl1 : lay G (z_wr h 91 (72 * 10 + 6 * s1 + s2) (h 91 (72 * (h 88 3) + 6 * x3 + x4))) := e2.lay hl0
  refine z_iinc (q := 75) (L' := [(0, 2, 88), (1, 0, x1), (2, 0, x2), (3, 0, x3), (4, 0, (x4 + 1))]) 4 dX13_drops_72 rfl rfl (by decide) rfl ?_
  refine z_goto (t := 33) dX13_drops_75 (by decide) ?_
  exact u1 hl1
theorem b_X13_fills_0 {D : zD} {d : Nat} {G : zG} {h : zH} {Q : zO → zG → zH → Prop} {x1 x2 : Int}
    (u1 : z_Kv D M_X13_become d [(2, 88), (0, 10), (0, (h 88 3))] G h (fun G' h' => z_Y D M_X13_fills d 12 [(0, 2, 88), (1, 0, x1), (2, 0, x2), (3, 0, 0)] [] G' h' Q)) :
    z_Y D M_X13_fills d 0 [(0, 2, 88), (1, 0, x1), (2, 0, x2)] [] G h Q := by
  intro hl0
  refine z_iconst (q := 1) dX13_fills_0 rfl ?_
  refine z_istore_n (q := 2) (L' := [(0, 2, 88), (1, 0, x1), (2, 0, x2), (3, 0, 0)]) dX13_fills_1 rfl (by decide) rfl ?_
  refine z_aload_n (q := 3) 0 dX13_fills_2 rfl rfl ?_
  refine z_bipush (q := 5) dX13_fills_3 rfl (by decide) ?_
  refine z_aload_n (q := 6) 0 dX13_fills_5 rfl rfl ?_
  refine z_gf (q := 9) (ki := 3) (v := (0, (h 88 3))) fX13_117 rfl rfl (hl0.i 88 (by decide) rfl) dX13_fills_6 rfl ?_
  exact z_goV (q := 12) (av := [(0, 10), (0, (h 88 3))]) (rest := []) cb11 (hl0.i 88 (by decide) rfl) z_tov hl0 (u1) mo_X13_become np_X13_become k1348 k1350 k48 rfl (nle rfl) dX13_fills_9 rfl
theorem b_X13_fills_12 {D : zD} {d : Nat} {G : zG} {h : zH} {Q : zO → zG → zH → Prop} {x1 x2 x3 : Int}
    (u1 : z_Y D M_X13_fills d 15 [(0, 2, 88), (1, 0, x1), (2, 0, x2), (3, 0, x3), (4, 0, 1)] [] G h Q) :
    z_Y D M_X13_fills d 12 [(0, 2, 88), (1, 0, x1), (2, 0, x2), (3, 0, x3)] [] G h Q := by
  intro hl0
  refine z_iconst (q := 13) dX13_fills_12 rfl ?_
  refine z_istore (q := 15) (L' := [(0, 2, 88), (1, 0, x1), (2, 0, x2), (3, 0, x3), (4, 0, 1)]) dX13_fills_13 rfl (by decide) rfl ?_
  exact u1 hl0
theorem b_X13_fills_15 {D : zD} {d : Nat} {G : zG} {h : zH} {Q : zO → zG → zH → Prop} {x1 x2 x3 x4 : Int} (hd : 3 ≤ d) (p1 : z_in x4) (p2 : z_in (h 88 4)) (p3 : (h 88 4) ≤ x4 → z_in x3) (p4 : (h 88 4) ≤ x4 → ¬ (x3 = 0) → z_in x1) (p5 : ¬ ((h 88 4) ≤ x4) → 0 ≤ (72 * (h 88 3) + 6 * x4 + x2)) (p6 : ¬ ((h 88 4) ≤ x4) → (72 * (h 88 3) + 6 * x4 + x2) < 864) (p7 : ¬ ((h 88 4) ≤ x4) → z_in64 (h 91 (72 * (h 88 3) + 6 * x4 + x2))) (p8 : ¬ ((h 88 4) ≤ x4) → (h 91 (72 * (h 88 3) + 6 * x4 + x2)) = 0 → 0 ≤ (72 * 10 + 6 * (x4 - 1) + x2)) (p9 : ¬ ((h 88 4) ≤ x4) → (h 91 (72 * (h 88 3) + 6 * x4 + x2)) = 0 → (72 * 10 + 6 * (x4 - 1) + x2) < 864) (p10 : ¬ ((h 88 4) ≤ x4) → (h 91 (72 * (h 88 3) + 6 * x4 + x2)) = 0 → z_in x3) (p11 : ¬ ((h 88 4) ≤ x4) → (h 91 (72 * (h 88 3) + 6 * x4 + x2)) = 0 → ¬ (¬ x3 = 0) → z_in64 (h 91 (72 * 10 + 6 * (x4 - 1) + x2)))
    (u1 : (h 88 4) ≤ x4 → x3 = 0 → Q (.inl (some (0, 0))) G h)
    (u2 : (h 88 4) ≤ x4 → ¬ (x3 = 0) → x1 ≤ 0 → Q (.inl (some (0, 0))) G h)
    (u3 : (h 88 4) ≤ x4 → ¬ (x3 = 0) → ¬ (x1 ≤ 0) → Q (.inl (some (0, 1))) G h)
    (u4 : ¬ ((h 88 4) ≤ x4) → (h 91 (72 * (h 88 3) + 6 * x4 + x2)) = 0 → ¬ x3 = 0 → z_Y D M_X13_fills d 67 [(0, 2, 88), (1, 0, x1), (2, 0, x2), (4, 0, x4), (5, 1, (h 91 (72 * 10 + 6 * (x4 - 1) + x2)))] [] G h Q)
    (u5 : ¬ ((h 88 4) ≤ x4) → (h 91 (72 * (h 88 3) + 6 * x4 + x2)) = 0 → ¬ (¬ x3 = 0) → (h 91 (72 * 10 + 6 * (x4 - 1) + x2)) = 0 → z_Y D M_X13_fills d 72 [(0, 2, 88), (1, 0, x1), (2, 0, x2), (4, 0, x4), (5, 1, (h 91 (72 * 10 + 6 * (x4 - 1) + x2)))] [(0, 0)] G h Q)
    (u6 : ¬ ((h 88 4) ≤ x4) → (h 91 (72 * (h 88 3) + 6 * x4 + x2)) = 0 → ¬ (¬ x3 = 0) → ¬ ((h 91 (72 * 10 + 6 * (x4 - 1) + x2)) = 0) → z_Y D M_X13_fills d 67 [(0, 2, 88), (1, 0, x1), (2, 0, x2), (4, 0, x4), (5, 1, (h 91 (72 * 10 + 6 * (x4 - 1) + x2)))] [] G h Q)
    (u7 : ¬ ((h 88 4) ≤ x4) → ¬ ((h 91 (72 * (h 88 3) + 6 * x4 + x2)) = 0) → z_Y D M_X13_fills d 15 [(0, 2, 88), (1, 0, x1), (2, 0, x2), (3, 0, x3), (4, 0, (x4 + 1))] [] G h Q) :
    z_Y D M_X13_fills d 15 [(0, 2, 88), (1, 0, x1), (2, 0, x2), (3, 0, x3), (4, 0, x4)] [] G h Q := by
  intro hl0
  refine z_iload (q := 17) 4 dX13_fills_15 rfl rfl ?_
  refine z_aload_n (q := 18) 0 dX13_fills_17 rfl rfl ?_
  refine z_gf (q := 21) (ki := 4) (v := (0, (h 88 4))) fX13_126 rfl rfl (hl0.i 88 (by decide) rfl) dX13_fills_18 rfl ?_
  refine z_icmp_ge (q := 24) (t := 88) p1 p2 dX13_fills_21 (by decide) rfl (fun c1 => ?_) (fun c1 => ?_)
  · refine z_iload_n (q := 89) 3 dX13_fills_88 rfl rfl ?_
    refine z_if_eq (q := 92) (t := 100) (p3 c1) dX13_fills_89 (by decide) rfl (fun c2 => ?_) (fun c2 => ?_)
    · refine z_iconst (q := 101) dX13_fills_100 rfl ?_
      exact z_bret rfl (by decide) dX13_fills_101 ⟨hl0, u1 c1 c2⟩
    · refine z_iload_n (q := 93) 1 dX13_fills_92 rfl rfl ?_
      refine z_if_le (q := 96) (t := 100) (p4 c1 c2) dX13_fills_93 (by decide) rfl (fun c3 => ?_) (fun c3 => ?_)
      · refine z_iconst (q := 101) dX13_fills_100 rfl ?_
        exact z_bret rfl (by decide) dX13_fills_101 ⟨hl0, u2 c1 c2 c3⟩
      · refine z_iconst (q := 97) dX13_fills_96 rfl ?_
        refine z_goto (t := 101) dX13_fills_97 (by decide) ?_
        exact z_bret rfl (by decide) dX13_fills_101 ⟨hl0, u3 c1 c2 c3⟩
  · refine z_aload_n (q := 25) 0 dX13_fills_24 rfl rfl ?_
    refine z_iload (q := 27) 4 dX13_fills_25 rfl rfl ?_
    refine z_iload_n (q := 28) 2 dX13_fills_27 rfl rfl ?_
    have e1 := a_X13_cellAt (D := D) (G := G) (h := h) (d := d - 1) (by omega) x4 x2 (h 88 3) (h 91 (72 * (h 88 3) + 6 * x4 + x2)) rfl (p5 c1) (p6 c1) rfl
    refine z_goV (q := 31) (av := [(0, x4), (0, x2)]) (rest := []) cb11 (hl0.i 88 (by decide) rfl) (z_tol) hl0 (z_El.K e1 (by omega) ?_) mo_X13_cellAt np_X13_cellAt k1507 k1509 k63 rfl (nle rfl) dX13_fills_28 rfl
    refine z_lconst0 (q := 32) dX13_fills_31 rfl ?_
    refine z_lcmp_eq (q := 36) (t := 39) (p7 c1) ⟨by decide, by decide⟩ dX13_fills_32 (rfl : _ = 33) dX13_fills_33 (by decide) rfl (fun c4 => ?_) (fun c4 => ?_)
    · refine z_aload_n (q := 40) 0 dX13_fills_39 rfl rfl ?_
      refine z_gf (q := 43) (ki := 2) (v := (2, 91)) fX13_16 rfl (z_ldr rfl (hl0.ref 83 rfl)) (hl0.i 88 (by decide) rfl) dX13_fills_40 rfl ?_
      refine z_bipush (q := 45) dX13_fills_43 rfl (by decide) ?_
      refine z_iload (q := 47) 4 dX13_fills_45 rfl rfl ?_
      refine z_iconst (q := 48) dX13_fills_47 rfl ?_
      refine z_isub (q := 49) dX13_fills_48 rfl ?_
      refine z_iload_n (q := 50) 2 dX13_fills_49 rfl rfl ?_
      have e2 := a_X13_at (D := D) (G := G) (h := h) (d := d - 1) (by omega) 10 (x4 - 1) x2
      refine z_goS (q := 53) (av := [(0, 10), (0, (x4 - 1)), (0, x2)]) (rest := [(2, 91)]) (z_toi) hl0 (z_Ei.K e2 (by omega) ?_) mo_X13_at np_X13_at k1345 k1346 rfl (nle rfl) dX13_fills_50 rfl
      refine z_lale (q := 54) (v := (h 91 (72 * 10 + 6 * (x4 - 1) + x2))) (hl0.a 91 (by decide) rfl) (p8 c1 c4) (p9 c1 c4) rfl dX13_fills_53 rfl ?_
      refine z_lstore (q := 56) (L' := [(0, 2, 88), (1, 0, x1), (2, 0, x2), (3, 0, x3), (4, 0, x4), (5, 1, (h 91 (72 * 10 + 6 * (x4 - 1) + x2)))]) dX13_fills_54 rfl (by decide) rfl ?_
      refine z_iload_n (q := 57) 3 dX13_fills_56 rfl rfl ?_
      refine z_if_ne (q := 60) (t := 67) (p10 c1 c4) dX13_fills_57 (by decide) rfl (fun c5 => ?_) (fun c5 => ?_)
      · refine z_sub (L' := [(0, 2, 88), (1, 0, x1), (2, 0, x2), (4, 0, x4), (5, 1, (h 91 (72 * 10 + 6 * (x4 - 1) + x2)))]) [0, 1, 2, 4, 5] rfl ?_
        exact u4 c1 c4 c5 hl0
      · refine z_lload (q := 62) 5 dX13_fills_60 rfl rfl ?_
        refine z_lconst0 (q := 63) dX13_fills_62 rfl ?_
        refine z_lcmp_eq (q := 67) (t := 71) (p11 c1 c4 c5) ⟨by decide, by decide⟩ dX13_fills_63 (rfl : _ = 64) dX13_fills_64 (by decide) rfl (fun c6 => ?_) (fun c6 => ?_)
        · refine z_iconst (q := 72) dX13_fills_71 rfl ?_
          refine z_sub (L' := [(0, 2, 88), (1, 0, x1), (2, 0, x2), (4, 0, x4), (5, 1, (h 91 (72 * 10 + 6 * (x4 - 1) + x2)))]) [0, 1, 2, 4, 5] rfl ?_
          exact u5 c1 c4 c5 c6 hl0
        · refine z_sub (L' := [(0, 2, 88), (1, 0, x1), (2, 0, x2), (4, 0, x4), (5, 1, (h 91 (72 * 10 + 6 * (x4 - 1) + x2)))]) [0, 1, 2, 4, 5] rfl ?_
          exact u6 c1 c4 c5 c6 hl0
    · refine z_goto (t := 82) dX13_fills_36 (by decide) ?_
      refine z_iinc (q := 85) (L' := [(0, 2, 88), (1, 0, x1), (2, 0, x2), (3, 0, x3), (4, 0, (x4 + 1))]) 4 dX13_fills_82 rfl rfl (by decide) rfl ?_
      refine z_goto (t := 15) dX13_fills_85 (by decide) ?_
      exact u7 c1 c4 hl0
theorem b_X13_fills_67 {D : zD} {d : Nat} {G : zG} {h : zH} {Q : zO → zG → zH → Prop} {x1 x2 x4 x5 : Int}
    (u1 : z_Y D M_X13_fills d 72 [(0, 2, 88), (1, 0, x1), (2, 0, x2), (4, 0, x4), (5, 1, x5)] [(0, 1)] G h Q) :
    z_Y D M_X13_fills d 67 [(0, 2, 88), (1, 0, x1), (2, 0, x2), (4, 0, x4), (5, 1, x5)] [] G h Q := by
  intro hl0
  refine z_iconst (q := 68) dX13_fills_67 rfl ?_
  refine z_goto (t := 72) dX13_fills_68 (by decide) ?_
  exact u1 hl0
theorem b_X13_fills_72 {D : zD} {d : Nat} {G : zG} {h : zH} {Q : zO → zG → zH → Prop} {s0 x1 x2 x4 x5 : Int} (hd : 3 ≤ d) (p1 : 0 ≤ (72 * 10 + 6 * x4 + x2)) (p2 : (72 * 10 + 6 * x4 + x2) < 864)
    (u1 : z_Y D M_X13_fills d 15 [(0, 2, 88), (1, 0, x1), (2, 0, x2), (3, 0, s0), (4, 0, (x4 + 1))] [] G (z_wr h 91 (72 * 10 + 6 * x4 + x2) x5) Q) :
    z_Y D M_X13_fills d 72 [(0, 2, 88), (1, 0, x1), (2, 0, x2), (4, 0, x4), (5, 1, x5)] [(0, s0)] G h Q := by
  intro hl0
  refine z_istore_n (q := 73) (L' := [(0, 2, 88), (1, 0, x1), (2, 0, x2), (3, 0, s0), (4, 0, x4), (5, 1, x5)]) dX13_fills_72 rfl (by decide) rfl ?_
  refine z_aload_n (q := 74) 0 dX13_fills_73 rfl rfl ?_
  refine z_iload (q := 76) 4 dX13_fills_74 rfl rfl ?_
  refine z_iload_n (q := 77) 2 dX13_fills_76 rfl rfl ?_
  refine z_lload (q := 79) 5 dX13_fills_77 rfl rfl ?_
  have e1 := a_X13_put (D := D) (G := G) (h := h) (d := d - 1) (by omega) x4 x2 x5 p1 p2
  refine z_goV (q := 82) (av := [(0, x4), (0, x2), (1, x5)]) (rest := []) cb11 (hl0.i 88 (by decide) rfl) (z_tov) hl0 (z_Ev.K e1 (by omega) ?_) mo_X13_put np_X13_put k1341 k1343 k47 rfl (nle rfl) dX13_fills_79 rfl
  have hl1 : lay G (z_wr h 91 (72 * 10 + 6 * x4 + x2) x5) := e1.lay hl0
  refine z_iinc (q := 85) (L' := [(0, 2, 88), (1, 0, x1), (2, 0, x2), (3, 0, s0), (4, 0, (x4 + 1)), (5, 1, x5)]) 4 dX13_fills_82 rfl rfl (by decide) rfl ?_
  refine z_goto (t := 15) dX13_fills_85 (by decide) ?_
  refine z_sub (L' := [(0, 2, 88), (1, 0, x1), (2, 0, x2), (3, 0, s0), (4, 0, (x4 + 1))]) [0, 1, 2, 3, 4] rfl ?_
  exact u1 hl1
theorem b_X13_swaps_0 {D : zD} {d : Nat} {G : zG} {h : zH} {Q : zO → zG → zH → Prop} {x1 x2 : Int} (p1 : z_in (x2 + 1)) (p2 : z_in x1)
    (u1 : (x2 + 1) < x1 → z_Kv D M_X13_become d [(2, 88), (0, 10), (0, (h 88 3))] G h (fun G' h' => z_Y D M_X13_swaps d 19 [(0, 2, 88), (2, 0, x2)] [] G' h' Q))
    (u2 : ¬ ((x2 + 1) < x1) → Q (.inl (some (0, 0))) G h) :
    z_Y D M_X13_swaps d 0 [(0, 2, 88), (1, 0, x1), (2, 0, x2)] [] G h Q := by
  intro hl0
  refine z_iload_n (q := 1) 2 dX13_swaps_0 rfl rfl ?_
  refine z_iconst (q := 2) dX13_swaps_1 rfl ?_
  refine z_iadd (q := 3) dX13_swaps_2 rfl ?_
  refine z_iload_n (q := 4) 1 dX13_swaps_3 rfl rfl ?_
  refine z_icmp_lt (q := 7) (t := 9) p1 p2 dX13_swaps_4 (by decide) rfl (fun c1 => ?_) (fun c1 => ?_)
  · refine z_aload_n (q := 10) 0 dX13_swaps_9 rfl rfl ?_
    refine z_bipush (q := 12) dX13_swaps_10 rfl (by decide) ?_
    refine z_aload_n (q := 13) 0 dX13_swaps_12 rfl rfl ?_
    refine z_gf (q := 16) (ki := 3) (v := (0, (h 88 3))) fX13_117 rfl rfl (hl0.i 88 (by decide) rfl) dX13_swaps_13 rfl ?_
    refine z_sub (L' := [(0, 2, 88), (2, 0, x2)]) [0, 2] rfl ?_
    exact z_goV (q := 19) (av := [(0, 10), (0, (h 88 3))]) (rest := []) cb11 (hl0.i 88 (by decide) rfl) z_tov hl0 (u1 c1) mo_X13_become np_X13_become k1348 k1350 k48 rfl (nle rfl) dX13_swaps_16 rfl
  · refine z_iconst (q := 8) dX13_swaps_7 rfl ?_
    exact z_bret rfl (by decide) dX13_swaps_8 ⟨hl0, u2 c1⟩
theorem b_X13_swaps_19 {D : zD} {d : Nat} {G : zG} {h : zH} {Q : zO → zG → zH → Prop} {x2 : Int}
    (u1 : z_Y D M_X13_swaps d 21 [(0, 2, 88), (2, 0, x2), (3, 0, 0)] [] G h Q) :
    z_Y D M_X13_swaps d 19 [(0, 2, 88), (2, 0, x2)] [] G h Q := by
  intro hl0
  refine z_iconst (q := 20) dX13_swaps_19 rfl ?_
  refine z_istore_n (q := 21) (L' := [(0, 2, 88), (2, 0, x2), (3, 0, 0)]) dX13_swaps_20 rfl (by decide) rfl ?_
  exact u1 hl0
theorem b_X13_swaps_21 {D : zD} {d : Nat} {G : zG} {h : zH} {Q : zO → zG → zH → Prop} {x2 x3 : Int} (hd : 3 ≤ d) (p1 : z_in x3) (p2 : z_in (h 88 4)) (p3 : ¬ ((h 88 4) ≤ x3) → 0 ≤ (72 * (h 88 3) + 6 * x3 + (x2 + 1))) (p4 : ¬ ((h 88 4) ≤ x3) → (72 * (h 88 3) + 6 * x3 + (x2 + 1)) < 864) (p5 : ¬ ((h 88 4) ≤ x3) → 0 ≤ (72 * 10 + 6 * x3 + x2)) (p6 : ¬ ((h 88 4) ≤ x3) → (72 * 10 + 6 * x3 + x2) < 864) (p7 : ¬ ((h 88 4) ≤ x3) → 0 ≤ (72 * (h 88 3) + 6 * x3 + x2)) (p8 : ¬ ((h 88 4) ≤ x3) → (72 * (h 88 3) + 6 * x3 + x2) < 864) (p9 : ¬ ((h 88 4) ≤ x3) → 0 ≤ (72 * 10 + 6 * x3 + (x2 + 1))) (p10 : ¬ ((h 88 4) ≤ x3) → (72 * 10 + 6 * x3 + (x2 + 1)) < 864)
    (u1 : (h 88 4) ≤ x3 → Q (.inl (some (0, 1))) G h)
    (u2 : ¬ ((h 88 4) ≤ x3) → z_Y D M_X13_swaps d 21 [(0, 2, 88), (2, 0, x2), (3, 0, (x3 + 1))] [] G (z_wr (z_wr h 91 (72 * 10 + 6 * x3 + x2) (h 91 (72 * (h 88 3) + 6 * x3 + (x2 + 1)))) 91 (72 * 10 + 6 * x3 + (x2 + 1)) ((z_wr h 91 (72 * 10 + 6 * x3 + x2) (h 91 (72 * (h 88 3) + 6 * x3 + (x2 + 1)))) 91 (72 * (h 88 3) + 6 * x3 + x2))) Q) :
    z_Y D M_X13_swaps d 21 [(0, 2, 88), (2, 0, x2), (3, 0, x3)] [] G h Q := by
  intro hl0
  refine z_iload_n (q := 22) 2 dX13_swaps_21 rfl rfl ?_
  refine z_aload_n (q := 23) 0 dX13_swaps_22 rfl rfl ?_
  refine z_gf (q := 26) (ki := 4) (v := (0, (h 88 4))) fX13_126 rfl rfl (hl0.i 88 (by decide) rfl) dX13_swaps_23 rfl ?_
  refine z_icmp_ge (q := 29) (t := 63) p1 p2 dX13_swaps_26 (by decide) rfl (fun c1 => ?_) (fun c1 => ?_)
  · refine z_iconst (q := 64) dX13_swaps_63 rfl ?_
    exact z_bret rfl (by decide) dX13_swaps_64 ⟨hl0, u1 c1⟩
  · refine z_aload_n (q := 30) 0 dX13_swaps_29 rfl rfl ?_
    refine z_iload_n (q := 31) 2 dX13_swaps_30 rfl rfl ?_
    refine z_iload_n (q := 32) 1 dX13_swaps_31 rfl rfl ?_
    refine z_aload_n (q := 33) 0 dX13_swaps_32 rfl rfl ?_
    refine z_iload_n (q := 34) 2 dX13_swaps_33 rfl rfl ?_
    refine z_iload_n (q := 35) 1 dX13_swaps_34 rfl rfl ?_
    refine z_iconst (q := 36) dX13_swaps_35 rfl ?_
    refine z_iadd (q := 37) dX13_swaps_36 rfl ?_
    have e1 := a_X13_cellAt (D := D) (G := G) (h := h) (d := d - 1) (by omega) x3 (x2 + 1) (h 88 3) (h 91 (72 * (h 88 3) + 6 * x3 + (x2 + 1))) rfl (p3 c1) (p4 c1) rfl
    refine z_goV (q := 40) (av := [(0, x3), (0, (x2 + 1))]) (rest := [(0, x2), (0, x3), (2, 88)]) cb11 (hl0.i 88 (by decide) rfl) (z_tol) hl0 (z_El.K e1 (by omega) ?_) mo_X13_cellAt np_X13_cellAt k1507 k1509 k63 rfl (nle rfl) dX13_swaps_37 rfl
    have e2 := a_X13_put (D := D) (G := G) (h := h) (d := d - 1) (by omega) x3 x2 (h 91 (72 * (h 88 3) + 6 * x3 + (x2 + 1))) (p5 c1) (p6 c1)
    refine z_goV (q := 43) (av := [(0, x3), (0, x2), (1, (h 91 (72 * (h 88 3) + 6 * x3 + (x2 + 1))))]) (rest := []) cb11 (hl0.i 88 (by decide) rfl) (z_tov) hl0 (z_Ev.K e2 (by omega) ?_) mo_X13_put np_X13_put k1341 k1343 k47 rfl (nle rfl) dX13_swaps_40 rfl
    have hl1 : lay G (z_wr h 91 (72 * 10 + 6 * x3 + x2) (h 91 (72 * (h 88 3) + 6 * x3 + (x2 + 1)))) := e2.lay hl0
    refine z_aload_n (q := 44) 0 dX13_swaps_43 rfl rfl ?_
    refine z_iload_n (q := 45) 2 dX13_swaps_44 rfl rfl ?_
    refine z_iload_n (q := 46) 1 dX13_swaps_45 rfl rfl ?_
    refine z_iconst (q := 47) dX13_swaps_46 rfl ?_
    refine z_iadd (q := 48) dX13_swaps_47 rfl ?_
    refine z_aload_n (q := 49) 0 dX13_swaps_48 rfl rfl ?_
    refine z_iload_n (q := 50) 2 dX13_swaps_49 rfl rfl ?_
    refine z_iload_n (q := 51) 1 dX13_swaps_50 rfl rfl ?_
    have e3 := a_X13_cellAt (D := D) (G := G) (h := (z_wr h 91 (72 * 10 + 6 * x3 + x2) (h 91 (72 * (h 88 3) + 6 * x3 + (x2 + 1))))) (d := d - 1) (by omega) x3 x2 (h 88 3) ((z_wr h 91 (72 * 10 + 6 * x3 + x2) (h 91 (72 * (h 88 3) + 6 * x3 + (x2 + 1)))) 91 (72 * (h 88 3) + 6 * x3 + x2)) (w_na (by decide)) (p7 c1) (p8 c1) rfl
    refine z_goV (q := 54) (av := [(0, x3), (0, x2)]) (rest := [(0, (x2 + 1)), (0, x3), (2, 88)]) cb11 (hl1.i 88 (by decide) rfl) (z_tol) hl1 (z_El.K e3 (by omega) ?_) mo_X13_cellAt np_X13_cellAt k1507 k1509 k63 rfl (nle rfl) dX13_swaps_51 rfl
    have e4 := a_X13_put (D := D) (G := G) (h := (z_wr h 91 (72 * 10 + 6 * x3 + x2) (h 91 (72 * (h 88 3) + 6 * x3 + (x2 + 1))))) (d := d - 1) (by omega) x3 (x2 + 1) ((z_wr h 91 (72 * 10 + 6 * x3 + x2) (h 91 (72 * (h 88 3) + 6 * x3 + (x2 + 1)))) 91 (72 * (h 88 3) + 6 * x3 + x2)) (p9 c1) (p10 c1)
    refine z_goV (q := 57) (av := [(0, x3), (0, (x2 + 1)), (1, ((z_wr h 91 (72 * 10 + 6 * x3 + x2) (h 91 (72 * (h 88 3) + 6 * x3 + (x2 + 1)))) 91 (72 * (h 88 3) + 6 * x3 + x2)))]) (rest := []) cb11 (hl1.i 88 (by decide) rfl) (z_tov) hl1 (z_Ev.K e4 (by omega) ?_) mo_X13_put np_X13_put k1341 k1343 k47 rfl (nle rfl) dX13_swaps_54 rfl
    have hl2 : lay G (z_wr (z_wr h 91 (72 * 10 + 6 * x3 + x2) (h 91 (72 * (h 88 3) + 6 * x3 + (x2 + 1)))) 91 (72 * 10 + 6 * x3 + (x2 + 1)) ((z_wr h 91 (72 * 10 + 6 * x3 + x2) (h 91 (72 * (h 88 3) + 6 * x3 + (x2 + 1)))) 91 (72 * (h 88 3) + 6 * x3 + x2))) := e4.lay hl1
    refine z_iinc (q := 60) (L' := [(0, 2, 88), (2, 0, x2), (3, 0, (x3 + 1))]) 2 dX13_swaps_57 rfl rfl (by decide) rfl ?_
    refine z_goto (t := 21) dX13_swaps_60 (by decide) ?_
    exact u2 c1 hl2
theorem b_X13_rowsBy_0 {D : zD} {d : Nat} {G : zG} {h : zH} {Q : zO → zG → zH → Prop} {x1 x2 : Int}
    (u1 : z_Kv D M_X13_shape d [(2, 88), (0, 10), (0, x1), (0, x2)] G h (fun G' h' => z_Y D M_X13_rowsBy d 8 [(0, 2, 88), (1, 0, x1), (2, 0, x2)] [] G' h' Q)) :
    z_Y D M_X13_rowsBy d 0 [(0, 2, 88), (1, 0, x1), (2, 0, x2)] [] G h Q := by
  intro hl0
  refine z_aload_n (q := 1) 0 dX13_rowsBy_0 rfl rfl ?_
  refine z_bipush (q := 3) dX13_rowsBy_1 rfl (by decide) ?_
  refine z_iload_n (q := 4) 1 dX13_rowsBy_3 rfl rfl ?_
  refine z_iload_n (q := 5) 2 dX13_rowsBy_4 rfl rfl ?_
  exact z_goV (q := 8) (av := [(0, 10), (0, x1), (0, x2)]) (rest := []) cb11 (hl0.i 88 (by decide) rfl) z_tov hl0 (u1) mo_X13_shape np_X13_shape k1319 k1321 k44 rfl (nle rfl) dX13_rowsBy_5 rfl
theorem b_X13_rowsBy_8 {D : zD} {d : Nat} {G : zG} {h : zH} {Q : zO → zG → zH → Prop} {x1 x2 : Int}
    (u1 : z_Y D M_X13_rowsBy d 10 [(0, 2, 88), (1, 0, x1), (2, 0, x2), (3, 0, 0)] [] G h Q) :
    z_Y D M_X13_rowsBy d 8 [(0, 2, 88), (1, 0, x1), (2, 0, x2)] [] G h Q := by
  intro hl0
  refine z_iconst (q := 9) dX13_rowsBy_8 rfl ?_
  refine z_istore_n (q := 10) (L' := [(0, 2, 88), (1, 0, x1), (2, 0, x2), (3, 0, 0)]) dX13_rowsBy_9 rfl (by decide) rfl ?_
  exact u1 hl0
theorem b_X13_rowsBy_10 {D : zD} {d : Nat} {G : zG} {h : zH} {Q : zO → zG → zH → Prop} {x1 x2 x3 : Int} (p1 : z_in x3) (p2 : z_in x1)
    (u1 : x1 ≤ x3 → Q (.inl none) G h)
    (u2 : ¬ (x1 ≤ x3) → z_Y D M_X13_rowsBy d 18 [(0, 2, 88), (1, 0, x1), (2, 0, x2), (3, 0, x3), (4, 0, 0)] [] G h Q) :
    z_Y D M_X13_rowsBy d 10 [(0, 2, 88), (1, 0, x1), (2, 0, x2), (3, 0, x3)] [] G h Q := by
  intro hl0
  refine z_iload_n (q := 11) 3 dX13_rowsBy_10 rfl rfl ?_
  refine z_iload_n (q := 12) 1 dX13_rowsBy_11 rfl rfl ?_
  refine z_icmp_ge (q := 15) (t := 55) p1 p2 dX13_rowsBy_12 (by decide) rfl (fun c1 => ?_) (fun c1 => ?_)
  · exact z_vret rfl dX13_rowsBy_55 ⟨hl0, u1 c1⟩
  · refine z_iconst (q := 16) dX13_rowsBy_15 rfl ?_
    refine z_istore (q := 18) (L' := [(0, 2, 88), (1, 0, x1), (2, 0, x2), (3, 0, x3), (4, 0, 0)]) dX13_rowsBy_16 rfl (by decide) rfl ?_
    exact u2 c1 hl0
theorem b_X13_rowsBy_18 {D : zD} {d : Nat} {G : zG} {h : zH} {Q : zO → zG → zH → Prop} {x1 x2 x3 x4 : Int} (hd : 3 ≤ d) (p1 : z_in x4) (p2 : z_in x2) (p3 : ¬ (x2 ≤ x4) → 0 ≤ x3) (p4 : ¬ (x2 ≤ x4) → x3 < 12) (p5 : ¬ (x2 ≤ x4) → 0 ≤ (72 * (h 88 3) + 6 * (h 94 x3) + x4)) (p6 : ¬ (x2 ≤ x4) → (72 * (h 88 3) + 6 * (h 94 x3) + x4) < 864) (p7 : ¬ (x2 ≤ x4) → 0 ≤ (72 * 10 + 6 * x3 + x4)) (p8 : ¬ (x2 ≤ x4) → (72 * 10 + 6 * x3 + x4) < 864)
    (u1 : x2 ≤ x4 → z_Y D M_X13_rowsBy d 10 [(0, 2, 88), (1, 0, x1), (2, 0, x2), (3, 0, (x3 + 1))] [] G h Q)
    (u2 : ¬ (x2 ≤ x4) → z_Y D M_X13_rowsBy d 18 [(0, 2, 88), (1, 0, x1), (2, 0, x2), (3, 0, x3), (4, 0, (x4 + 1))] [] G (z_wr h 91 (72 * 10 + 6 * x3 + x4) (h 91 (72 * (h 88 3) + 6 * (h 94 x3) + x4))) Q) :
    z_Y D M_X13_rowsBy d 18 [(0, 2, 88), (1, 0, x1), (2, 0, x2), (3, 0, x3), (4, 0, x4)] [] G h Q := by
  intro hl0
  refine z_iload (q := 20) 4 dX13_rowsBy_18 rfl rfl ?_
  refine z_iload_n (q := 21) 2 dX13_rowsBy_20 rfl rfl ?_
  refine z_icmp_ge (q := 24) (t := 49) p1 p2 dX13_rowsBy_21 (by decide) rfl (fun c1 => ?_) (fun c1 => ?_)
  · refine z_iinc (q := 52) (L' := [(0, 2, 88), (1, 0, x1), (2, 0, x2), (3, 0, (x3 + 1)), (4, 0, x4)]) 3 dX13_rowsBy_49 rfl rfl (by decide) rfl ?_
    refine z_goto (t := 10) dX13_rowsBy_52 (by decide) ?_
    refine z_sub (L' := [(0, 2, 88), (1, 0, x1), (2, 0, x2), (3, 0, (x3 + 1))]) [0, 1, 2, 3] rfl ?_
    exact u1 c1 hl0
  · refine z_aload_n (q := 25) 0 dX13_rowsBy_24 rfl rfl ?_
    refine z_iload_n (q := 26) 3 dX13_rowsBy_25 rfl rfl ?_
    refine z_iload (q := 28) 4 dX13_rowsBy_26 rfl rfl ?_
    refine z_aload_n (q := 29) 0 dX13_rowsBy_28 rfl rfl ?_
    refine z_aload_n (q := 30) 0 dX13_rowsBy_29 rfl rfl ?_
    refine z_gf (q := 33) (ki := 7) (v := (2, 94)) fX13_26 rfl (z_ldr rfl (hl0.ref 86 rfl)) (hl0.i 88 (by decide) rfl) dX13_rowsBy_30 rfl ?_
    refine z_iload_n (q := 34) 3 dX13_rowsBy_33 rfl rfl ?_
    refine z_iale (q := 35) (v := (h 94 x3)) (hl0.a 94 (by decide) rfl) (p3 c1) (p4 c1) rfl dX13_rowsBy_34 rfl ?_
    refine z_iload (q := 37) 4 dX13_rowsBy_35 rfl rfl ?_
    have e1 := a_X13_cellAt (D := D) (G := G) (h := h) (d := d - 1) (by omega) (h 94 x3) x4 (h 88 3) (h 91 (72 * (h 88 3) + 6 * (h 94 x3) + x4)) rfl (p5 c1) (p6 c1) rfl
    refine z_goV (q := 40) (av := [(0, (h 94 x3)), (0, x4)]) (rest := [(0, x4), (0, x3), (2, 88)]) cb11 (hl0.i 88 (by decide) rfl) (z_tol) hl0 (z_El.K e1 (by omega) ?_) mo_X13_cellAt np_X13_cellAt k1507 k1509 k63 rfl (nle rfl) dX13_rowsBy_37 rfl
    have e2 := a_X13_put (D := D) (G := G) (h := h) (d := d - 1) (by omega) x3 x4 (h 91 (72 * (h 88 3) + 6 * (h 94 x3) + x4)) (p7 c1) (p8 c1)
    refine z_goV (q := 43) (av := [(0, x3), (0, x4), (1, (h 91 (72 * (h 88 3) + 6 * (h 94 x3) + x4)))]) (rest := []) cb11 (hl0.i 88 (by decide) rfl) (z_tov) hl0 (z_Ev.K e2 (by omega) ?_) mo_X13_put np_X13_put k1341 k1343 k47 rfl (nle rfl) dX13_rowsBy_40 rfl
    have hl1 : lay G (z_wr h 91 (72 * 10 + 6 * x3 + x4) (h 91 (72 * (h 88 3) + 6 * (h 94 x3) + x4))) := e2.lay hl0
    refine z_iinc (q := 46) (L' := [(0, 2, 88), (1, 0, x1), (2, 0, x2), (3, 0, x3), (4, 0, (x4 + 1))]) 4 dX13_rowsBy_43 rfl rfl (by decide) rfl ?_
    refine z_goto (t := 18) dX13_rowsBy_46 (by decide) ?_
    exact u2 c1 hl1
theorem b_X13_loses_0 {D : zD} {d : Nat} {G : zG} {h : zH} {Q : zO → zG → zH → Prop} {x1 : Int} (p1 : z_in (h 88 4))
    (u1 : 2 ≤ (h 88 4) → z_Y D M_X13_loses d 12 [(0, 2, 88), (1, 0, x1), (2, 0, 0)] [] G h Q)
    (u2 : ¬ (2 ≤ (h 88 4)) → Q (.inl (some (0, 0))) G h) :
    z_Y D M_X13_loses d 0 [(0, 2, 88), (1, 0, x1)] [] G h Q := by
  intro hl0
  refine z_aload_n (q := 1) 0 dX13_loses_0 rfl rfl ?_
  refine z_gf (q := 4) (ki := 4) (v := (0, (h 88 4))) fX13_126 rfl rfl (hl0.i 88 (by decide) rfl) dX13_loses_1 rfl ?_
  refine z_iconst (q := 5) dX13_loses_4 rfl ?_
  refine z_icmp_ge (q := 8) (t := 10) p1 ⟨by decide, by decide⟩ dX13_loses_5 (by decide) rfl (fun c1 => ?_) (fun c1 => ?_)
  · refine z_iconst (q := 11) dX13_loses_10 rfl ?_
    refine z_istore_n (q := 12) (L' := [(0, 2, 88), (1, 0, x1), (2, 0, 0)]) dX13_loses_11 rfl (by decide) rfl ?_
    exact u1 c1 hl0
  · refine z_iconst (q := 9) dX13_loses_8 rfl ?_
    exact z_bret rfl (by decide) dX13_loses_9 ⟨hl0, u2 c1⟩
theorem b_X13_loses_12 {D : zD} {d : Nat} {G : zG} {h : zH} {Q : zO → zG → zH → Prop} {x1 x2 : Int} (p1 : z_in x2) (p2 : z_in ((h 88 4) - 1)) (p3 : ¬ (((h 88 4) - 1) ≤ x2) → 0 ≤ x2) (p4 : ¬ (((h 88 4) - 1) ≤ x2) → x2 < 12)
    (u1 : ((h 88 4) - 1) ≤ x2 → z_Kv D M_X13_rowsBy d [(2, 88), (0, ((h 88 4) - 1)), (0, x1)] G h (fun G' h' => z_Y D M_X13_loses d 48 [] [] G' h' Q))
    (u2 : ¬ (((h 88 4) - 1) ≤ x2) → z_Y D M_X13_loses d 12 [(0, 2, 88), (1, 0, x1), (2, 0, (x2 + 1))] [] G (z_wr h 94 x2 (x2 + 1)) Q) :
    z_Y D M_X13_loses d 12 [(0, 2, 88), (1, 0, x1), (2, 0, x2)] [] G h Q := by
  intro hl0
  refine z_iload_n (q := 13) 2 dX13_loses_12 rfl rfl ?_
  refine z_aload_n (q := 14) 0 dX13_loses_13 rfl rfl ?_
  refine z_gf (q := 17) (ki := 4) (v := (0, (h 88 4))) fX13_126 rfl rfl (hl0.i 88 (by decide) rfl) dX13_loses_14 rfl ?_
  refine z_iconst (q := 18) dX13_loses_17 rfl ?_
  refine z_isub (q := 19) dX13_loses_18 rfl ?_
  refine z_icmp_ge (q := 22) (t := 37) p1 p2 dX13_loses_19 (by decide) rfl (fun c1 => ?_) (fun c1 => ?_)
  · refine z_aload_n (q := 38) 0 dX13_loses_37 rfl rfl ?_
    refine z_aload_n (q := 39) 0 dX13_loses_38 rfl rfl ?_
    refine z_gf (q := 42) (ki := 4) (v := (0, (h 88 4))) fX13_126 rfl rfl (hl0.i 88 (by decide) rfl) dX13_loses_39 rfl ?_
    refine z_iconst (q := 43) dX13_loses_42 rfl ?_
    refine z_isub (q := 44) dX13_loses_43 rfl ?_
    refine z_iload_n (q := 45) 1 dX13_loses_44 rfl rfl ?_
    refine z_sub (L' := []) [] rfl ?_
    exact z_goV (q := 48) (av := [(0, ((h 88 4) - 1)), (0, x1)]) (rest := []) cb11 (hl0.i 88 (by decide) rfl) z_tov hl0 (u1 c1) mo_X13_rowsBy np_X13_rowsBy k1560 k1562 k74 rfl (nle rfl) dX13_loses_45 rfl
  · refine z_aload_n (q := 23) 0 dX13_loses_22 rfl rfl ?_
    refine z_gf (q := 26) (ki := 7) (v := (2, 94)) fX13_26 rfl (z_ldr rfl (hl0.ref 86 rfl)) (hl0.i 88 (by decide) rfl) dX13_loses_23 rfl ?_
    refine z_iload_n (q := 27) 2 dX13_loses_26 rfl rfl ?_
    refine z_iload_n (q := 28) 2 dX13_loses_27 rfl rfl ?_
    refine z_iconst (q := 29) dX13_loses_28 rfl ?_
    refine z_iadd (q := 30) dX13_loses_29 rfl ?_
    refine z_isn (q := 31) (hl0.i 94 (by decide) rfl) (hl0.n 94 (by decide) rfl) (p3 c1) (p4 c1) dX13_loses_30 rfl ?_
    have hl1 := hl0.wr (v := (x2 + 1)) (hl0.i 94 (by decide) rfl) (i := x2) rfl
    refine z_iinc (q := 34) (L' := [(0, 2, 88), (1, 0, x1), (2, 0, (x2 + 1))]) 2 dX13_loses_31 rfl rfl (by decide) rfl ?_
    refine z_goto (t := 12) dX13_loses_34 (by decide) ?_
    exact u2 c1 hl1
theorem b_X13_loses_48 {D : zD} {d : Nat} {G : zG} {h : zH} {Q : zO → zG → zH → Prop}
    (u1 : Q (.inl (some (0, 1))) G h) :
    z_Y D M_X13_loses d 48 [] [] G h Q := by
  intro hl0
  refine z_iconst (q := 49) dX13_loses_48 rfl ?_
  exact z_bret rfl (by decide) dX13_loses_49 ⟨hl0, u1⟩
theorem b_X13_keeps_0 {D : zD} {d : Nat} {G : zG} {h : zH} {Q : zO → zG → zH → Prop} {x1 x2 : Int}
    (u1 : z_Y D M_X13_keeps d 5 [(0, 2, 88), (1, 0, x1), (2, 0, x2), (3, 0, 0), (4, 0, 0)] [] G h Q) :
    z_Y D M_X13_keeps d 0 [(0, 2, 88), (1, 0, x1), (2, 0, x2)] [] G h Q := by
  intro hl0
  refine z_iconst (q := 1) dX13_keeps_0 rfl ?_
  refine z_istore_n (q := 2) (L' := [(0, 2, 88), (1, 0, x1), (2, 0, x2), (3, 0, 0)]) dX13_keeps_1 rfl (by decide) rfl ?_
  refine z_iconst (q := 3) dX13_keeps_2 rfl ?_
  refine z_istore (q := 5) (L' := [(0, 2, 88), (1, 0, x1), (2, 0, x2), (3, 0, 0), (4, 0, 0)]) dX13_keeps_3 rfl (by decide) rfl ?_
  exact u1 hl0
theorem b_X13_keeps_5 {D : zD} {d : Nat} {G : zG} {h : zH} {Q : zO → zG → zH → Prop} {x1 x2 x3 x4 : Int} (hd : 3 ≤ d) (p1 : z_in x4) (p2 : z_in (h 88 4)) (p3 : (h 88 4) ≤ x4 → z_in x3) (p4 : ¬ ((h 88 4) ≤ x4) → 0 ≤ (72 * (h 88 3) + 6 * x4 + x2)) (p5 : ¬ ((h 88 4) ≤ x4) → (72 * (h 88 3) + 6 * x4 + x2) < 864) (p6 : ¬ ((h 88 4) ≤ x4) → z_in64 (h 91 (72 * (h 88 3) + 6 * x4 + x2))) (p7 : ¬ ((h 88 4) ≤ x4) → ¬ (h 91 (72 * (h 88 3) + 6 * x4 + x2)) = 0 → 0 ≤ x3) (p8 : ¬ ((h 88 4) ≤ x4) → ¬ (h 91 (72 * (h 88 3) + 6 * x4 + x2)) = 0 → x3 < 12)
    (u1 : (h 88 4) ≤ x4 → x3 = 0 → Q (.inl (some (0, 0))) G h)
    (u2 : (h 88 4) ≤ x4 → ¬ (x3 = 0) → ¬ x3 = (h 88 4) → z_Kv D M_X13_rowsBy d [(2, 88), (0, x3), (0, x1)] G h (fun G' h' => z_Y D M_X13_keeps d 66 [] [] G' h' Q))
    (u3 : (h 88 4) ≤ x4 → ¬ (x3 = 0) → ¬ (¬ x3 = (h 88 4)) → Q (.inl (some (0, 0))) G h)
    (u4 : ¬ ((h 88 4) ≤ x4) → ¬ (h 91 (72 * (h 88 3) + 6 * x4 + x2)) = 0 → z_Y D M_X13_keeps d 5 [(0, 2, 88), (1, 0, x1), (2, 0, x2), (3, 0, (x3 + 1)), (4, 0, (x4 + 1))] [] G (z_wr h 94 x3 x4) Q)
    (u5 : ¬ ((h 88 4) ≤ x4) → ¬ (¬ (h 91 (72 * (h 88 3) + 6 * x4 + x2)) = 0) → z_Y D M_X13_keeps d 5 [(0, 2, 88), (1, 0, x1), (2, 0, x2), (3, 0, x3), (4, 0, (x4 + 1))] [] G h Q) :
    z_Y D M_X13_keeps d 5 [(0, 2, 88), (1, 0, x1), (2, 0, x2), (3, 0, x3), (4, 0, x4)] [] G h Q := by
  intro hl0
  refine z_iload (q := 7) 4 dX13_keeps_5 rfl rfl ?_
  refine z_aload_n (q := 8) 0 dX13_keeps_7 rfl rfl ?_
  refine z_gf (q := 11) (ki := 4) (v := (0, (h 88 4))) fX13_126 rfl rfl (hl0.i 88 (by decide) rfl) dX13_keeps_8 rfl ?_
  refine z_icmp_ge (q := 14) (t := 46) p1 p2 dX13_keeps_11 (by decide) rfl (fun c1 => ?_) (fun c1 => ?_)
  · refine z_iload_n (q := 47) 3 dX13_keeps_46 rfl rfl ?_
    refine z_if_eq (q := 50) (t := 58) (p3 c1) dX13_keeps_47 (by decide) rfl (fun c2 => ?_) (fun c2 => ?_)
    · refine z_iconst (q := 59) dX13_keeps_58 rfl ?_
      exact z_bret rfl (by decide) dX13_keeps_59 ⟨hl0, u1 c1 c2⟩
    · refine z_iload_n (q := 51) 3 dX13_keeps_50 rfl rfl ?_
      refine z_aload_n (q := 52) 0 dX13_keeps_51 rfl rfl ?_
      refine z_gf (q := 55) (ki := 4) (v := (0, (h 88 4))) fX13_126 rfl rfl (hl0.i 88 (by decide) rfl) dX13_keeps_52 rfl ?_
      refine z_icmp_ne (q := 58) (t := 60) (p3 c1) p2 dX13_keeps_55 (by decide) rfl (fun c3 => ?_) (fun c3 => ?_)
      · refine z_aload_n (q := 61) 0 dX13_keeps_60 rfl rfl ?_
        refine z_iload_n (q := 62) 3 dX13_keeps_61 rfl rfl ?_
        refine z_iload_n (q := 63) 1 dX13_keeps_62 rfl rfl ?_
        refine z_sub (L' := []) [] rfl ?_
        exact z_goV (q := 66) (av := [(0, x3), (0, x1)]) (rest := []) cb11 (hl0.i 88 (by decide) rfl) z_tov hl0 (u2 c1 c2 c3) mo_X13_rowsBy np_X13_rowsBy k1560 k1562 k74 rfl (nle rfl) dX13_keeps_63 rfl
      · refine z_iconst (q := 59) dX13_keeps_58 rfl ?_
        exact z_bret rfl (by decide) dX13_keeps_59 ⟨hl0, u3 c1 c2 c3⟩
  · refine z_aload_n (q := 15) 0 dX13_keeps_14 rfl rfl ?_
    refine z_iload (q := 17) 4 dX13_keeps_15 rfl rfl ?_
    refine z_iload_n (q := 18) 2 dX13_keeps_17 rfl rfl ?_
    have e1 := a_X13_cellAt (D := D) (G := G) (h := h) (d := d - 1) (by omega) x4 x2 (h 88 3) (h 91 (72 * (h 88 3) + 6 * x4 + x2)) rfl (p4 c1) (p5 c1) rfl
    refine z_goV (q := 21) (av := [(0, x4), (0, x2)]) (rest := []) cb11 (hl0.i 88 (by decide) rfl) (z_tol) hl0 (z_El.K e1 (by omega) ?_) mo_X13_cellAt np_X13_cellAt k1507 k1509 k63 rfl (nle rfl) dX13_keeps_18 rfl
    refine z_lconst0 (q := 22) dX13_keeps_21 rfl ?_
    refine z_lcmp_ne (q := 26) (t := 29) (p6 c1) ⟨by decide, by decide⟩ dX13_keeps_22 (rfl : _ = 23) dX13_keeps_23 (by decide) rfl (fun c4 => ?_) (fun c4 => ?_)
    · refine z_aload_n (q := 30) 0 dX13_keeps_29 rfl rfl ?_
      refine z_gf (q := 33) (ki := 7) (v := (2, 94)) fX13_26 rfl (z_ldr rfl (hl0.ref 86 rfl)) (hl0.i 88 (by decide) rfl) dX13_keeps_30 rfl ?_
      refine z_iload_n (q := 34) 3 dX13_keeps_33 rfl rfl ?_
      refine z_iload (q := 36) 4 dX13_keeps_34 rfl rfl ?_
      refine z_isn (q := 37) (hl0.i 94 (by decide) rfl) (hl0.n 94 (by decide) rfl) (p7 c1 c4) (p8 c1 c4) dX13_keeps_36 rfl ?_
      have hl1 := hl0.wr (v := x4) (hl0.i 94 (by decide) rfl) (i := x3) rfl
      refine z_iinc (q := 40) (L' := [(0, 2, 88), (1, 0, x1), (2, 0, x2), (3, 0, (x3 + 1)), (4, 0, x4)]) 3 dX13_keeps_37 rfl rfl (by decide) rfl ?_
      refine z_iinc (q := 43) (L' := [(0, 2, 88), (1, 0, x1), (2, 0, x2), (3, 0, (x3 + 1)), (4, 0, (x4 + 1))]) 4 dX13_keeps_40 rfl rfl (by decide) rfl ?_
      refine z_goto (t := 5) dX13_keeps_43 (by decide) ?_
      exact u4 c1 c4 hl1
    · refine z_goto (t := 40) dX13_keeps_26 (by decide) ?_
      refine z_iinc (q := 43) (L' := [(0, 2, 88), (1, 0, x1), (2, 0, x2), (3, 0, x3), (4, 0, (x4 + 1))]) 4 dX13_keeps_40 rfl rfl (by decide) rfl ?_
      refine z_goto (t := 5) dX13_keeps_43 (by decide) ?_
      exact u5 c1 c4 hl0
theorem b_X13_keeps_66 {D : zD} {d : Nat} {G : zG} {h : zH} {Q : zO → zG → zH → Prop}
    (u1 : Q (.inl (some (0, 1))) G h) :
    z_Y D M_X13_keeps d 66 [] [] G h Q := by
  intro hl0
  refine z_iconst (q := 67) dX13_keeps_66 rfl ?_
  exact z_bret rfl (by decide) dX13_keeps_67 ⟨hl0, u1⟩
theorem b_X13_areLike_0 {D : zD} {d : Nat} {G : zG} {h : zH} {Q : zO → zG → zH → Prop} {x1 x2 x3 : Int}
    (u1 : z_Y D M_X13_areLike d 6 [(0, 2, 88), (1, 0, x1), (2, 0, x2), (3, 0, x3), (4, 0, 1), (5, 0, 0)] [] G h Q) :
    z_Y D M_X13_areLike d 0 [(0, 2, 88), (1, 0, x1), (2, 0, x2), (3, 0, x3)] [] G h Q := by
  intro hl0
  refine z_iconst (q := 1) dX13_areLike_0 rfl ?_
  refine z_istore (q := 3) (L' := [(0, 2, 88), (1, 0, x1), (2, 0, x2), (3, 0, x3), (4, 0, 1)]) dX13_areLike_1 rfl (by decide) rfl ?_
  refine z_iconst (q := 4) dX13_areLike_3 rfl ?_
  refine z_istore (q := 6) (L' := [(0, 2, 88), (1, 0, x1), (2, 0, x2), (3, 0, x3), (4, 0, 1), (5, 0, 0)]) dX13_areLike_4 rfl (by decide) rfl ?_
  exact u1 hl0
theorem b_X13_areLike_6 {D : zD} {d : Nat} {G : zG} {h : zH} {Q : zO → zG → zH → Prop} {x1 x2 x3 x4 x5 : Int} (hd : 3 ≤ d) (p1 : z_in x5) (p2 : z_in x3) (p3 : x3 ≤ x5 → x4 = 0 ∨ x4 = 1) (p4 : ¬ (x3 ≤ x5) → z_in x4) (p5 : ¬ (x3 ≤ x5) → ¬ (x4 = 0) → 0 ≤ (72 * (h 88 3) + 6 * x1 + x5)) (p6 : ¬ (x3 ≤ x5) → ¬ (x4 = 0) → (72 * (h 88 3) + 6 * x1 + x5) < 864) (p7 : ¬ (x3 ≤ x5) → ¬ (x4 = 0) → 0 ≤ (72 * (h 88 3) + 6 * x2 + x5)) (p8 : ¬ (x3 ≤ x5) → ¬ (x4 = 0) → (72 * (h 88 3) + 6 * x2 + x5) < 864) (p9 : ¬ (x3 ≤ x5) → ¬ (x4 = 0) → z_in64 (h 91 (72 * (h 88 3) + 6 * x1 + x5))) (p10 : ¬ (x3 ≤ x5) → ¬ (x4 = 0) → z_in64 (h 91 (72 * (h 88 3) + 6 * x2 + x5)))
    (u1 : x3 ≤ x5 → Q (.inl (some (0, x4))) G h)
    (u2 : ¬ (x3 ≤ x5) → x4 = 0 → z_Y D M_X13_areLike d 39 [(0, 2, 88), (1, 0, x1), (2, 0, x2), (3, 0, x3), (5, 0, x5)] [] G h Q)
    (u3 : ¬ (x3 ≤ x5) → ¬ (x4 = 0) → ¬ (h 91 (72 * (h 88 3) + 6 * x1 + x5)) = (h 91 (72 * (h 88 3) + 6 * x2 + x5)) → z_Y D M_X13_areLike d 39 [(0, 2, 88), (1, 0, x1), (2, 0, x2), (3, 0, x3), (5, 0, x5)] [] G h Q)
    (u4 : ¬ (x3 ≤ x5) → ¬ (x4 = 0) → ¬ (¬ (h 91 (72 * (h 88 3) + 6 * x1 + x5)) = (h 91 (72 * (h 88 3) + 6 * x2 + x5))) → z_Y D M_X13_areLike d 40 [(0, 2, 88), (1, 0, x1), (2, 0, x2), (3, 0, x3), (5, 0, x5)] [(0, 1)] G h Q) :
    z_Y D M_X13_areLike d 6 [(0, 2, 88), (1, 0, x1), (2, 0, x2), (3, 0, x3), (4, 0, x4), (5, 0, x5)] [] G h Q := by
  intro hl0
  refine z_iload (q := 8) 5 dX13_areLike_6 rfl rfl ?_
  refine z_iload_n (q := 9) 3 dX13_areLike_8 rfl rfl ?_
  refine z_icmp_ge (q := 12) (t := 48) p1 p2 dX13_areLike_9 (by decide) rfl (fun c1 => ?_) (fun c1 => ?_)
  · refine z_iload (q := 50) 4 dX13_areLike_48 rfl rfl ?_
    exact z_bret rfl (p3 c1) dX13_areLike_50 ⟨hl0, u1 c1⟩
  · refine z_iload (q := 14) 4 dX13_areLike_12 rfl rfl ?_
    refine z_if_eq (q := 17) (t := 39) (p4 c1) dX13_areLike_14 (by decide) rfl (fun c2 => ?_) (fun c2 => ?_)
    · refine z_sub (L' := [(0, 2, 88), (1, 0, x1), (2, 0, x2), (3, 0, x3), (5, 0, x5)]) [0, 1, 2, 3, 5] rfl ?_
      exact u2 c1 c2 hl0
    · refine z_aload_n (q := 18) 0 dX13_areLike_17 rfl rfl ?_
      refine z_iload_n (q := 19) 1 dX13_areLike_18 rfl rfl ?_
      refine z_iload (q := 21) 5 dX13_areLike_19 rfl rfl ?_
      have e1 := a_X13_cellAt (D := D) (G := G) (h := h) (d := d - 1) (by omega) x1 x5 (h 88 3) (h 91 (72 * (h 88 3) + 6 * x1 + x5)) rfl (p5 c1 c2) (p6 c1 c2) rfl
      refine z_goV (q := 24) (av := [(0, x1), (0, x5)]) (rest := []) cb11 (hl0.i 88 (by decide) rfl) (z_tol) hl0 (z_El.K e1 (by omega) ?_) mo_X13_cellAt np_X13_cellAt k1507 k1509 k63 rfl (nle rfl) dX13_areLike_21 rfl
      refine z_aload_n (q := 25) 0 dX13_areLike_24 rfl rfl ?_
      refine z_iload_n (q := 26) 2 dX13_areLike_25 rfl rfl ?_
      refine z_iload (q := 28) 5 dX13_areLike_26 rfl rfl ?_
      have e2 := a_X13_cellAt (D := D) (G := G) (h := h) (d := d - 1) (by omega) x2 x5 (h 88 3) (h 91 (72 * (h 88 3) + 6 * x2 + x5)) rfl (p7 c1 c2) (p8 c1 c2) rfl
      refine z_goV (q := 31) (av := [(0, x2), (0, x5)]) (rest := [(1, (h 91 (72 * (h 88 3) + 6 * x1 + x5)))]) cb11 (hl0.i 88 (by decide) rfl) (z_tol) hl0 (z_El.K e2 (by omega) ?_) mo_X13_cellAt np_X13_cellAt k1507 k1509 k63 rfl (nle rfl) dX13_areLike_28 rfl
      refine z_lcmp_ne (q := 35) (t := 39) (p9 c1 c2) (p10 c1 c2) dX13_areLike_31 (rfl : _ = 32) dX13_areLike_32 (by decide) rfl (fun c3 => ?_) (fun c3 => ?_)
      · refine z_sub (L' := [(0, 2, 88), (1, 0, x1), (2, 0, x2), (3, 0, x3), (5, 0, x5)]) [0, 1, 2, 3, 5] rfl ?_
        exact u3 c1 c2 c3 hl0
      · refine z_iconst (q := 36) dX13_areLike_35 rfl ?_
        refine z_goto (t := 40) dX13_areLike_36 (by decide) ?_
        refine z_sub (L' := [(0, 2, 88), (1, 0, x1), (2, 0, x2), (3, 0, x3), (5, 0, x5)]) [0, 1, 2, 3, 5] rfl ?_
        exact u4 c1 c2 c3 hl0
theorem b_X13_areLike_39 {D : zD} {d : Nat} {G : zG} {h : zH} {Q : zO → zG → zH → Prop} {x1 x2 x3 x5 : Int}
    (u1 : z_Y D M_X13_areLike d 40 [(0, 2, 88), (1, 0, x1), (2, 0, x2), (3, 0, x3), (5, 0, x5)] [(0, 0)] G h Q) :
    z_Y D M_X13_areLike d 39 [(0, 2, 88), (1, 0, x1), (2, 0, x2), (3, 0, x3), (5, 0, x5)] [] G h Q := by
  intro hl0
  refine z_iconst (q := 40) dX13_areLike_39 rfl ?_
  exact u1 hl0
theorem b_X13_areLike_40 {D : zD} {d : Nat} {G : zG} {h : zH} {Q : zO → zG → zH → Prop} {s0 x1 x2 x3 x5 : Int}
    (u1 : z_Y D M_X13_areLike d 6 [(0, 2, 88), (1, 0, x1), (2, 0, x2), (3, 0, x3), (4, 0, s0), (5, 0, (x5 + 1))] [] G h Q) :
    z_Y D M_X13_areLike d 40 [(0, 2, 88), (1, 0, x1), (2, 0, x2), (3, 0, x3), (5, 0, x5)] [(0, s0)] G h Q := by
  intro hl0
  refine z_istore (q := 42) (L' := [(0, 2, 88), (1, 0, x1), (2, 0, x2), (3, 0, x3), (4, 0, s0), (5, 0, x5)]) dX13_areLike_40 rfl (by decide) rfl ?_
  refine z_iinc (q := 45) (L' := [(0, 2, 88), (1, 0, x1), (2, 0, x2), (3, 0, x3), (4, 0, s0), (5, 0, (x5 + 1))]) 5 dX13_areLike_42 rfl rfl (by decide) rfl ?_
  refine z_goto (t := 6) dX13_areLike_45 (by decide) ?_
  exact u1 hl0
theorem b_X13_firstLike_0 {D : zD} {d : Nat} {G : zG} {h : zH} {Q : zO → zG → zH → Prop} {x1 x2 : Int}
    (u1 : z_Y D M_X13_firstLike d 2 [(0, 2, 88), (1, 0, x1), (2, 0, x2), (3, 0, 0)] [] G h Q) :
    z_Y D M_X13_firstLike d 0 [(0, 2, 88), (1, 0, x1), (2, 0, x2)] [] G h Q := by
  intro hl0
  refine z_iconst (q := 1) dX13_firstLike_0 rfl ?_
  refine z_istore_n (q := 2) (L' := [(0, 2, 88), (1, 0, x1), (2, 0, x2), (3, 0, 0)]) dX13_firstLike_1 rfl (by decide) rfl ?_
  exact u1 hl0
theorem b_X13_firstLike_2 {D : zD} {d : Nat} {G : zG} {h : zH} {Q : zO → zG → zH → Prop} {x1 x2 x3 : Int}
    (u1 : z_Ki D M_X13_areLike d [(2, 88), (0, x3), (0, x1), (0, x2)] G h (fun r G' h' => z_Y D M_X13_firstLike d 9 [(0, 2, 88), (1, 0, x1), (2, 0, x2), (3, 0, x3)] [(0, r)] G' h' Q)) :
    z_Y D M_X13_firstLike d 2 [(0, 2, 88), (1, 0, x1), (2, 0, x2), (3, 0, x3)] [] G h Q := by
  intro hl0
  refine z_aload_n (q := 3) 0 dX13_firstLike_2 rfl rfl ?_
  refine z_iload_n (q := 4) 3 dX13_firstLike_3 rfl rfl ?_
  refine z_iload_n (q := 5) 1 dX13_firstLike_4 rfl rfl ?_
  refine z_iload_n (q := 6) 2 dX13_firstLike_5 rfl rfl ?_
  exact z_goV (q := 9) (av := [(0, x3), (0, x1), (0, x2)]) (rest := []) cb11 (hl0.i 88 (by decide) rfl) z_toi hl0 (u1) mo_X13_areLike np_X13_areLike k1545 k1547 k71 rfl (nle rfl) dX13_firstLike_6 rfl
theorem b_X13_firstLike_9 {D : zD} {d : Nat} {G : zG} {h : zH} {Q : zO → zG → zH → Prop} {s0 x1 x2 x3 : Int} (p1 : z_in s0)
    (u1 : ¬ s0 = 0 → Q (.inl (some (0, x3))) G h)
    (u2 : ¬ (¬ s0 = 0) → z_Y D M_X13_firstLike d 2 [(0, 2, 88), (1, 0, x1), (2, 0, x2), (3, 0, (x3 + 1))] [] G h Q) :
    z_Y D M_X13_firstLike d 9 [(0, 2, 88), (1, 0, x1), (2, 0, x2), (3, 0, x3)] [(0, s0)] G h Q := by
  intro hl0
  refine z_if_ne (q := 12) (t := 18) p1 dX13_firstLike_9 (by decide) rfl (fun c1 => ?_) (fun c1 => ?_)
  · refine z_iload_n (q := 19) 3 dX13_firstLike_18 rfl rfl ?_
    exact z_iret rfl dX13_firstLike_19 ⟨hl0, u1 c1⟩
  · refine z_iinc (q := 15) (L' := [(0, 2, 88), (1, 0, x1), (2, 0, x2), (3, 0, (x3 + 1))]) 3 dX13_firstLike_12 rfl rfl (by decide) rfl ?_
    refine z_goto (t := 2) dX13_firstLike_15 (by decide) ?_
    exact u2 c1 hl0
theorem b_X13_firstName_0 {D : zD} {d : Nat} {G : zG} {h : zH} {Q : zO → zG → zH → Prop} {x1 x2 : Int}
    (u1 : z_Y D M_X13_firstName d 2 [(0, 2, 88), (1, 0, x1), (2, 0, x2), (3, 0, 0)] [] G h Q) :
    z_Y D M_X13_firstName d 0 [(0, 2, 88), (1, 0, x1), (2, 0, x2)] [] G h Q := by
  intro hl0
  refine z_iconst (q := 1) dX13_firstName_0 rfl ?_
  refine z_istore_n (q := 2) (L' := [(0, 2, 88), (1, 0, x1), (2, 0, x2), (3, 0, 0)]) dX13_firstName_1 rfl (by decide) rfl ?_
  exact u1 hl0
theorem b_X13_firstName_2 {D : zD} {d : Nat} {G : zG} {h : zH} {Q : zO → zG → zH → Prop} {x1 x2 x3 : Int} (hd : 3 ≤ d) (p1 : 0 ≤ (72 * (h 88 3) + 6 * x3 + x2)) (p2 : (72 * (h 88 3) + 6 * x3 + x2) < 864) (p3 : 0 ≤ (72 * (h 88 3) + 6 * x1 + x2)) (p4 : (72 * (h 88 3) + 6 * x1 + x2) < 864) (p5 : z_in64 (h 91 (72 * (h 88 3) + 6 * x3 + x2))) (p6 : z_in64 (h 91 (72 * (h 88 3) + 6 * x1 + x2)))
    (u1 : (h 91 (72 * (h 88 3) + 6 * x3 + x2)) = (h 91 (72 * (h 88 3) + 6 * x1 + x2)) → Q (.inl (some (0, x3))) G h)
    (u2 : ¬ ((h 91 (72 * (h 88 3) + 6 * x3 + x2)) = (h 91 (72 * (h 88 3) + 6 * x1 + x2))) → z_Y D M_X13_firstName d 2 [(0, 2, 88), (1, 0, x1), (2, 0, x2), (3, 0, (x3 + 1))] [] G h Q) :
    z_Y D M_X13_firstName d 2 [(0, 2, 88), (1, 0, x1), (2, 0, x2), (3, 0, x3)] [] G h Q := by
  intro hl0
  refine z_aload_n (q := 3) 0 dX13_firstName_2 rfl rfl ?_
  refine z_iload_n (q := 4) 3 dX13_firstName_3 rfl rfl ?_
  refine z_iload_n (q := 5) 2 dX13_firstName_4 rfl rfl ?_
  have e1 := a_X13_cellAt (D := D) (G := G) (h := h) (d := d - 1) (by omega) x3 x2 (h 88 3) (h 91 (72 * (h 88 3) + 6 * x3 + x2)) rfl p1 p2 rfl
  refine z_goV (q := 8) (av := [(0, x3), (0, x2)]) (rest := []) cb11 (hl0.i 88 (by decide) rfl) (z_tol) hl0 (z_El.K e1 (by omega) ?_) mo_X13_cellAt np_X13_cellAt k1507 k1509 k63 rfl (nle rfl) dX13_firstName_5 rfl
  refine z_aload_n (q := 9) 0 dX13_firstName_8 rfl rfl ?_
  refine z_iload_n (q := 10) 1 dX13_firstName_9 rfl rfl ?_
  refine z_iload_n (q := 11) 2 dX13_firstName_10 rfl rfl ?_
  have e2 := a_X13_cellAt (D := D) (G := G) (h := h) (d := d - 1) (by omega) x1 x2 (h 88 3) (h 91 (72 * (h 88 3) + 6 * x1 + x2)) rfl p3 p4 rfl
  refine z_goV (q := 14) (av := [(0, x1), (0, x2)]) (rest := [(1, (h 91 (72 * (h 88 3) + 6 * x3 + x2)))]) cb11 (hl0.i 88 (by decide) rfl) (z_tol) hl0 (z_El.K e2 (by omega) ?_) mo_X13_cellAt np_X13_cellAt k1507 k1509 k63 rfl (nle rfl) dX13_firstName_11 rfl
  refine z_lcmp_eq (q := 18) (t := 24) p5 p6 dX13_firstName_14 (rfl : _ = 15) dX13_firstName_15 (by decide) rfl (fun c1 => ?_) (fun c1 => ?_)
  · refine z_iload_n (q := 25) 3 dX13_firstName_24 rfl rfl ?_
    exact z_iret rfl dX13_firstName_25 ⟨hl0, u1 c1⟩
  · refine z_iinc (q := 21) (L' := [(0, 2, 88), (1, 0, x1), (2, 0, x2), (3, 0, (x3 + 1))]) 3 dX13_firstName_18 rfl rfl (by decide) rfl ?_
    refine z_goto (t := 2) dX13_firstName_21 (by decide) ?_
    exact u2 c1 hl0
