theorem b_X13_splits_0 {D : zD} {d : Nat} {G : zG} {h : zH} {Q : zO → zG → zH → Prop} {x1 x2 x3 : Int} (p1 : z_in x3) (p2 : ¬ (3 < x3) → z_in x1)
    (u1 : 3 < x3 → Q (.inl (some (0, 0))) G h)
    (u2 : ¬ (3 < x3) → ¬ x1 = 6 → z_Kv D M_X13_shape d [(2, 88), (0, 10), (0, (h 88 4)), (0, (x1 + 1))] G h (fun G' h' => z_Y D M_X13_splits d 29 [(0, 2, 88), (1, 0, x1), (2, 0, x2), (3, 0, x3), (4, 0, 0)] [] G' h' Q))
    (u3 : ¬ (3 < x3) → ¬ (¬ x1 = 6) → Q (.inl (some (0, 0))) G h) :
    z_Y D M_X13_splits d 0 [(0, 2, 88), (1, 0, x1), (2, 0, x2), (3, 0, x3)] [] G h Q := by
  intro hl0
  refine z_iload_n (q := 1) 3 dX13_splits_0 rfl rfl ?_
  refine z_iconst (q := 2) dX13_splits_1 rfl ?_
  refine z_icmp_gt (q := 5) (t := 11) p1 ⟨by decide, by decide⟩ dX13_splits_2 (by decide) rfl (fun c1 => ?_) (fun c1 => ?_)
  · refine z_iconst (q := 12) dX13_splits_11 rfl ?_
    exact z_bret rfl (by decide) dX13_splits_12 ⟨hl0, u1 c1⟩
  · refine z_iload_n (q := 6) 1 dX13_splits_5 rfl rfl ?_
    refine z_bipush (q := 8) dX13_splits_6 rfl (by decide) ?_
    refine z_icmp_ne (q := 11) (t := 13) (p2 c1) ⟨by decide, by decide⟩ dX13_splits_8 (by decide) rfl (fun c2 => ?_) (fun c2 => ?_)
    · refine z_iconst (q := 14) dX13_splits_13 rfl ?_
      refine z_istore (q := 16) (L' := [(0, 2, 88), (1, 0, x1), (2, 0, x2), (3, 0, x3), (4, 0, 0)]) dX13_splits_14 rfl (by decide) rfl ?_
      refine z_aload_n (q := 17) 0 dX13_splits_16 rfl rfl ?_
      refine z_bipush (q := 19) dX13_splits_17 rfl (by decide) ?_
      refine z_aload_n (q := 20) 0 dX13_splits_19 rfl rfl ?_
      refine z_gf (q := 23) (ki := 4) (v := (0, (h 88 4))) fX13_126 rfl rfl (hl0.i 88 (by decide) rfl) dX13_splits_20 rfl ?_
      refine z_iload_n (q := 24) 1 dX13_splits_23 rfl rfl ?_
      refine z_iconst (q := 25) dX13_splits_24 rfl ?_
      refine z_iadd (q := 26) dX13_splits_25 rfl ?_
      exact z_goV (q := 29) (av := [(0, 10), (0, (h 88 4)), (0, (x1 + 1))]) (rest := []) cb11 (hl0.i 88 (by decide) rfl) z_tov hl0 (u2 c1 c2) mo_X13_shape np_X13_shape k1319 k1321 k44 rfl (nle rfl) dX13_splits_26 rfl
    · refine z_iconst (q := 12) dX13_splits_11 rfl ?_
      exact z_bret rfl (by decide) dX13_splits_12 ⟨hl0, u3 c1 c2⟩
theorem b_X13_splits_29 {D : zD} {d : Nat} {G : zG} {h : zH} {Q : zO → zG → zH → Prop} {x1 x2 x3 x4 : Int}
    (u1 : z_Y D M_X13_splits d 32 [(0, 2, 88), (1, 0, x1), (2, 0, x2), (3, 0, x3), (4, 0, x4), (5, 0, 0)] [] G h Q) :
    z_Y D M_X13_splits d 29 [(0, 2, 88), (1, 0, x1), (2, 0, x2), (3, 0, x3), (4, 0, x4)] [] G h Q := by
  intro hl0
  refine z_iconst (q := 30) dX13_splits_29 rfl ?_
  refine z_istore (q := 32) (L' := [(0, 2, 88), (1, 0, x1), (2, 0, x2), (3, 0, x3), (4, 0, x4), (5, 0, 0)]) dX13_splits_30 rfl (by decide) rfl ?_
  exact u1 hl0
theorem b_X13_splits_32 {D : zD} {d : Nat} {G : zG} {h : zH} {Q : zO → zG → zH → Prop} {x1 x2 x3 x4 x5 : Int} (p1 : z_in x5) (p2 : z_in (h 88 4)) (p3 : (h 88 4) ≤ x5 → x4 = 0 ∨ x4 = 1)
    (u1 : (h 88 4) ≤ x5 → Q (.inl (some (0, x4))) G h)
    (u2 : ¬ ((h 88 4) ≤ x5) → z_Y D M_X13_splits d 44 [(0, 2, 88), (1, 0, x1), (2, 0, x2), (3, 0, x3), (4, 0, x4), (5, 0, x5), (6, 0, 0)] [] G h Q) :
    z_Y D M_X13_splits d 32 [(0, 2, 88), (1, 0, x1), (2, 0, x2), (3, 0, x3), (4, 0, x4), (5, 0, x5)] [] G h Q := by
  intro hl0
  refine z_iload (q := 34) 5 dX13_splits_32 rfl rfl ?_
  refine z_aload_n (q := 35) 0 dX13_splits_34 rfl rfl ?_
  refine z_gf (q := 38) (ki := 4) (v := (0, (h 88 4))) fX13_126 rfl rfl (hl0.i 88 (by decide) rfl) dX13_splits_35 rfl ?_
  refine z_icmp_ge (q := 41) (t := 207) p1 p2 dX13_splits_38 (by decide) rfl (fun c1 => ?_) (fun c1 => ?_)
  · refine z_iload (q := 209) 4 dX13_splits_207 rfl rfl ?_
    exact z_bret rfl (p3 c1) dX13_splits_209 ⟨hl0, u1 c1⟩
  · refine z_iconst (q := 42) dX13_splits_41 rfl ?_
    refine z_istore (q := 44) (L' := [(0, 2, 88), (1, 0, x1), (2, 0, x2), (3, 0, x3), (4, 0, x4), (5, 0, x5), (6, 0, 0)]) dX13_splits_42 rfl (by decide) rfl ?_
    exact u2 c1 hl0
theorem b_X13_splits_44 {D : zD} {d : Nat} {G : zG} {h : zH} {Q : zO → zG → zH → Prop} {x1 x2 x3 x4 x5 x6 : Int} (hd : 3 ≤ d) (p1 : z_in x6) (p2 : z_in x1) (p3 : x1 ≤ x6 → 0 ≤ (72 * (h 88 3) + 6 * x5 + x2)) (p4 : x1 ≤ x6 → (72 * (h 88 3) + 6 * x5 + x2) < 864) (p5 : x1 ≤ x6 → 0 ≤ (h 91 (72 * (h 88 3) + 6 * x5 + x2))) (p6 : x1 ≤ x6 → (h 91 (72 * (h 88 3) + 6 * x5 + x2)) < 72057594037927936) (p7 : x1 ≤ x6 → 0 ≤ x3) (p8 : x1 ≤ x6 → x3 < 4) (p9 : x1 ≤ x6 → z_in (zmb x3)) (p10 : x1 ≤ x6 → z_in x4) (p11 : x1 ≤ x6 → ¬ (¬ x4 = 0) → z_in (if zbh (zlen (h 91 (72 * (h 88 3) + 6 * x5 + x2))).toNat (h 91 (72 * (h 88 3) + 6 * x5 + x2)) (zmb x3) = -1 then -1 else zlen (h 91 (72 * (h 88 3) + 6 * x5 + x2)) - 1 - zbh (zlen (h 91 (72 * (h 88 3) + 6 * x5 + x2))).toNat (h 91 (72 * (h 88 3) + 6 * x5 + x2)) (zmb x3))) (p12 : ¬ (x1 ≤ x6) → z_in x2)
    (u1 : x1 ≤ x6 → ¬ x4 = 0 → z_Y D M_X13_splits d 129 [(0, 2, 88), (1, 0, x1), (2, 0, x2), (3, 0, x3), (5, 0, x5), (6, 1, (h 91 (72 * (h 88 3) + 6 * x5 + x2))), (8, 0, (zlen (h 91 (72 * (h 88 3) + 6 * x5 + x2)))), (9, 0, (if zbh (zlen (h 91 (72 * (h 88 3) + 6 * x5 + x2))).toNat (h 91 (72 * (h 88 3) + 6 * x5 + x2)) (zmb x3) = -1 then -1 else zlen (h 91 (72 * (h 88 3) + 6 * x5 + x2)) - 1 - zbh (zlen (h 91 (72 * (h 88 3) + 6 * x5 + x2))).toNat (h 91 (72 * (h 88 3) + 6 * x5 + x2)) (zmb x3)))] [] G h Q)
    (u2 : x1 ≤ x6 → ¬ (¬ x4 = 0) → (if zbh (zlen (h 91 (72 * (h 88 3) + 6 * x5 + x2))).toNat (h 91 (72 * (h 88 3) + 6 * x5 + x2)) (zmb x3) = -1 then -1 else zlen (h 91 (72 * (h 88 3) + 6 * x5 + x2)) - 1 - zbh (zlen (h 91 (72 * (h 88 3) + 6 * x5 + x2))).toNat (h 91 (72 * (h 88 3) + 6 * x5 + x2)) (zmb x3)) = (-1) → z_Y D M_X13_splits d 134 [(0, 2, 88), (1, 0, x1), (2, 0, x2), (3, 0, x3), (5, 0, x5), (6, 1, (h 91 (72 * (h 88 3) + 6 * x5 + x2))), (8, 0, (zlen (h 91 (72 * (h 88 3) + 6 * x5 + x2)))), (9, 0, (if zbh (zlen (h 91 (72 * (h 88 3) + 6 * x5 + x2))).toNat (h 91 (72 * (h 88 3) + 6 * x5 + x2)) (zmb x3) = -1 then -1 else zlen (h 91 (72 * (h 88 3) + 6 * x5 + x2)) - 1 - zbh (zlen (h 91 (72 * (h 88 3) + 6 * x5 + x2))).toNat (h 91 (72 * (h 88 3) + 6 * x5 + x2)) (zmb x3)))] [(0, 0)] G h Q)
    (u3 : x1 ≤ x6 → ¬ (¬ x4 = 0) → ¬ ((if zbh (zlen (h 91 (72 * (h 88 3) + 6 * x5 + x2))).toNat (h 91 (72 * (h 88 3) + 6 * x5 + x2)) (zmb x3) = -1 then -1 else zlen (h 91 (72 * (h 88 3) + 6 * x5 + x2)) - 1 - zbh (zlen (h 91 (72 * (h 88 3) + 6 * x5 + x2))).toNat (h 91 (72 * (h 88 3) + 6 * x5 + x2)) (zmb x3)) = (-1)) → z_Y D M_X13_splits d 129 [(0, 2, 88), (1, 0, x1), (2, 0, x2), (3, 0, x3), (5, 0, x5), (6, 1, (h 91 (72 * (h 88 3) + 6 * x5 + x2))), (8, 0, (zlen (h 91 (72 * (h 88 3) + 6 * x5 + x2)))), (9, 0, (if zbh (zlen (h 91 (72 * (h 88 3) + 6 * x5 + x2))).toNat (h 91 (72 * (h 88 3) + 6 * x5 + x2)) (zmb x3) = -1 then -1 else zlen (h 91 (72 * (h 88 3) + 6 * x5 + x2)) - 1 - zbh (zlen (h 91 (72 * (h 88 3) + 6 * x5 + x2))).toNat (h 91 (72 * (h 88 3) + 6 * x5 + x2)) (zmb x3)))] [] G h Q)
    (u4 : ¬ (x1 ≤ x6) → x6 = x2 → z_Y D M_X13_splits d 44 [(0, 2, 88), (1, 0, x1), (2, 0, x2), (3, 0, x3), (4, 0, x4), (5, 0, x5), (6, 0, (x6 + 1))] [] G h Q)
    (u5 : ¬ (x1 ≤ x6) → ¬ (x6 = x2) → x2 ≤ x6 → z_Y D M_X13_splits d 74 [(0, 2, 88), (1, 0, x1), (2, 0, x2), (3, 0, x3), (4, 0, x4), (5, 0, x5), (6, 0, x6)] [(0, (x6 + 1)), (0, x5), (2, 88)] G h Q)
    (u6 : ¬ (x1 ≤ x6) → ¬ (x6 = x2) → ¬ (x2 ≤ x6) → z_Y D M_X13_splits d 74 [(0, 2, 88), (1, 0, x1), (2, 0, x2), (3, 0, x3), (4, 0, x4), (5, 0, x5), (6, 0, x6)] [(0, x6), (0, x5), (2, 88)] G h Q) :
    z_Y D M_X13_splits d 44 [(0, 2, 88), (1, 0, x1), (2, 0, x2), (3, 0, x3), (4, 0, x4), (5, 0, x5), (6, 0, x6)] [] G h Q := by
  intro hl0
  refine z_iload (q := 46) 6 dX13_splits_44 rfl rfl ?_
  refine z_iload_n (q := 47) 1 dX13_splits_46 rfl rfl ?_
  refine z_icmp_ge (q := 50) (t := 91) p1 p2 dX13_splits_47 (by decide) rfl (fun c1 => ?_) (fun c1 => ?_)
  · refine z_aload_n (q := 92) 0 dX13_splits_91 rfl rfl ?_
    refine z_iload (q := 94) 5 dX13_splits_92 rfl rfl ?_
    refine z_iload_n (q := 95) 2 dX13_splits_94 rfl rfl ?_
    have e1 := a_X13_cellAt (D := D) (G := G) (h := h) (d := d - 1) (by omega) x5 x2 (h 88 3) (h 91 (72 * (h 88 3) + 6 * x5 + x2)) rfl (p3 c1) (p4 c1) rfl
    refine z_goV (q := 98) (av := [(0, x5), (0, x2)]) (rest := []) cb11 (hl0.i 88 (by decide) rfl) (z_tol) hl0 (z_El.K e1 (by omega) ?_) mo_X13_cellAt np_X13_cellAt k1507 k1509 k63 rfl (nle rfl) dX13_splits_95 rfl
    refine z_lstore (q := 100) (L' := [(0, 2, 88), (1, 0, x1), (2, 0, x2), (3, 0, x3), (4, 0, x4), (5, 0, x5), (6, 1, (h 91 (72 * (h 88 3) + 6 * x5 + x2)))]) dX13_splits_98 rfl (by decide) rfl ?_
    refine z_lload (q := 102) 6 dX13_splits_100 rfl rfl ?_
    have e2 := a_X13_length (D := D) (G := G) (h := h) (d := d - 1) (by omega) (h 91 (72 * (h 88 3) + 6 * x5 + x2)) (p5 c1) (p6 c1)
    refine z_goS (q := 105) (av := [(1, (h 91 (72 * (h 88 3) + 6 * x5 + x2)))]) (rest := []) (z_toi) hl0 (z_Ei.K e2 (by omega) ?_) mo_X13_length np_X13_length k1466 k1467 rfl (nle rfl) dX13_splits_102 rfl
    refine z_istore (q := 107) (L' := [(0, 2, 88), (1, 0, x1), (2, 0, x2), (3, 0, x3), (4, 0, x4), (5, 0, x5), (6, 1, (h 91 (72 * (h 88 3) + 6 * x5 + x2))), (8, 0, (zlen (h 91 (72 * (h 88 3) + 6 * x5 + x2))))]) dX13_splits_105 rfl (by decide) rfl ?_
    refine z_lload (q := 109) 6 dX13_splits_107 rfl rfl ?_
    refine z_iload_n (q := 110) 3 dX13_splits_109 rfl rfl ?_
    have e3 := a_X13_markOf (D := D) (G := G) (h := h) (d := d - 1) (by omega) x3 (p7 c1) (p8 c1)
    refine z_goS (q := 113) (av := [(0, x3)]) (rest := [(1, (h 91 (72 * (h 88 3) + 6 * x5 + x2)))]) (z_toi) hl0 (z_Ei.K e3 (by omega) ?_) mo_X13_markOf np_X13_markOf k1519 k1520 rfl (nle rfl) dX13_splits_110 rfl
    have e4 := a_X13_markAt (D := D) (G := G) (h := h) (d := d - 1) (by omega) (h 91 (72 * (h 88 3) + 6 * x5 + x2)) (zmb x3) (p5 c1) (p6 c1) (p9 c1)
    refine z_goS (q := 116) (av := [(1, (h 91 (72 * (h 88 3) + 6 * x5 + x2))), (0, (zmb x3))]) (rest := []) (z_toi) hl0 (z_Ei.K e4 (by omega) ?_) mo_X13_markAt np_X13_markAt k1522 k1523 rfl (nle rfl) dX13_splits_113 rfl
    refine z_istore (q := 118) (L' := [(0, 2, 88), (1, 0, x1), (2, 0, x2), (3, 0, x3), (4, 0, x4), (5, 0, x5), (6, 1, (h 91 (72 * (h 88 3) + 6 * x5 + x2))), (8, 0, (zlen (h 91 (72 * (h 88 3) + 6 * x5 + x2)))), (9, 0, (if zbh (zlen (h 91 (72 * (h 88 3) + 6 * x5 + x2))).toNat (h 91 (72 * (h 88 3) + 6 * x5 + x2)) (zmb x3) = -1 then -1 else zlen (h 91 (72 * (h 88 3) + 6 * x5 + x2)) - 1 - zbh (zlen (h 91 (72 * (h 88 3) + 6 * x5 + x2))).toNat (h 91 (72 * (h 88 3) + 6 * x5 + x2)) (zmb x3)))]) dX13_splits_116 rfl (by decide) rfl ?_
    refine z_iload (q := 120) 4 dX13_splits_118 rfl rfl ?_
    refine z_if_ne (q := 123) (t := 129) (p10 c1) dX13_splits_120 (by decide) rfl (fun c2 => ?_) (fun c2 => ?_)
    · refine z_sub (L' := [(0, 2, 88), (1, 0, x1), (2, 0, x2), (3, 0, x3), (5, 0, x5), (6, 1, (h 91 (72 * (h 88 3) + 6 * x5 + x2))), (8, 0, (zlen (h 91 (72 * (h 88 3) + 6 * x5 + x2)))), (9, 0, (if zbh (zlen (h 91 (72 * (h 88 3) + 6 * x5 + x2))).toNat (h 91 (72 * (h 88 3) + 6 * x5 + x2)) (zmb x3) = -1 then -1 else zlen (h 91 (72 * (h 88 3) + 6 * x5 + x2)) - 1 - zbh (zlen (h 91 (72 * (h 88 3) + 6 * x5 + x2))).toNat (h 91 (72 * (h 88 3) + 6 * x5 + x2)) (zmb x3)))]) [0, 1, 2, 3, 5, 6, 7, 8] rfl ?_
      exact u1 c1 c2 hl0
    · refine z_iload (q := 125) 8 dX13_splits_123 rfl rfl ?_
      refine z_iconst (q := 126) dX13_splits_125 rfl ?_
      refine z_icmp_eq (q := 129) (t := 133) (p11 c1 c2) ⟨by decide, by decide⟩ dX13_splits_126 (by decide) rfl (fun c3 => ?_) (fun c3 => ?_)
      · refine z_iconst (q := 134) dX13_splits_133 rfl ?_
        refine z_sub (L' := [(0, 2, 88), (1, 0, x1), (2, 0, x2), (3, 0, x3), (5, 0, x5), (6, 1, (h 91 (72 * (h 88 3) + 6 * x5 + x2))), (8, 0, (zlen (h 91 (72 * (h 88 3) + 6 * x5 + x2)))), (9, 0, (if zbh (zlen (h 91 (72 * (h 88 3) + 6 * x5 + x2))).toNat (h 91 (72 * (h 88 3) + 6 * x5 + x2)) (zmb x3) = -1 then -1 else zlen (h 91 (72 * (h 88 3) + 6 * x5 + x2)) - 1 - zbh (zlen (h 91 (72 * (h 88 3) + 6 * x5 + x2))).toNat (h 91 (72 * (h 88 3) + 6 * x5 + x2)) (zmb x3)))]) [0, 1, 2, 3, 5, 6, 7, 8] rfl ?_
        exact u2 c1 c2 c3 hl0
      · refine z_sub (L' := [(0, 2, 88), (1, 0, x1), (2, 0, x2), (3, 0, x3), (5, 0, x5), (6, 1, (h 91 (72 * (h 88 3) + 6 * x5 + x2))), (8, 0, (zlen (h 91 (72 * (h 88 3) + 6 * x5 + x2)))), (9, 0, (if zbh (zlen (h 91 (72 * (h 88 3) + 6 * x5 + x2))).toNat (h 91 (72 * (h 88 3) + 6 * x5 + x2)) (zmb x3) = -1 then -1 else zlen (h 91 (72 * (h 88 3) + 6 * x5 + x2)) - 1 - zbh (zlen (h 91 (72 * (h 88 3) + 6 * x5 + x2))).toNat (h 91 (72 * (h 88 3) + 6 * x5 + x2)) (zmb x3)))]) [0, 1, 2, 3, 5, 6, 7, 8] rfl ?_
        exact u3 c1 c2 c3 hl0
  · refine z_iload (q := 52) 6 dX13_splits_50 rfl rfl ?_
    refine z_iload_n (q := 53) 2 dX13_splits_52 rfl rfl ?_
    refine z_icmp_eq (q := 56) (t := 85) p1 (p12 c1) dX13_splits_53 (by decide) rfl (fun c4 => ?_) (fun c4 => ?_)
    · refine z_iinc (q := 88) (L' := [(0, 2, 88), (1, 0, x1), (2, 0, x2), (3, 0, x3), (4, 0, x4), (5, 0, x5), (6, 0, (x6 + 1))]) 6 dX13_splits_85 rfl rfl (by decide) rfl ?_
      refine z_goto (t := 44) dX13_splits_88 (by decide) ?_
      exact u4 c1 c4 hl0
    · refine z_aload_n (q := 57) 0 dX13_splits_56 rfl rfl ?_
      refine z_iload (q := 59) 5 dX13_splits_57 rfl rfl ?_
      refine z_iload (q := 61) 6 dX13_splits_59 rfl rfl ?_
      refine z_iload_n (q := 62) 2 dX13_splits_61 rfl rfl ?_
      refine z_icmp_ge (q := 65) (t := 70) p1 (p12 c1) dX13_splits_62 (by decide) rfl (fun c5 => ?_) (fun c5 => ?_)
      · refine z_iload (q := 72) 6 dX13_splits_70 rfl rfl ?_
        refine z_iconst (q := 73) dX13_splits_72 rfl ?_
        refine z_iadd (q := 74) dX13_splits_73 rfl ?_
        exact u5 c1 c4 c5 hl0
      · refine z_iload (q := 67) 6 dX13_splits_65 rfl rfl ?_
        refine z_goto (t := 74) dX13_splits_67 (by decide) ?_
        exact u6 c1 c4 c5 hl0
theorem b_X13_splits_129 {D : zD} {d : Nat} {G : zG} {h : zH} {Q : zO → zG → zH → Prop} {x1 x2 x3 x5 x6 x8 x9 : Int}
    (u1 : z_Y D M_X13_splits d 134 [(0, 2, 88), (1, 0, x1), (2, 0, x2), (3, 0, x3), (5, 0, x5), (6, 1, x6), (8, 0, x8), (9, 0, x9)] [(0, 1)] G h Q) :
    z_Y D M_X13_splits d 129 [(0, 2, 88), (1, 0, x1), (2, 0, x2), (3, 0, x3), (5, 0, x5), (6, 1, x6), (8, 0, x8), (9, 0, x9)] [] G h Q := by
  intro hl0
  refine z_iconst (q := 130) dX13_splits_129 rfl ?_
  refine z_goto (t := 134) dX13_splits_130 (by decide) ?_
  exact u1 hl0
theorem b_X13_splits_134 {D : zD} {d : Nat} {G : zG} {h : zH} {Q : zO → zG → zH → Prop} {s0 x1 x2 x3 x5 x6 x8 x9 : Int} (p1 : z_in x9)
    (u1 : ¬ x9 = (-1) → z_Y D M_X13_splits d 162 [(0, 2, 88), (1, 0, x1), (2, 0, x2), (3, 0, x3), (4, 0, s0), (5, 0, x5), (6, 1, x6), (8, 0, x8), (9, 0, x9)] [(1, (z_lshr x6 (8 * (x8 - x9)))), (0, x2), (0, x5), (2, 88)] G h Q)
    (u2 : ¬ (¬ x9 = (-1)) → z_Y D M_X13_splits d 162 [(0, 2, 88), (1, 0, x1), (2, 0, x2), (3, 0, x3), (4, 0, s0), (5, 0, x5), (6, 1, x6), (8, 0, x8), (9, 0, x9)] [(1, x6), (0, x2), (0, x5), (2, 88)] G h Q) :
    z_Y D M_X13_splits d 134 [(0, 2, 88), (1, 0, x1), (2, 0, x2), (3, 0, x3), (5, 0, x5), (6, 1, x6), (8, 0, x8), (9, 0, x9)] [(0, s0)] G h Q := by
  intro hl0
  refine z_istore (q := 136) (L' := [(0, 2, 88), (1, 0, x1), (2, 0, x2), (3, 0, x3), (4, 0, s0), (5, 0, x5), (6, 1, x6), (8, 0, x8), (9, 0, x9)]) dX13_splits_134 rfl (by decide) rfl ?_
  refine z_aload_n (q := 137) 0 dX13_splits_136 rfl rfl ?_
  refine z_iload (q := 139) 5 dX13_splits_137 rfl rfl ?_
  refine z_iload_n (q := 140) 2 dX13_splits_139 rfl rfl ?_
  refine z_iload (q := 142) 8 dX13_splits_140 rfl rfl ?_
  refine z_iconst (q := 143) dX13_splits_142 rfl ?_
  refine z_icmp_ne (q := 146) (t := 151) p1 ⟨by decide, by decide⟩ dX13_splits_143 (by decide) rfl (fun c1 => ?_) (fun c1 => ?_)
  · refine z_lload (q := 153) 6 dX13_splits_151 rfl rfl ?_
    refine z_bipush (q := 155) dX13_splits_153 rfl (by decide) ?_
    refine z_iload (q := 157) 7 dX13_splits_155 rfl rfl ?_
    refine z_iload (q := 159) 8 dX13_splits_157 rfl rfl ?_
    refine z_isub (q := 160) dX13_splits_159 rfl ?_
    refine z_imul (q := 161) dX13_splits_160 rfl ?_
    refine z_r_lshr (q := 162) dX13_splits_161 rfl ?_
    exact u1 c1 hl0
  · refine z_lload (q := 148) 6 dX13_splits_146 rfl rfl ?_
    refine z_goto (t := 162) dX13_splits_148 (by decide) ?_
    exact u2 c1 hl0
theorem b_X13_splits_74 {D : zD} {d : Nat} {G : zG} {h : zH} {Q : zO → zG → zH → Prop} {s1 s2 x1 x2 x3 x4 x5 x6 : Int} (hd : 3 ≤ d) (p1 : 0 ≤ (72 * (h 88 3) + 6 * x5 + x6)) (p2 : (72 * (h 88 3) + 6 * x5 + x6) < 864) (p3 : 0 ≤ (72 * 10 + 6 * s1 + s2)) (p4 : (72 * 10 + 6 * s1 + s2) < 864)
    (u1 : z_Y D M_X13_splits d 44 [(0, 2, 88), (1, 0, x1), (2, 0, x2), (3, 0, x3), (4, 0, x4), (5, 0, x5), (6, 0, (x6 + 1))] [] G (z_wr h 91 (72 * 10 + 6 * s1 + s2) (h 91 (72 * (h 88 3) + 6 * x5 + x6))) Q) :
    z_Y D M_X13_splits d 74 [(0, 2, 88), (1, 0, x1), (2, 0, x2), (3, 0, x3), (4, 0, x4), (5, 0, x5), (6, 0, x6)] [(0, s2), (0, s1), (2, 88)] G h Q := by
  intro hl0
  refine z_aload_n (q := 75) 0 dX13_splits_74 rfl rfl ?_
  refine z_iload (q := 77) 5 dX13_splits_75 rfl rfl ?_
  refine z_iload (q := 79) 6 dX13_splits_77 rfl rfl ?_
  have e1 := a_X13_cellAt (D := D) (G := G) (h := h) (d := d - 1) (by omega) x5 x6 (h 88 3) (h 91 (72 * (h 88 3) + 6 * x5 + x6)) rfl p1 p2 rfl
  refine z_goV (q := 82) (av := [(0, x5), (0, x6)]) (rest := [(0, s2), (0, s1), (2, 88)]) cb11 (hl0.i 88 (by decide) rfl) (z_tol) hl0 (z_El.K e1 (by omega) ?_) mo_X13_cellAt np_X13_cellAt k1507 k1509 k63 rfl (nle rfl) dX13_splits_79 rfl
  have e2 := a_X13_put (D := D) (G := G) (h := h) (d := d - 1) (by omega) s1 s2 (h 91 (72 * (h 88 3) + 6 * x5 + x6)) p3 p4
  refine z_goV (q := 85) (av := [(0, s1), (0, s2), (1, (h 91 (72 * (h 88 3) + 6 * x5 + x6)))]) (rest := []) cb11 (hl0.i 88 (by decide) rfl) (z_tov) hl0 (z_Ev.K e2 (by omega) ?_) mo_X13_put np_X13_put k1341 k1343 k47 rfl (nle rfl) dX13_splits_82 rfl
  have hl1 : lay G (z_wr h 91 (72 * 10 + 6 * s1 + s2) (h 91 (72 * (h 88 3) + 6 * x5 + x6))) := e2.lay hl0
  refine z_iinc (q := 88) (L' := [(0, 2, 88), (1, 0, x1), (2, 0, x2), (3, 0, x3), (4, 0, x4), (5, 0, x5), (6, 0, (x6 + 1))]) 6 dX13_splits_85 rfl rfl (by decide) rfl ?_
  refine z_goto (t := 44) dX13_splits_88 (by decide) ?_
  exact u1 hl1
theorem b_X13_splits_162 {D : zD} {d : Nat} {G : zG} {h : zH} {Q : zO → zG → zH → Prop} {s1 s2 s3 x1 x2 x3 x4 x5 x6 x8 x9 : Int} (hd : 3 ≤ d) (p1 : 0 ≤ (72 * 10 + 6 * s1 + s2)) (p2 : (72 * 10 + 6 * s1 + s2) < 864) (p3 : z_in x9)
    (u1 : ¬ x9 = (-1) → z_Y D M_X13_splits d 198 [(0, 2, 88), (1, 0, x1), (2, 0, x2), (3, 0, x3), (4, 0, x4), (5, 0, x5)] [(1, (z_land x6 ((z_lshl 1 (8 * ((x8 - 1) - x9))) - 1))), (0, (x2 + 1)), (0, x5), (2, 88)] G (z_wr h 91 (72 * 10 + 6 * s1 + s2) s3) Q)
    (u2 : ¬ (¬ x9 = (-1)) → z_Y D M_X13_splits d 198 [(0, 2, 88), (1, 0, x1), (2, 0, x2), (3, 0, x3), (4, 0, x4), (5, 0, x5)] [(1, 0), (0, (x2 + 1)), (0, x5), (2, 88)] G (z_wr h 91 (72 * 10 + 6 * s1 + s2) s3) Q) :
    z_Y D M_X13_splits d 162 [(0, 2, 88), (1, 0, x1), (2, 0, x2), (3, 0, x3), (4, 0, x4), (5, 0, x5), (6, 1, x6), (8, 0, x8), (9, 0, x9)] [(1, s3), (0, s2), (0, s1), (2, 88)] G h Q := by
  intro hl0
  have e1 := a_X13_put (D := D) (G := G) (h := h) (d := d - 1) (by omega) s1 s2 s3 p1 p2
  refine z_goV (q := 165) (av := [(0, s1), (0, s2), (1, s3)]) (rest := []) cb11 (hl0.i 88 (by decide) rfl) (z_tov) hl0 (z_Ev.K e1 (by omega) ?_) mo_X13_put np_X13_put k1341 k1343 k47 rfl (nle rfl) dX13_splits_162 rfl
  have hl1 : lay G (z_wr h 91 (72 * 10 + 6 * s1 + s2) s3) := e1.lay hl0
  refine z_aload_n (q := 166) 0 dX13_splits_165 rfl rfl ?_
  refine z_iload (q := 168) 5 dX13_splits_166 rfl rfl ?_
  refine z_iload_n (q := 169) 2 dX13_splits_168 rfl rfl ?_
  refine z_iconst (q := 170) dX13_splits_169 rfl ?_
  refine z_iadd (q := 171) dX13_splits_170 rfl ?_
  refine z_iload (q := 173) 8 dX13_splits_171 rfl rfl ?_
  refine z_iconst (q := 174) dX13_splits_173 rfl ?_
  refine z_icmp_ne (q := 177) (t := 181) p3 ⟨by decide, by decide⟩ dX13_splits_174 (by decide) rfl (fun c1 => ?_) (fun c1 => ?_)
  · refine z_lload (q := 183) 6 dX13_splits_181 rfl rfl ?_
    refine z_lconst1 (q := 184) dX13_splits_183 rfl ?_
    refine z_bipush (q := 186) dX13_splits_184 rfl (by decide) ?_
    refine z_iload (q := 188) 7 dX13_splits_186 rfl rfl ?_
    refine z_iconst (q := 189) dX13_splits_188 rfl ?_
    refine z_isub (q := 190) dX13_splits_189 rfl ?_
    refine z_iload (q := 192) 8 dX13_splits_190 rfl rfl ?_
    refine z_isub (q := 193) dX13_splits_192 rfl ?_
    refine z_imul (q := 194) dX13_splits_193 rfl ?_
    refine z_r_lshl (q := 195) dX13_splits_194 rfl ?_
    refine z_lconst1 (q := 196) dX13_splits_195 rfl ?_
    refine z_lsub (q := 197) dX13_splits_196 rfl ?_
    refine z_r_land (q := 198) dX13_splits_197 rfl ?_
    refine z_sub (L' := [(0, 2, 88), (1, 0, x1), (2, 0, x2), (3, 0, x3), (4, 0, x4), (5, 0, x5)]) [0, 1, 2, 3, 4, 5] rfl ?_
    exact u1 c1 hl1
  · refine z_lconst0 (q := 178) dX13_splits_177 rfl ?_
    refine z_goto (t := 198) dX13_splits_178 (by decide) ?_
    refine z_sub (L' := [(0, 2, 88), (1, 0, x1), (2, 0, x2), (3, 0, x3), (4, 0, x4), (5, 0, x5)]) [0, 1, 2, 3, 4, 5] rfl ?_
    exact u2 c1 hl1
theorem b_X13_splits_198 {D : zD} {d : Nat} {G : zG} {h : zH} {Q : zO → zG → zH → Prop} {s1 s2 s3 x1 x2 x3 x4 x5 : Int} (hd : 3 ≤ d) (p1 : 0 ≤ (72 * 10 + 6 * s1 + s2)) (p2 : (72 * 10 + 6 * s1 + s2) < 864)
    (u1 : z_Y D M_X13_splits d 32 [(0, 2, 88), (1, 0, x1), (2, 0, x2), (3, 0, x3), (4, 0, x4), (5, 0, (x5 + 1))] [] G (z_wr h 91 (72 * 10 + 6 * s1 + s2) s3) Q) :
    z_Y D M_X13_splits d 198 [(0, 2, 88), (1, 0, x1), (2, 0, x2), (3, 0, x3), (4, 0, x4), (5, 0, x5)] [(1, s3), (0, s2), (0, s1), (2, 88)] G h Q := by
  intro hl0
  have e1 := a_X13_put (D := D) (G := G) (h := h) (d := d - 1) (by omega) s1 s2 s3 p1 p2
  refine z_goV (q := 201) (av := [(0, s1), (0, s2), (1, s3)]) (rest := []) cb11 (hl0.i 88 (by decide) rfl) (z_tov) hl0 (z_Ev.K e1 (by omega) ?_) mo_X13_put np_X13_put k1341 k1343 k47 rfl (nle rfl) dX13_splits_198 rfl
  have hl1 : lay G (z_wr h 91 (72 * 10 + 6 * s1 + s2) s3) := e1.lay hl0
  refine z_iinc (q := 204) (L' := [(0, 2, 88), (1, 0, x1), (2, 0, x2), (3, 0, x3), (4, 0, x4), (5, 0, (x5 + 1))]) 5 dX13_splits_201 rfl rfl (by decide) rfl ?_
  refine z_goto (t := 32) dX13_splits_204 (by decide) ?_
  exact u1 hl1
theorem b_X13_joins_0 {D : zD} {d : Nat} {G : zG} {h : zH} {Q : zO → zG → zH → Prop} {x1 x2 x3 : Int} (p1 : z_in x3) (p2 : ¬ (3 < x3) → z_in (x2 + 1)) (p3 : ¬ (3 < x3) → z_in x1)
    (u1 : 3 < x3 → Q (.inl (some (0, 0))) G h)
    (u2 : ¬ (3 < x3) → (x2 + 1) < x1 → z_Kv D M_X13_shape d [(2, 88), (0, 10), (0, (h 88 4)), (0, (x1 - 1))] G h (fun G' h' => z_Y D M_X13_joins d 27 [(0, 2, 88), (1, 0, x1), (2, 0, x2), (3, 0, x3)] [] G' h' Q))
    (u3 : ¬ (3 < x3) → ¬ ((x2 + 1) < x1) → Q (.inl (some (0, 0))) G h) :
    z_Y D M_X13_joins d 0 [(0, 2, 88), (1, 0, x1), (2, 0, x2), (3, 0, x3)] [] G h Q := by
  intro hl0
  refine z_iload_n (q := 1) 3 dX13_joins_0 rfl rfl ?_
  refine z_iconst (q := 2) dX13_joins_1 rfl ?_
  refine z_icmp_gt (q := 5) (t := 12) p1 ⟨by decide, by decide⟩ dX13_joins_2 (by decide) rfl (fun c1 => ?_) (fun c1 => ?_)
  · refine z_iconst (q := 13) dX13_joins_12 rfl ?_
    exact z_bret rfl (by decide) dX13_joins_13 ⟨hl0, u1 c1⟩
  · refine z_iload_n (q := 6) 2 dX13_joins_5 rfl rfl ?_
    refine z_iconst (q := 7) dX13_joins_6 rfl ?_
    refine z_iadd (q := 8) dX13_joins_7 rfl ?_
    refine z_iload_n (q := 9) 1 dX13_joins_8 rfl rfl ?_
    refine z_icmp_lt (q := 12) (t := 14) (p2 c1) (p3 c1) dX13_joins_9 (by decide) rfl (fun c2 => ?_) (fun c2 => ?_)
    · refine z_aload_n (q := 15) 0 dX13_joins_14 rfl rfl ?_
      refine z_bipush (q := 17) dX13_joins_15 rfl (by decide) ?_
      refine z_aload_n (q := 18) 0 dX13_joins_17 rfl rfl ?_
      refine z_gf (q := 21) (ki := 4) (v := (0, (h 88 4))) fX13_126 rfl rfl (hl0.i 88 (by decide) rfl) dX13_joins_18 rfl ?_
      refine z_iload_n (q := 22) 1 dX13_joins_21 rfl rfl ?_
      refine z_iconst (q := 23) dX13_joins_22 rfl ?_
      refine z_isub (q := 24) dX13_joins_23 rfl ?_
      exact z_goV (q := 27) (av := [(0, 10), (0, (h 88 4)), (0, (x1 - 1))]) (rest := []) cb11 (hl0.i 88 (by decide) rfl) z_tov hl0 (u2 c1 c2) mo_X13_shape np_X13_shape k1319 k1321 k44 rfl (nle rfl) dX13_joins_24 rfl
    · refine z_iconst (q := 13) dX13_joins_12 rfl ?_
      exact z_bret rfl (by decide) dX13_joins_13 ⟨hl0, u3 c1 c2⟩
theorem b_X13_joins_27 {D : zD} {d : Nat} {G : zG} {h : zH} {Q : zO → zG → zH → Prop} {x1 x2 x3 : Int}
    (u1 : z_Y D M_X13_joins d 30 [(0, 2, 88), (1, 0, x1), (2, 0, x2), (3, 0, x3), (4, 0, 0)] [] G h Q) :
    z_Y D M_X13_joins d 27 [(0, 2, 88), (1, 0, x1), (2, 0, x2), (3, 0, x3)] [] G h Q := by
  intro hl0
  refine z_iconst (q := 28) dX13_joins_27 rfl ?_
  refine z_istore (q := 30) (L' := [(0, 2, 88), (1, 0, x1), (2, 0, x2), (3, 0, x3), (4, 0, 0)]) dX13_joins_28 rfl (by decide) rfl ?_
  exact u1 hl0
theorem b_X13_joins_30 {D : zD} {d : Nat} {G : zG} {h : zH} {Q : zO → zG → zH → Prop} {x1 x2 x3 x4 : Int} (hd : 3 ≤ d) (p1 : z_in x4) (p2 : z_in (h 88 4)) (p3 : ¬ ((h 88 4) ≤ x4) → 0 ≤ (72 * (h 88 3) + 6 * x4 + x2)) (p4 : ¬ ((h 88 4) ≤ x4) → (72 * (h 88 3) + 6 * x4 + x2) < 864) (p5 : ¬ ((h 88 4) ≤ x4) → 0 ≤ (72 * (h 88 3) + 6 * x4 + (x2 + 1))) (p6 : ¬ ((h 88 4) ≤ x4) → (72 * (h 88 3) + 6 * x4 + (x2 + 1)) < 864) (p7 : ¬ ((h 88 4) ≤ x4) → 0 ≤ (h 91 (72 * (h 88 3) + 6 * x4 + (x2 + 1)))) (p8 : ¬ ((h 88 4) ≤ x4) → (h 91 (72 * (h 88 3) + 6 * x4 + (x2 + 1))) < 72057594037927936) (p9 : ¬ ((h 88 4) ≤ x4) → 0 ≤ (h 91 (72 * (h 88 3) + 6 * x4 + x2))) (p10 : ¬ ((h 88 4) ≤ x4) → (h 91 (72 * (h 88 3) + 6 * x4 + x2)) < 72057594037927936) (p11 : ¬ ((h 88 4) ≤ x4) → z_in (((zlen (h 91 (72 * (h 88 3) + 6 * x4 + x2))) + 1) + (zlen (h 91 (72 * (h 88 3) + 6 * x4 + (x2 + 1))))))
    (u1 : (h 88 4) ≤ x4 → Q (.inl (some (0, 1))) G h)
    (u2 : ¬ ((h 88 4) ≤ x4) → (((zlen (h 91 (72 * (h 88 3) + 6 * x4 + x2))) + 1) + (zlen (h 91 (72 * (h 88 3) + 6 * x4 + (x2 + 1))))) ≤ 7 → z_Y D M_X13_joins d 86 [(0, 2, 88), (1, 0, x1), (2, 0, x2), (3, 0, x3), (4, 0, x4), (5, 1, (h 91 (72 * (h 88 3) + 6 * x4 + x2))), (7, 1, (h 91 (72 * (h 88 3) + 6 * x4 + (x2 + 1)))), (9, 0, (zlen (h 91 (72 * (h 88 3) + 6 * x4 + (x2 + 1))))), (10, 0, 0)] [] G h Q)
    (u3 : ¬ ((h 88 4) ≤ x4) → ¬ ((((zlen (h 91 (72 * (h 88 3) + 6 * x4 + x2))) + 1) + (zlen (h 91 (72 * (h 88 3) + 6 * x4 + (x2 + 1))))) ≤ 7) → Q (.inl (some (0, 0))) G h) :
    z_Y D M_X13_joins d 30 [(0, 2, 88), (1, 0, x1), (2, 0, x2), (3, 0, x3), (4, 0, x4)] [] G h Q := by
  intro hl0
  refine z_iload (q := 32) 4 dX13_joins_30 rfl rfl ?_
  refine z_aload_n (q := 33) 0 dX13_joins_32 rfl rfl ?_
  refine z_gf (q := 36) (ki := 4) (v := (0, (h 88 4))) fX13_126 rfl rfl (hl0.i 88 (by decide) rfl) dX13_joins_33 rfl ?_
  refine z_icmp_ge (q := 39) (t := 174) p1 p2 dX13_joins_36 (by decide) rfl (fun c1 => ?_) (fun c1 => ?_)
  · refine z_iconst (q := 175) dX13_joins_174 rfl ?_
    exact z_bret rfl (by decide) dX13_joins_175 ⟨hl0, u1 c1⟩
  · refine z_aload_n (q := 40) 0 dX13_joins_39 rfl rfl ?_
    refine z_iload (q := 42) 4 dX13_joins_40 rfl rfl ?_
    refine z_iload_n (q := 43) 2 dX13_joins_42 rfl rfl ?_
    have e1 := a_X13_cellAt (D := D) (G := G) (h := h) (d := d - 1) (by omega) x4 x2 (h 88 3) (h 91 (72 * (h 88 3) + 6 * x4 + x2)) rfl (p3 c1) (p4 c1) rfl
    refine z_goV (q := 46) (av := [(0, x4), (0, x2)]) (rest := []) cb11 (hl0.i 88 (by decide) rfl) (z_tol) hl0 (z_El.K e1 (by omega) ?_) mo_X13_cellAt np_X13_cellAt k1507 k1509 k63 rfl (nle rfl) dX13_joins_43 rfl
    refine z_lstore (q := 48) (L' := [(0, 2, 88), (1, 0, x1), (2, 0, x2), (3, 0, x3), (4, 0, x4), (5, 1, (h 91 (72 * (h 88 3) + 6 * x4 + x2)))]) dX13_joins_46 rfl (by decide) rfl ?_
    refine z_aload_n (q := 49) 0 dX13_joins_48 rfl rfl ?_
    refine z_iload (q := 51) 4 dX13_joins_49 rfl rfl ?_
    refine z_iload_n (q := 52) 2 dX13_joins_51 rfl rfl ?_
    refine z_iconst (q := 53) dX13_joins_52 rfl ?_
    refine z_iadd (q := 54) dX13_joins_53 rfl ?_
    have e2 := a_X13_cellAt (D := D) (G := G) (h := h) (d := d - 1) (by omega) x4 (x2 + 1) (h 88 3) (h 91 (72 * (h 88 3) + 6 * x4 + (x2 + 1))) rfl (p5 c1) (p6 c1) rfl
    refine z_goV (q := 57) (av := [(0, x4), (0, (x2 + 1))]) (rest := []) cb11 (hl0.i 88 (by decide) rfl) (z_tol) hl0 (z_El.K e2 (by omega) ?_) mo_X13_cellAt np_X13_cellAt k1507 k1509 k63 rfl (nle rfl) dX13_joins_54 rfl
    refine z_lstore (q := 59) (L' := [(0, 2, 88), (1, 0, x1), (2, 0, x2), (3, 0, x3), (4, 0, x4), (5, 1, (h 91 (72 * (h 88 3) + 6 * x4 + x2))), (7, 1, (h 91 (72 * (h 88 3) + 6 * x4 + (x2 + 1))))]) dX13_joins_57 rfl (by decide) rfl ?_
    refine z_lload (q := 61) 6 dX13_joins_59 rfl rfl ?_
    have e3 := a_X13_length (D := D) (G := G) (h := h) (d := d - 1) (by omega) (h 91 (72 * (h 88 3) + 6 * x4 + (x2 + 1))) (p7 c1) (p8 c1)
    refine z_goS (q := 64) (av := [(1, (h 91 (72 * (h 88 3) + 6 * x4 + (x2 + 1))))]) (rest := []) (z_toi) hl0 (z_Ei.K e3 (by omega) ?_) mo_X13_length np_X13_length k1466 k1467 rfl (nle rfl) dX13_joins_61 rfl
    refine z_istore (q := 66) (L' := [(0, 2, 88), (1, 0, x1), (2, 0, x2), (3, 0, x3), (4, 0, x4), (5, 1, (h 91 (72 * (h 88 3) + 6 * x4 + x2))), (7, 1, (h 91 (72 * (h 88 3) + 6 * x4 + (x2 + 1)))), (9, 0, (zlen (h 91 (72 * (h 88 3) + 6 * x4 + (x2 + 1)))))]) dX13_joins_64 rfl (by decide) rfl ?_
    refine z_lload (q := 68) 5 dX13_joins_66 rfl rfl ?_
    have e4 := a_X13_length (D := D) (G := G) (h := h) (d := d - 1) (by omega) (h 91 (72 * (h 88 3) + 6 * x4 + x2)) (p9 c1) (p10 c1)
    refine z_goS (q := 71) (av := [(1, (h 91 (72 * (h 88 3) + 6 * x4 + x2)))]) (rest := []) (z_toi) hl0 (z_Ei.K e4 (by omega) ?_) mo_X13_length np_X13_length k1466 k1467 rfl (nle rfl) dX13_joins_68 rfl
    refine z_iconst (q := 72) dX13_joins_71 rfl ?_
    refine z_iadd (q := 73) dX13_joins_72 rfl ?_
    refine z_iload (q := 75) 7 dX13_joins_73 rfl rfl ?_
    refine z_iadd (q := 76) dX13_joins_75 rfl ?_
    refine z_bipush (q := 78) dX13_joins_76 rfl (by decide) ?_
    refine z_icmp_le (q := 81) (t := 83) (p11 c1) ⟨by decide, by decide⟩ dX13_joins_78 (by decide) rfl (fun c2 => ?_) (fun c2 => ?_)
    · refine z_iconst (q := 84) dX13_joins_83 rfl ?_
      refine z_istore (q := 86) (L' := [(0, 2, 88), (1, 0, x1), (2, 0, x2), (3, 0, x3), (4, 0, x4), (5, 1, (h 91 (72 * (h 88 3) + 6 * x4 + x2))), (7, 1, (h 91 (72 * (h 88 3) + 6 * x4 + (x2 + 1)))), (9, 0, (zlen (h 91 (72 * (h 88 3) + 6 * x4 + (x2 + 1))))), (10, 0, 0)]) dX13_joins_84 rfl (by decide) rfl ?_
      exact u2 c1 c2 hl0
    · refine z_iconst (q := 82) dX13_joins_81 rfl ?_
      exact z_bret rfl (by decide) dX13_joins_82 ⟨hl0, u3 c1 c2⟩
theorem b_X13_joins_86 {D : zD} {d : Nat} {G : zG} {h : zH} {Q : zO → zG → zH → Prop} {x1 x10 x2 x3 x4 x5 x7 x9 : Int} (hd : 3 ≤ d) (p1 : z_in x10) (p2 : z_in x1) (p3 : x1 ≤ x10 → 0 ≤ x3) (p4 : x1 ≤ x10 → x3 < 4) (p5 : x1 ≤ x10 → z_in (zmb x3)) (p6 : x1 ≤ x10 → 0 ≤ (72 * 10 + 6 * x4 + x2)) (p7 : x1 ≤ x10 → (72 * 10 + 6 * x4 + x2) < 864) (p8 : ¬ (x1 ≤ x10) → z_in x2) (p9 : ¬ (x1 ≤ x10) → ¬ (x10 < x2) → z_in (x2 + 1))
    (u1 : x1 ≤ x10 → z_Y D M_X13_joins d 30 [(0, 2, 88), (1, 0, x1), (2, 0, x2), (3, 0, x3), (4, 0, (x4 + 1))] [] G (z_wr h 91 (72 * 10 + 6 * x4 + x2) (z_lor (z_lshl (z_lor (z_lshl x5 8) (zmb x3)) (8 * x9)) x7)) Q)
    (u2 : ¬ (x1 ≤ x10) → x10 < x2 → z_Y D M_X13_joins d 106 [(0, 2, 88), (1, 0, x1), (2, 0, x2), (3, 0, x3), (4, 0, x4), (5, 1, x5), (7, 1, x7), (9, 0, x9), (10, 0, x10)] [] G h Q)
    (u3 : ¬ (x1 ≤ x10) → ¬ (x10 < x2) → x10 ≤ (x2 + 1) → z_Y D M_X13_joins d 86 [(0, 2, 88), (1, 0, x1), (2, 0, x2), (3, 0, x3), (4, 0, x4), (5, 1, x5), (7, 1, x7), (9, 0, x9), (10, 0, (x10 + 1))] [] G h Q)
    (u4 : ¬ (x1 ≤ x10) → ¬ (x10 < x2) → ¬ (x10 ≤ (x2 + 1)) → z_Y D M_X13_joins d 106 [(0, 2, 88), (1, 0, x1), (2, 0, x2), (3, 0, x3), (4, 0, x4), (5, 1, x5), (7, 1, x7), (9, 0, x9), (10, 0, x10)] [] G h Q) :
    z_Y D M_X13_joins d 86 [(0, 2, 88), (1, 0, x1), (2, 0, x2), (3, 0, x3), (4, 0, x4), (5, 1, x5), (7, 1, x7), (9, 0, x9), (10, 0, x10)] [] G h Q := by
  intro hl0
  refine z_iload (q := 88) 8 dX13_joins_86 rfl rfl ?_
  refine z_iload_n (q := 89) 1 dX13_joins_88 rfl rfl ?_
  refine z_icmp_ge (q := 92) (t := 141) p1 p2 dX13_joins_89 (by decide) rfl (fun c1 => ?_) (fun c1 => ?_)
  · refine z_aload_n (q := 142) 0 dX13_joins_141 rfl rfl ?_
    refine z_iload (q := 144) 4 dX13_joins_142 rfl rfl ?_
    refine z_iload_n (q := 145) 2 dX13_joins_144 rfl rfl ?_
    refine z_lload (q := 147) 5 dX13_joins_145 rfl rfl ?_
    refine z_bipush (q := 149) dX13_joins_147 rfl (by decide) ?_
    refine z_r_lshl (q := 150) dX13_joins_149 rfl ?_
    refine z_iload_n (q := 151) 3 dX13_joins_150 rfl rfl ?_
    have e1 := a_X13_markOf (D := D) (G := G) (h := h) (d := d - 1) (by omega) x3 (p3 c1) (p4 c1)
    refine z_goS (q := 154) (av := [(0, x3)]) (rest := [(1, (z_lshl x5 8)), (0, x2), (0, x4), (2, 88)]) (z_toi) hl0 (z_Ei.K e1 (by omega) ?_) mo_X13_markOf np_X13_markOf k1519 k1520 rfl (nle rfl) dX13_joins_151 rfl
    refine z_i2l (q := 155) (p5 c1) dX13_joins_154 rfl ?_
    refine z_r_lor (q := 156) dX13_joins_155 rfl ?_
    refine z_bipush (q := 158) dX13_joins_156 rfl (by decide) ?_
    refine z_iload (q := 160) 7 dX13_joins_158 rfl rfl ?_
    refine z_imul (q := 161) dX13_joins_160 rfl ?_
    refine z_r_lshl (q := 162) dX13_joins_161 rfl ?_
    refine z_lload (q := 164) 6 dX13_joins_162 rfl rfl ?_
    refine z_r_lor (q := 165) dX13_joins_164 rfl ?_
    have e2 := a_X13_put (D := D) (G := G) (h := h) (d := d - 1) (by omega) x4 x2 (z_lor (z_lshl (z_lor (z_lshl x5 8) (zmb x3)) (8 * x9)) x7) (p6 c1) (p7 c1)
    refine z_goV (q := 168) (av := [(0, x4), (0, x2), (1, (z_lor (z_lshl (z_lor (z_lshl x5 8) (zmb x3)) (8 * x9)) x7))]) (rest := []) cb11 (hl0.i 88 (by decide) rfl) (z_tov) hl0 (z_Ev.K e2 (by omega) ?_) mo_X13_put np_X13_put k1341 k1343 k47 rfl (nle rfl) dX13_joins_165 rfl
    have hl1 : lay G (z_wr h 91 (72 * 10 + 6 * x4 + x2) (z_lor (z_lshl (z_lor (z_lshl x5 8) (zmb x3)) (8 * x9)) x7)) := e2.lay hl0
    refine z_iinc (q := 171) (L' := [(0, 2, 88), (1, 0, x1), (2, 0, x2), (3, 0, x3), (4, 0, (x4 + 1)), (5, 1, x5), (7, 1, x7), (9, 0, x9), (10, 0, x10)]) 4 dX13_joins_168 rfl rfl (by decide) rfl ?_
    refine z_goto (t := 30) dX13_joins_171 (by decide) ?_
    refine z_sub (L' := [(0, 2, 88), (1, 0, x1), (2, 0, x2), (3, 0, x3), (4, 0, (x4 + 1))]) [0, 1, 2, 3, 4] rfl ?_
    exact u1 c1 hl1
  · refine z_iload (q := 94) 8 dX13_joins_92 rfl rfl ?_
    refine z_iload_n (q := 95) 2 dX13_joins_94 rfl rfl ?_
    refine z_icmp_lt (q := 98) (t := 106) p1 (p8 c1) dX13_joins_95 (by decide) rfl (fun c2 => ?_) (fun c2 => ?_)
    · exact u2 c1 c2 hl0
    · refine z_iload (q := 100) 8 dX13_joins_98 rfl rfl ?_
      refine z_iload_n (q := 101) 2 dX13_joins_100 rfl rfl ?_
      refine z_iconst (q := 102) dX13_joins_101 rfl ?_
      refine z_iadd (q := 103) dX13_joins_102 rfl ?_
      refine z_icmp_le (q := 106) (t := 135) p1 (p9 c1 c2) dX13_joins_103 (by decide) rfl (fun c3 => ?_) (fun c3 => ?_)
      · refine z_iinc (q := 138) (L' := [(0, 2, 88), (1, 0, x1), (2, 0, x2), (3, 0, x3), (4, 0, x4), (5, 1, x5), (7, 1, x7), (9, 0, x9), (10, 0, (x10 + 1))]) 8 dX13_joins_135 rfl rfl (by decide) rfl ?_
        refine z_goto (t := 86) dX13_joins_138 (by decide) ?_
        exact u3 c1 c2 c3 hl0
      · exact u4 c1 c2 c3 hl0
theorem b_X13_joins_106 {D : zD} {d : Nat} {G : zG} {h : zH} {Q : zO → zG → zH → Prop} {x1 x10 x2 x3 x4 x5 x7 x9 : Int} (p1 : z_in x10) (p2 : z_in x2)
    (u1 : x2 ≤ x10 → z_Y D M_X13_joins d 124 [(0, 2, 88), (1, 0, x1), (2, 0, x2), (3, 0, x3), (4, 0, x4), (5, 1, x5), (7, 1, x7), (9, 0, x9), (10, 0, x10)] [(0, (x10 - 1)), (0, x4), (2, 88)] G h Q)
    (u2 : ¬ (x2 ≤ x10) → z_Y D M_X13_joins d 124 [(0, 2, 88), (1, 0, x1), (2, 0, x2), (3, 0, x3), (4, 0, x4), (5, 1, x5), (7, 1, x7), (9, 0, x9), (10, 0, x10)] [(0, x10), (0, x4), (2, 88)] G h Q) :
    z_Y D M_X13_joins d 106 [(0, 2, 88), (1, 0, x1), (2, 0, x2), (3, 0, x3), (4, 0, x4), (5, 1, x5), (7, 1, x7), (9, 0, x9), (10, 0, x10)] [] G h Q := by
  intro hl0
  refine z_aload_n (q := 107) 0 dX13_joins_106 rfl rfl ?_
  refine z_iload (q := 109) 4 dX13_joins_107 rfl rfl ?_
  refine z_iload (q := 111) 8 dX13_joins_109 rfl rfl ?_
  refine z_iload_n (q := 112) 2 dX13_joins_111 rfl rfl ?_
  refine z_icmp_ge (q := 115) (t := 120) p1 p2 dX13_joins_112 (by decide) rfl (fun c1 => ?_) (fun c1 => ?_)
  · refine z_iload (q := 122) 8 dX13_joins_120 rfl rfl ?_
    refine z_iconst (q := 123) dX13_joins_122 rfl ?_
    refine z_isub (q := 124) dX13_joins_123 rfl ?_
    exact u1 c1 hl0
  · refine z_iload (q := 117) 8 dX13_joins_115 rfl rfl ?_
    refine z_goto (t := 124) dX13_joins_117 (by decide) ?_
    exact u2 c1 hl0
theorem b_X13_joins_124 {D : zD} {d : Nat} {G : zG} {h : zH} {Q : zO → zG → zH → Prop} {s1 s2 x1 x10 x2 x3 x4 x5 x7 x9 : Int} (hd : 3 ≤ d) (p1 : 0 ≤ (72 * (h 88 3) + 6 * x4 + x10)) (p2 : (72 * (h 88 3) + 6 * x4 + x10) < 864) (p3 : 0 ≤ (72 * 10 + 6 * s1 + s2)) (p4 : (72 * 10 + 6 * s1 + s2) < 864)
    (u1 : z_Y D M_X13_joins d 86 [(0, 2, 88), (1, 0, x1), (2, 0, x2), (3, 0, x3), (4, 0, x4), (5, 1, x5), (7, 1, x7), (9, 0, x9), (10, 0, (x10 + 1))] [] G (z_wr h 91 (72 * 10 + 6 * s1 + s2) (h 91 (72 * (h 88 3) + 6 * x4 + x10))) Q) :
    z_Y D M_X13_joins d 124 [(0, 2, 88), (1, 0, x1), (2, 0, x2), (3, 0, x3), (4, 0, x4), (5, 1, x5), (7, 1, x7), (9, 0, x9), (10, 0, x10)] [(0, s2), (0, s1), (2, 88)] G h Q := by
  intro hl0
  refine z_aload_n (q := 125) 0 dX13_joins_124 rfl rfl ?_
  refine z_iload (q := 127) 4 dX13_joins_125 rfl rfl ?_
  refine z_iload (q := 129) 8 dX13_joins_127 rfl rfl ?_
  have e1 := a_X13_cellAt (D := D) (G := G) (h := h) (d := d - 1) (by omega) x4 x10 (h 88 3) (h 91 (72 * (h 88 3) + 6 * x4 + x10)) rfl p1 p2 rfl
  refine z_goV (q := 132) (av := [(0, x4), (0, x10)]) (rest := [(0, s2), (0, s1), (2, 88)]) cb11 (hl0.i 88 (by decide) rfl) (z_tol) hl0 (z_El.K e1 (by omega) ?_) mo_X13_cellAt np_X13_cellAt k1507 k1509 k63 rfl (nle rfl) dX13_joins_129 rfl
  have e2 := a_X13_put (D := D) (G := G) (h := h) (d := d - 1) (by omega) s1 s2 (h 91 (72 * (h 88 3) + 6 * x4 + x10)) p3 p4
  refine z_goV (q := 135) (av := [(0, s1), (0, s2), (1, (h 91 (72 * (h 88 3) + 6 * x4 + x10)))]) (rest := []) cb11 (hl0.i 88 (by decide) rfl) (z_tov) hl0 (z_Ev.K e2 (by omega) ?_) mo_X13_put np_X13_put k1341 k1343 k47 rfl (nle rfl) dX13_joins_132 rfl
  have hl1 : lay G (z_wr h 91 (72 * 10 + 6 * s1 + s2) (h 91 (72 * (h 88 3) + 6 * x4 + x10))) := e2.lay hl0
  refine z_iinc (q := 138) (L' := [(0, 2, 88), (1, 0, x1), (2, 0, x2), (3, 0, x3), (4, 0, x4), (5, 1, x5), (7, 1, x7), (9, 0, x9), (10, 0, (x10 + 1))]) 8 dX13_joins_135 rfl rfl (by decide) rfl ?_
  refine z_goto (t := 86) dX13_joins_138 (by decide) ?_
  exact u1 hl1
theorem b_X13_folds_0 {D : zD} {d : Nat} {G : zG} {h : zH} {Q : zO → zG → zH → Prop} {x1 x2 : Int} (p1 : z_in x2) (p2 : ¬ (x2 < 1) → z_in (h 88 4)) (p3 : ¬ (x2 < 1) → ¬ ((h 88 4) < 2) → z_in (((h 88 4) - 1) * (x1 - x2))) (p4 : ¬ (x2 < 1) → ¬ ((h 88 4) < 2) → ¬ (12 < (((h 88 4) - 1) * (x1 - x2))) → z_in (x2 + 2))
    (u1 : x2 < 1 → Q (.inl (some (0, 0))) G h)
    (u2 : ¬ (x2 < 1) → (h 88 4) < 2 → Q (.inl (some (0, 0))) G h)
    (u3 : ¬ (x2 < 1) → ¬ ((h 88 4) < 2) → 12 < (((h 88 4) - 1) * (x1 - x2)) → Q (.inl (some (0, 0))) G h)
    (u4 : ¬ (x2 < 1) → ¬ ((h 88 4) < 2) → ¬ (12 < (((h 88 4) - 1) * (x1 - x2))) → (x2 + 2) ≤ 6 → z_Kv D M_X13_shape d [(2, 88), (0, 10), (0, (((h 88 4) - 1) * (x1 - x2))), (0, (x2 + 2))] G h (fun G' h' => z_Y D M_X13_folds d 57 [(0, 2, 88), (1, 0, x1), (2, 0, x2)] [] G' h' Q))
    (u5 : ¬ (x2 < 1) → ¬ ((h 88 4) < 2) → ¬ (12 < (((h 88 4) - 1) * (x1 - x2))) → ¬ ((x2 + 2) ≤ 6) → Q (.inl (some (0, 0))) G h) :
    z_Y D M_X13_folds d 0 [(0, 2, 88), (1, 0, x1), (2, 0, x2)] [] G h Q := by
  intro hl0
  refine z_iload_n (q := 1) 2 dX13_folds_0 rfl rfl ?_
  refine z_iconst (q := 2) dX13_folds_1 rfl ?_
  refine z_icmp_lt (q := 5) (t := 36) p1 ⟨by decide, by decide⟩ dX13_folds_2 (by decide) rfl (fun c1 => ?_) (fun c1 => ?_)
  · refine z_iconst (q := 37) dX13_folds_36 rfl ?_
    exact z_bret rfl (by decide) dX13_folds_37 ⟨hl0, u1 c1⟩
  · refine z_aload_n (q := 6) 0 dX13_folds_5 rfl rfl ?_
    refine z_gf (q := 9) (ki := 4) (v := (0, (h 88 4))) fX13_126 rfl rfl (hl0.i 88 (by decide) rfl) dX13_folds_6 rfl ?_
    refine z_iconst (q := 10) dX13_folds_9 rfl ?_
    refine z_icmp_lt (q := 13) (t := 36) (p2 c1) ⟨by decide, by decide⟩ dX13_folds_10 (by decide) rfl (fun c2 => ?_) (fun c2 => ?_)
    · refine z_iconst (q := 37) dX13_folds_36 rfl ?_
      exact z_bret rfl (by decide) dX13_folds_37 ⟨hl0, u2 c1 c2⟩
    · refine z_aload_n (q := 14) 0 dX13_folds_13 rfl rfl ?_
      refine z_gf (q := 17) (ki := 4) (v := (0, (h 88 4))) fX13_126 rfl rfl (hl0.i 88 (by decide) rfl) dX13_folds_14 rfl ?_
      refine z_iconst (q := 18) dX13_folds_17 rfl ?_
      refine z_isub (q := 19) dX13_folds_18 rfl ?_
      refine z_iload_n (q := 20) 1 dX13_folds_19 rfl rfl ?_
      refine z_iload_n (q := 21) 2 dX13_folds_20 rfl rfl ?_
      refine z_isub (q := 22) dX13_folds_21 rfl ?_
      refine z_imul (q := 23) dX13_folds_22 rfl ?_
      refine z_bipush (q := 25) dX13_folds_23 rfl (by decide) ?_
      refine z_icmp_gt (q := 28) (t := 36) (p3 c1 c2) ⟨by decide, by decide⟩ dX13_folds_25 (by decide) rfl (fun c3 => ?_) (fun c3 => ?_)
      · refine z_iconst (q := 37) dX13_folds_36 rfl ?_
        exact z_bret rfl (by decide) dX13_folds_37 ⟨hl0, u3 c1 c2 c3⟩
      · refine z_iload_n (q := 29) 2 dX13_folds_28 rfl rfl ?_
        refine z_iconst (q := 30) dX13_folds_29 rfl ?_
        refine z_iadd (q := 31) dX13_folds_30 rfl ?_
        refine z_bipush (q := 33) dX13_folds_31 rfl (by decide) ?_
        refine z_icmp_le (q := 36) (t := 38) (p4 c1 c2 c3) ⟨by decide, by decide⟩ dX13_folds_33 (by decide) rfl (fun c4 => ?_) (fun c4 => ?_)
        · refine z_aload_n (q := 39) 0 dX13_folds_38 rfl rfl ?_
          refine z_bipush (q := 41) dX13_folds_39 rfl (by decide) ?_
          refine z_aload_n (q := 42) 0 dX13_folds_41 rfl rfl ?_
          refine z_gf (q := 45) (ki := 4) (v := (0, (h 88 4))) fX13_126 rfl rfl (hl0.i 88 (by decide) rfl) dX13_folds_42 rfl ?_
          refine z_iconst (q := 46) dX13_folds_45 rfl ?_
          refine z_isub (q := 47) dX13_folds_46 rfl ?_
          refine z_iload_n (q := 48) 1 dX13_folds_47 rfl rfl ?_
          refine z_iload_n (q := 49) 2 dX13_folds_48 rfl rfl ?_
          refine z_isub (q := 50) dX13_folds_49 rfl ?_
          refine z_imul (q := 51) dX13_folds_50 rfl ?_
          refine z_iload_n (q := 52) 2 dX13_folds_51 rfl rfl ?_
          refine z_iconst (q := 53) dX13_folds_52 rfl ?_
          refine z_iadd (q := 54) dX13_folds_53 rfl ?_
          exact z_goV (q := 57) (av := [(0, 10), (0, (((h 88 4) - 1) * (x1 - x2))), (0, (x2 + 2))]) (rest := []) cb11 (hl0.i 88 (by decide) rfl) z_tov hl0 (u4 c1 c2 c3 c4) mo_X13_shape np_X13_shape k1319 k1321 k44 rfl (nle rfl) dX13_folds_54 rfl
        · refine z_iconst (q := 37) dX13_folds_36 rfl ?_
          exact z_bret rfl (by decide) dX13_folds_37 ⟨hl0, u5 c1 c2 c3 c4⟩
theorem b_X13_folds_57 {D : zD} {d : Nat} {G : zG} {h : zH} {Q : zO → zG → zH → Prop} {x1 x2 : Int}
    (u1 : z_Y D M_X13_folds d 62 [(0, 2, 88), (1, 0, x1), (2, 0, x2), (3, 0, 0), (4, 0, 1)] [] G h Q) :
    z_Y D M_X13_folds d 57 [(0, 2, 88), (1, 0, x1), (2, 0, x2)] [] G h Q := by
  intro hl0
  refine z_iconst (q := 58) dX13_folds_57 rfl ?_
  refine z_istore_n (q := 59) (L' := [(0, 2, 88), (1, 0, x1), (2, 0, x2), (3, 0, 0)]) dX13_folds_58 rfl (by decide) rfl ?_
  refine z_iconst (q := 60) dX13_folds_59 rfl ?_
  refine z_istore (q := 62) (L' := [(0, 2, 88), (1, 0, x1), (2, 0, x2), (3, 0, 0), (4, 0, 1)]) dX13_folds_60 rfl (by decide) rfl ?_
  exact u1 hl0
theorem b_X13_folds_62 {D : zD} {d : Nat} {G : zG} {h : zH} {Q : zO → zG → zH → Prop} {x1 x2 x3 x4 : Int} (p1 : z_in x4) (p2 : z_in (h 88 4))
    (u1 : (h 88 4) ≤ x4 → Q (.inl (some (0, 1))) G h)
    (u2 : ¬ ((h 88 4) ≤ x4) → z_Y D M_X13_folds d 74 [(0, 2, 88), (1, 0, x1), (2, 0, x2), (3, 0, x3), (4, 0, x4), (5, 0, x2)] [] G h Q) :
    z_Y D M_X13_folds d 62 [(0, 2, 88), (1, 0, x1), (2, 0, x2), (3, 0, x3), (4, 0, x4)] [] G h Q := by
  intro hl0
  refine z_iload (q := 64) 4 dX13_folds_62 rfl rfl ?_
  refine z_aload_n (q := 65) 0 dX13_folds_64 rfl rfl ?_
  refine z_gf (q := 68) (ki := 4) (v := (0, (h 88 4))) fX13_126 rfl rfl (hl0.i 88 (by decide) rfl) dX13_folds_65 rfl ?_
  refine z_icmp_ge (q := 71) (t := 154) p1 p2 dX13_folds_68 (by decide) rfl (fun c1 => ?_) (fun c1 => ?_)
  · refine z_iconst (q := 155) dX13_folds_154 rfl ?_
    exact z_bret rfl (by decide) dX13_folds_155 ⟨hl0, u1 c1⟩
  · refine z_iload_n (q := 72) 2 dX13_folds_71 rfl rfl ?_
    refine z_istore (q := 74) (L' := [(0, 2, 88), (1, 0, x1), (2, 0, x2), (3, 0, x3), (4, 0, x4), (5, 0, x2)]) dX13_folds_72 rfl (by decide) rfl ?_
    exact u2 c1 hl0
theorem b_X13_folds_74 {D : zD} {d : Nat} {G : zG} {h : zH} {Q : zO → zG → zH → Prop} {x1 x2 x3 x4 x5 : Int} (p1 : z_in x5) (p2 : z_in x1)
    (u1 : x1 ≤ x5 → z_Y D M_X13_folds d 62 [(0, 2, 88), (1, 0, x1), (2, 0, x2), (3, 0, x3), (4, 0, (x4 + 1))] [] G h Q)
    (u2 : ¬ (x1 ≤ x5) → z_Y D M_X13_folds d 83 [(0, 2, 88), (1, 0, x1), (2, 0, x2), (3, 0, x3), (4, 0, x4), (5, 0, x5), (6, 0, 0)] [] G h Q) :
    z_Y D M_X13_folds d 74 [(0, 2, 88), (1, 0, x1), (2, 0, x2), (3, 0, x3), (4, 0, x4), (5, 0, x5)] [] G h Q := by
  intro hl0
  refine z_iload (q := 76) 5 dX13_folds_74 rfl rfl ?_
  refine z_iload_n (q := 77) 1 dX13_folds_76 rfl rfl ?_
  refine z_icmp_ge (q := 80) (t := 148) p1 p2 dX13_folds_77 (by decide) rfl (fun c1 => ?_) (fun c1 => ?_)
  · refine z_iinc (q := 151) (L' := [(0, 2, 88), (1, 0, x1), (2, 0, x2), (3, 0, x3), (4, 0, (x4 + 1)), (5, 0, x5)]) 4 dX13_folds_148 rfl rfl (by decide) rfl ?_
    refine z_goto (t := 62) dX13_folds_151 (by decide) ?_
    refine z_sub (L' := [(0, 2, 88), (1, 0, x1), (2, 0, x2), (3, 0, x3), (4, 0, (x4 + 1))]) [0, 1, 2, 3, 4] rfl ?_
    exact u1 c1 hl0
  · refine z_iconst (q := 81) dX13_folds_80 rfl ?_
    refine z_istore (q := 83) (L' := [(0, 2, 88), (1, 0, x1), (2, 0, x2), (3, 0, x3), (4, 0, x4), (5, 0, x5), (6, 0, 0)]) dX13_folds_81 rfl (by decide) rfl ?_
    exact u2 c1 hl0
theorem b_X13_folds_83 {D : zD} {d : Nat} {G : zG} {h : zH} {Q : zO → zG → zH → Prop} {x1 x2 x3 x4 x5 x6 : Int} (hd : 3 ≤ d) (p1 : z_in x6) (p2 : z_in x2) (p3 : x2 ≤ x6 → 0 ≤ (72 * (h 88 3) + 6 * 0 + x5)) (p4 : x2 ≤ x6 → (72 * (h 88 3) + 6 * 0 + x5) < 864) (p5 : x2 ≤ x6 → 0 ≤ (72 * 10 + 6 * x3 + x2)) (p6 : x2 ≤ x6 → (72 * 10 + 6 * x3 + x2) < 864) (p7 : x2 ≤ x6 → 0 ≤ (72 * (h 88 3) + 6 * x4 + x5)) (p8 : x2 ≤ x6 → (72 * (h 88 3) + 6 * x4 + x5) < 864) (p9 : x2 ≤ x6 → 0 ≤ (72 * 10 + 6 * x3 + (x2 + 1))) (p10 : x2 ≤ x6 → (72 * 10 + 6 * x3 + (x2 + 1)) < 864) (p11 : ¬ (x2 ≤ x6) → 0 ≤ (72 * (h 88 3) + 6 * x4 + x6)) (p12 : ¬ (x2 ≤ x6) → (72 * (h 88 3) + 6 * x4 + x6) < 864) (p13 : ¬ (x2 ≤ x6) → 0 ≤ (72 * 10 + 6 * x3 + x6)) (p14 : ¬ (x2 ≤ x6) → (72 * 10 + 6 * x3 + x6) < 864)
    (u1 : x2 ≤ x6 → z_Y D M_X13_folds d 74 [(0, 2, 88), (1, 0, x1), (2, 0, x2), (3, 0, (x3 + 1)), (4, 0, x4), (5, 0, (x5 + 1))] [] G (z_wr (z_wr h 91 (72 * 10 + 6 * x3 + x2) (h 91 (72 * (h 88 3) + 6 * 0 + x5))) 91 (72 * 10 + 6 * x3 + (x2 + 1)) ((z_wr h 91 (72 * 10 + 6 * x3 + x2) (h 91 (72 * (h 88 3) + 6 * 0 + x5))) 91 (72 * (h 88 3) + 6 * x4 + x5))) Q)
    (u2 : ¬ (x2 ≤ x6) → z_Y D M_X13_folds d 83 [(0, 2, 88), (1, 0, x1), (2, 0, x2), (3, 0, x3), (4, 0, x4), (5, 0, x5), (6, 0, (x6 + 1))] [] G (z_wr h 91 (72 * 10 + 6 * x3 + x6) (h 91 (72 * (h 88 3) + 6 * x4 + x6))) Q) :
    z_Y D M_X13_folds d 83 [(0, 2, 88), (1, 0, x1), (2, 0, x2), (3, 0, x3), (4, 0, x4), (5, 0, x5), (6, 0, x6)] [] G h Q := by
  intro hl0
  refine z_iload (q := 85) 6 dX13_folds_83 rfl rfl ?_
  refine z_iload_n (q := 86) 2 dX13_folds_85 rfl rfl ?_
  refine z_icmp_ge (q := 89) (t := 110) p1 p2 dX13_folds_86 (by decide) rfl (fun c1 => ?_) (fun c1 => ?_)
  · refine z_aload_n (q := 111) 0 dX13_folds_110 rfl rfl ?_
    refine z_iload_n (q := 112) 3 dX13_folds_111 rfl rfl ?_
    refine z_iload_n (q := 113) 2 dX13_folds_112 rfl rfl ?_
    refine z_aload_n (q := 114) 0 dX13_folds_113 rfl rfl ?_
    refine z_iconst (q := 115) dX13_folds_114 rfl ?_
    refine z_iload (q := 117) 5 dX13_folds_115 rfl rfl ?_
    have e1 := a_X13_cellAt (D := D) (G := G) (h := h) (d := d - 1) (by omega) 0 x5 (h 88 3) (h 91 (72 * (h 88 3) + 6 * 0 + x5)) rfl (p3 c1) (p4 c1) rfl
    refine z_goV (q := 120) (av := [(0, 0), (0, x5)]) (rest := [(0, x2), (0, x3), (2, 88)]) cb11 (hl0.i 88 (by decide) rfl) (z_tol) hl0 (z_El.K e1 (by omega) ?_) mo_X13_cellAt np_X13_cellAt k1507 k1509 k63 rfl (nle rfl) dX13_folds_117 rfl
    have e2 := a_X13_put (D := D) (G := G) (h := h) (d := d - 1) (by omega) x3 x2 (h 91 (72 * (h 88 3) + 6 * 0 + x5)) (p5 c1) (p6 c1)
    refine z_goV (q := 123) (av := [(0, x3), (0, x2), (1, (h 91 (72 * (h 88 3) + 6 * 0 + x5)))]) (rest := []) cb11 (hl0.i 88 (by decide) rfl) (z_tov) hl0 (z_Ev.K e2 (by omega) ?_) mo_X13_put np_X13_put k1341 k1343 k47 rfl (nle rfl) dX13_folds_120 rfl
    have hl1 : lay G (z_wr h 91 (72 * 10 + 6 * x3 + x2) (h 91 (72 * (h 88 3) + 6 * 0 + x5))) := e2.lay hl0
    refine z_aload_n (q := 124) 0 dX13_folds_123 rfl rfl ?_
    refine z_iload_n (q := 125) 3 dX13_folds_124 rfl rfl ?_
    refine z_iload_n (q := 126) 2 dX13_folds_125 rfl rfl ?_
    refine z_iconst (q := 127) dX13_folds_126 rfl ?_
    refine z_iadd (q := 128) dX13_folds_127 rfl ?_
    refine z_aload_n (q := 129) 0 dX13_folds_128 rfl rfl ?_
    refine z_iload (q := 131) 4 dX13_folds_129 rfl rfl ?_
    refine z_iload (q := 133) 5 dX13_folds_131 rfl rfl ?_
    have e3 := a_X13_cellAt (D := D) (G := G) (h := (z_wr h 91 (72 * 10 + 6 * x3 + x2) (h 91 (72 * (h 88 3) + 6 * 0 + x5)))) (d := d - 1) (by omega) x4 x5 (h 88 3) ((z_wr h 91 (72 * 10 + 6 * x3 + x2) (h 91 (72 * (h 88 3) + 6 * 0 + x5))) 91 (72 * (h 88 3) + 6 * x4 + x5)) (w_na (by decide)) (p7 c1) (p8 c1) rfl
    refine z_goV (q := 136) (av := [(0, x4), (0, x5)]) (rest := [(0, (x2 + 1)), (0, x3), (2, 88)]) cb11 (hl1.i 88 (by decide) rfl) (z_tol) hl1 (z_El.K e3 (by omega) ?_) mo_X13_cellAt np_X13_cellAt k1507 k1509 k63 rfl (nle rfl) dX13_folds_133 rfl
    have e4 := a_X13_put (D := D) (G := G) (h := (z_wr h 91 (72 * 10 + 6 * x3 + x2) (h 91 (72 * (h 88 3) + 6 * 0 + x5)))) (d := d - 1) (by omega) x3 (x2 + 1) ((z_wr h 91 (72 * 10 + 6 * x3 + x2) (h 91 (72 * (h 88 3) + 6 * 0 + x5))) 91 (72 * (h 88 3) + 6 * x4 + x5)) (p9 c1) (p10 c1)
    refine z_goV (q := 139) (av := [(0, x3), (0, (x2 + 1)), (1, ((z_wr h 91 (72 * 10 + 6 * x3 + x2) (h 91 (72 * (h 88 3) + 6 * 0 + x5))) 91 (72 * (h 88 3) + 6 * x4 + x5)))]) (rest := []) cb11 (hl1.i 88 (by decide) rfl) (z_tov) hl1 (z_Ev.K e4 (by omega) ?_) mo_X13_put np_X13_put k1341 k1343 k47 rfl (nle rfl) dX13_folds_136 rfl
    have hl2 : lay G (z_wr (z_wr h 91 (72 * 10 + 6 * x3 + x2) (h 91 (72 * (h 88 3) + 6 * 0 + x5))) 91 (72 * 10 + 6 * x3 + (x2 + 1)) ((z_wr h 91 (72 * 10 + 6 * x3 + x2) (h 91 (72 * (h 88 3) + 6 * 0 + x5))) 91 (72 * (h 88 3) + 6 * x4 + x5))) := e4.lay hl1
    refine z_iinc (q := 142) (L' := [(0, 2, 88), (1, 0, x1), (2, 0, x2), (3, 0, (x3 + 1)), (4, 0, x4), (5, 0, x5), (6, 0, x6)]) 3 dX13_folds_139 rfl rfl (by decide) rfl ?_
    refine z_iinc (q := 145) (L' := [(0, 2, 88), (1, 0, x1), (2, 0, x2), (3, 0, (x3 + 1)), (4, 0, x4), (5, 0, (x5 + 1)), (6, 0, x6)]) 5 dX13_folds_142 rfl rfl (by decide) rfl ?_
    refine z_goto (t := 74) dX13_folds_145 (by decide) ?_
    refine z_sub (L' := [(0, 2, 88), (1, 0, x1), (2, 0, x2), (3, 0, (x3 + 1)), (4, 0, x4), (5, 0, (x5 + 1))]) [0, 1, 2, 3, 4, 5] rfl ?_
    exact u1 c1 hl2
  · refine z_aload_n (q := 90) 0 dX13_folds_89 rfl rfl ?_
    refine z_iload_n (q := 91) 3 dX13_folds_90 rfl rfl ?_
    refine z_iload (q := 93) 6 dX13_folds_91 rfl rfl ?_
    refine z_aload_n (q := 94) 0 dX13_folds_93 rfl rfl ?_
    refine z_iload (q := 96) 4 dX13_folds_94 rfl rfl ?_
    refine z_iload (q := 98) 6 dX13_folds_96 rfl rfl ?_
    have e5 := a_X13_cellAt (D := D) (G := G) (h := h) (d := d - 1) (by omega) x4 x6 (h 88 3) (h 91 (72 * (h 88 3) + 6 * x4 + x6)) rfl (p11 c1) (p12 c1) rfl
    refine z_goV (q := 101) (av := [(0, x4), (0, x6)]) (rest := [(0, x6), (0, x3), (2, 88)]) cb11 (hl0.i 88 (by decide) rfl) (z_tol) hl0 (z_El.K e5 (by omega) ?_) mo_X13_cellAt np_X13_cellAt k1507 k1509 k63 rfl (nle rfl) dX13_folds_98 rfl
    have e6 := a_X13_put (D := D) (G := G) (h := h) (d := d - 1) (by omega) x3 x6 (h 91 (72 * (h 88 3) + 6 * x4 + x6)) (p13 c1) (p14 c1)
    refine z_goV (q := 104) (av := [(0, x3), (0, x6), (1, (h 91 (72 * (h 88 3) + 6 * x4 + x6)))]) (rest := []) cb11 (hl0.i 88 (by decide) rfl) (z_tov) hl0 (z_Ev.K e6 (by omega) ?_) mo_X13_put np_X13_put k1341 k1343 k47 rfl (nle rfl) dX13_folds_101 rfl
    have hl1 : lay G (z_wr h 91 (72 * 10 + 6 * x3 + x6) (h 91 (72 * (h 88 3) + 6 * x4 + x6))) := e6.lay hl0
    refine z_iinc (q := 107) (L' := [(0, 2, 88), (1, 0, x1), (2, 0, x2), (3, 0, x3), (4, 0, x4), (5, 0, x5), (6, 0, (x6 + 1))]) 6 dX13_folds_104 rfl rfl (by decide) rfl ?_
    refine z_goto (t := 83) dX13_folds_107 (by decide) ?_
    exact u2 c1 hl1
theorem b_X13_sorts_0 {D : zD} {d : Nat} {G : zG} {h : zH} {Q : zO → zG → zH → Prop} {x1 x2 : Int}
    (u1 : z_Y D M_X13_sorts d 5 [(0, 2, 88), (1, 0, x1), (2, 0, x2), (3, 0, 0), (4, 0, 0)] [] G h Q) :
    z_Y D M_X13_sorts d 0 [(0, 2, 88), (1, 0, x1), (2, 0, x2)] [] G h Q := by
  intro hl0
  refine z_iconst (q := 1) dX13_sorts_0 rfl ?_
  refine z_istore_n (q := 2) (L' := [(0, 2, 88), (1, 0, x1), (2, 0, x2), (3, 0, 0)]) dX13_sorts_1 rfl (by decide) rfl ?_
  refine z_iconst (q := 3) dX13_sorts_2 rfl ?_
  refine z_istore (q := 5) (L' := [(0, 2, 88), (1, 0, x1), (2, 0, x2), (3, 0, 0), (4, 0, 0)]) dX13_sorts_3 rfl (by decide) rfl ?_
  exact u1 hl0
theorem b_X13_sorts_5 {D : zD} {d : Nat} {G : zG} {h : zH} {Q : zO → zG → zH → Prop} {x1 x2 x3 x4 : Int} (p1 : z_in x4) (p2 : z_in (h 88 4))
    (u1 : (h 88 4) ≤ x4 → z_Kv D M_X13_rowsBy d [(2, 88), (0, (h 88 4)), (0, x1)] G h (fun G' h' => z_Y D M_X13_sorts d 102 [(3, 0, x3)] [] G' h' Q))
    (u2 : ¬ ((h 88 4) ≤ x4) → z_Y D M_X13_sorts d 18 [(0, 2, 88), (1, 0, x1), (2, 0, x2), (3, 0, x3), (4, 0, x4), (5, 0, x4)] [] G h Q) :
    z_Y D M_X13_sorts d 5 [(0, 2, 88), (1, 0, x1), (2, 0, x2), (3, 0, x3), (4, 0, x4)] [] G h Q := by
  intro hl0
  refine z_iload (q := 7) 4 dX13_sorts_5 rfl rfl ?_
  refine z_aload_n (q := 8) 0 dX13_sorts_7 rfl rfl ?_
  refine z_gf (q := 11) (ki := 4) (v := (0, (h 88 4))) fX13_126 rfl rfl (hl0.i 88 (by decide) rfl) dX13_sorts_8 rfl ?_
  refine z_icmp_ge (q := 14) (t := 93) p1 p2 dX13_sorts_11 (by decide) rfl (fun c1 => ?_) (fun c1 => ?_)
  · refine z_aload_n (q := 94) 0 dX13_sorts_93 rfl rfl ?_
    refine z_aload_n (q := 95) 0 dX13_sorts_94 rfl rfl ?_
    refine z_gf (q := 98) (ki := 4) (v := (0, (h 88 4))) fX13_126 rfl rfl (hl0.i 88 (by decide) rfl) dX13_sorts_95 rfl ?_
    refine z_iload_n (q := 99) 1 dX13_sorts_98 rfl rfl ?_
    refine z_sub (L' := [(3, 0, x3)]) [3] rfl ?_
    exact z_goV (q := 102) (av := [(0, (h 88 4)), (0, x1)]) (rest := []) cb11 (hl0.i 88 (by decide) rfl) z_tov hl0 (u1 c1) mo_X13_rowsBy np_X13_rowsBy k1560 k1562 k74 rfl (nle rfl) dX13_sorts_99 rfl
  · refine z_iload (q := 16) 4 dX13_sorts_14 rfl rfl ?_
    refine z_istore (q := 18) (L' := [(0, 2, 88), (1, 0, x1), (2, 0, x2), (3, 0, x3), (4, 0, x4), (5, 0, x4)]) dX13_sorts_16 rfl (by decide) rfl ?_
    exact u2 c1 hl0
theorem b_X13_sorts_102 {D : zD} {d : Nat} {G : zG} {h : zH} {Q : zO → zG → zH → Prop} {x3 : Int} (p1 : x3 = 0 ∨ x3 = 1)
    (u1 : Q (.inl (some (0, x3))) G h) :
    z_Y D M_X13_sorts d 102 [(3, 0, x3)] [] G h Q := by
  intro hl0
  refine z_iload_n (q := 103) 0 dX13_sorts_102 rfl rfl ?_
  exact z_bret rfl p1 dX13_sorts_103 ⟨hl0, u1⟩
theorem b_X13_sorts_18 {D : zD} {d : Nat} {G : zG} {h : zH} {Q : zO → zG → zH → Prop} {x1 x2 x3 x4 x5 : Int} (hd : 3 ≤ d) (p1 : z_in x5) (p2 : ¬ (x5 ≤ 0) → 0 ≤ (x5 - 1)) (p3 : ¬ (x5 ≤ 0) → (x5 - 1) < 12) (p4 : ¬ (x5 ≤ 0) → 0 ≤ (72 * (h 88 3) + 6 * (h 94 (x5 - 1)) + x2)) (p5 : ¬ (x5 ≤ 0) → (72 * (h 88 3) + 6 * (h 94 (x5 - 1)) + x2) < 864) (p6 : ¬ (x5 ≤ 0) → 0 ≤ (h 91 (72 * (h 88 3) + 6 * (h 94 (x5 - 1)) + x2))) (p7 : ¬ (x5 ≤ 0) → (h 91 (72 * (h 88 3) + 6 * (h 94 (x5 - 1)) + x2)) < 72057594037927936) (p8 : ¬ (x5 ≤ 0) → 0 ≤ (72 * (h 88 3) + 6 * x4 + x2)) (p9 : ¬ (x5 ≤ 0) → (72 * (h 88 3) + 6 * x4 + x2) < 864) (p10 : ¬ (x5 ≤ 0) → 0 ≤ (h 91 (72 * (h 88 3) + 6 * x4 + x2))) (p11 : ¬ (x5 ≤ 0) → (h 91 (72 * (h 88 3) + 6 * x4 + x2)) < 72057594037927936) (p12 : ¬ (x5 ≤ 0) → z_in64 (zkey (h 91 (72 * (h 88 3) + 6 * (h 94 (x5 - 1)) + x2)))) (p13 : ¬ (x5 ≤ 0) → z_in64 (zkey (h 91 (72 * (h 88 3) + 6 * x4 + x2)))) (p14 : ¬ (x5 ≤ 0) → ¬ ((zkey (h 91 (72 * (h 88 3) + 6 * (h 94 (x5 - 1)) + x2))) ≤ (zkey (h 91 (72 * (h 88 3) + 6 * x4 + x2)))) → 0 ≤ x5) (p15 : ¬ (x5 ≤ 0) → ¬ ((zkey (h 91 (72 * (h 88 3) + 6 * (h 94 (x5 - 1)) + x2))) ≤ (zkey (h 91 (72 * (h 88 3) + 6 * x4 + x2)))) → x5 < 12)
    (u1 : x5 ≤ 0 → z_Y D M_X13_sorts d 78 [(0, 2, 88), (1, 0, x1), (2, 0, x2), (3, 0, x3), (4, 0, x4), (5, 0, x5)] [] G h Q)
    (u2 : ¬ (x5 ≤ 0) → (zkey (h 91 (72 * (h 88 3) + 6 * (h 94 (x5 - 1)) + x2))) ≤ (zkey (h 91 (72 * (h 88 3) + 6 * x4 + x2))) → z_Y D M_X13_sorts d 78 [(0, 2, 88), (1, 0, x1), (2, 0, x2), (3, 0, x3), (4, 0, x4), (5, 0, x5)] [] G h Q)
    (u3 : ¬ (x5 ≤ 0) → ¬ ((zkey (h 91 (72 * (h 88 3) + 6 * (h 94 (x5 - 1)) + x2))) ≤ (zkey (h 91 (72 * (h 88 3) + 6 * x4 + x2)))) → z_Y D M_X13_sorts d 18 [(0, 2, 88), (1, 0, x1), (2, 0, x2), (3, 0, 1), (4, 0, x4), (5, 0, (x5 + (-1)))] [] G (z_wr h 94 x5 (h 94 (x5 - 1))) Q) :
    z_Y D M_X13_sorts d 18 [(0, 2, 88), (1, 0, x1), (2, 0, x2), (3, 0, x3), (4, 0, x4), (5, 0, x5)] [] G h Q := by
  intro hl0
  refine z_iload (q := 20) 5 dX13_sorts_18 rfl rfl ?_
  refine z_if_le (q := 23) (t := 78) p1 dX13_sorts_20 (by decide) rfl (fun c1 => ?_) (fun c1 => ?_)
  · exact u1 c1 hl0
  · refine z_aload_n (q := 24) 0 dX13_sorts_23 rfl rfl ?_
    refine z_aload_n (q := 25) 0 dX13_sorts_24 rfl rfl ?_
    refine z_gf (q := 28) (ki := 7) (v := (2, 94)) fX13_26 rfl (z_ldr rfl (hl0.ref 86 rfl)) (hl0.i 88 (by decide) rfl) dX13_sorts_25 rfl ?_
    refine z_iload (q := 30) 5 dX13_sorts_28 rfl rfl ?_
    refine z_iconst (q := 31) dX13_sorts_30 rfl ?_
    refine z_isub (q := 32) dX13_sorts_31 rfl ?_
    refine z_iale (q := 33) (v := (h 94 (x5 - 1))) (hl0.a 94 (by decide) rfl) (p2 c1) (p3 c1) rfl dX13_sorts_32 rfl ?_
    refine z_iload_n (q := 34) 2 dX13_sorts_33 rfl rfl ?_
    have e1 := a_X13_cellAt (D := D) (G := G) (h := h) (d := d - 1) (by omega) (h 94 (x5 - 1)) x2 (h 88 3) (h 91 (72 * (h 88 3) + 6 * (h 94 (x5 - 1)) + x2)) rfl (p4 c1) (p5 c1) rfl
    refine z_goV (q := 37) (av := [(0, (h 94 (x5 - 1))), (0, x2)]) (rest := []) cb11 (hl0.i 88 (by decide) rfl) (z_tol) hl0 (z_El.K e1 (by omega) ?_) mo_X13_cellAt np_X13_cellAt k1507 k1509 k63 rfl (nle rfl) dX13_sorts_34 rfl
    have e2 := a_X13_order (D := D) (G := G) (h := h) (d := d - 1) (by omega) (h 91 (72 * (h 88 3) + 6 * (h 94 (x5 - 1)) + x2)) (p6 c1) (p7 c1)
    refine z_goS (q := 40) (av := [(1, (h 91 (72 * (h 88 3) + 6 * (h 94 (x5 - 1)) + x2)))]) (rest := []) (z_tol) hl0 (z_El.K e2 (by omega) ?_) mo_X13_order np_X13_order k1557 k1558 rfl (nle rfl) dX13_sorts_37 rfl
    refine z_aload_n (q := 41) 0 dX13_sorts_40 rfl rfl ?_
    refine z_iload (q := 43) 4 dX13_sorts_41 rfl rfl ?_
    refine z_iload_n (q := 44) 2 dX13_sorts_43 rfl rfl ?_
    have e3 := a_X13_cellAt (D := D) (G := G) (h := h) (d := d - 1) (by omega) x4 x2 (h 88 3) (h 91 (72 * (h 88 3) + 6 * x4 + x2)) rfl (p8 c1) (p9 c1) rfl
    refine z_goV (q := 47) (av := [(0, x4), (0, x2)]) (rest := [(1, (zkey (h 91 (72 * (h 88 3) + 6 * (h 94 (x5 - 1)) + x2))))]) cb11 (hl0.i 88 (by decide) rfl) (z_tol) hl0 (z_El.K e3 (by omega) ?_) mo_X13_cellAt np_X13_cellAt k1507 k1509 k63 rfl (nle rfl) dX13_sorts_44 rfl
    have e4 := a_X13_order (D := D) (G := G) (h := h) (d := d - 1) (by omega) (h 91 (72 * (h 88 3) + 6 * x4 + x2)) (p10 c1) (p11 c1)
    refine z_goS (q := 50) (av := [(1, (h 91 (72 * (h 88 3) + 6 * x4 + x2)))]) (rest := [(1, (zkey (h 91 (72 * (h 88 3) + 6 * (h 94 (x5 - 1)) + x2))))]) (z_tol) hl0 (z_El.K e4 (by omega) ?_) mo_X13_order np_X13_order k1557 k1558 rfl (nle rfl) dX13_sorts_47 rfl
    refine z_lcmp_le (q := 54) (t := 78) (p12 c1) (p13 c1) dX13_sorts_50 (rfl : _ = 51) dX13_sorts_51 (by decide) rfl (fun c2 => ?_) (fun c2 => ?_)
    · exact u2 c1 c2 hl0
    · refine z_aload_n (q := 55) 0 dX13_sorts_54 rfl rfl ?_
      refine z_gf (q := 58) (ki := 7) (v := (2, 94)) fX13_26 rfl (z_ldr rfl (hl0.ref 86 rfl)) (hl0.i 88 (by decide) rfl) dX13_sorts_55 rfl ?_
      refine z_iload (q := 60) 5 dX13_sorts_58 rfl rfl ?_
      refine z_aload_n (q := 61) 0 dX13_sorts_60 rfl rfl ?_
      refine z_gf (q := 64) (ki := 7) (v := (2, 94)) fX13_26 rfl (z_ldr rfl (hl0.ref 86 rfl)) (hl0.i 88 (by decide) rfl) dX13_sorts_61 rfl ?_
      refine z_iload (q := 66) 5 dX13_sorts_64 rfl rfl ?_
      refine z_iconst (q := 67) dX13_sorts_66 rfl ?_
      refine z_isub (q := 68) dX13_sorts_67 rfl ?_
      refine z_iale (q := 69) (v := (h 94 (x5 - 1))) (hl0.a 94 (by decide) rfl) (p2 c1) (p3 c1) rfl dX13_sorts_68 rfl ?_
      refine z_isn (q := 70) (hl0.i 94 (by decide) rfl) (hl0.n 94 (by decide) rfl) (p14 c1 c2) (p15 c1 c2) dX13_sorts_69 rfl ?_
      have hl1 := hl0.wr (v := (h 94 (x5 - 1))) (hl0.i 94 (by decide) rfl) (i := x5) rfl
      refine z_iinc (q := 73) (L' := [(0, 2, 88), (1, 0, x1), (2, 0, x2), (3, 0, x3), (4, 0, x4), (5, 0, (x5 + (-1)))]) 5 dX13_sorts_70 rfl rfl (by decide) rfl ?_
      refine z_iconst (q := 74) dX13_sorts_73 rfl ?_
      refine z_istore_n (q := 75) (L' := [(0, 2, 88), (1, 0, x1), (2, 0, x2), (3, 0, 1), (4, 0, x4), (5, 0, (x5 + (-1)))]) dX13_sorts_74 rfl (by decide) rfl ?_
      refine z_goto (t := 18) dX13_sorts_75 (by decide) ?_
      exact u3 c1 c2 hl1
theorem b_X13_sorts_78 {D : zD} {d : Nat} {G : zG} {h : zH} {Q : zO → zG → zH → Prop} {x1 x2 x3 x4 x5 : Int} (p1 : 0 ≤ x5) (p2 : x5 < 12)
    (u1 : z_Y D M_X13_sorts d 5 [(0, 2, 88), (1, 0, x1), (2, 0, x2), (3, 0, x3), (4, 0, (x4 + 1))] [] G (z_wr h 94 x5 x4) Q) :
    z_Y D M_X13_sorts d 78 [(0, 2, 88), (1, 0, x1), (2, 0, x2), (3, 0, x3), (4, 0, x4), (5, 0, x5)] [] G h Q := by
  intro hl0
  refine z_aload_n (q := 79) 0 dX13_sorts_78 rfl rfl ?_
  refine z_gf (q := 82) (ki := 7) (v := (2, 94)) fX13_26 rfl (z_ldr rfl (hl0.ref 86 rfl)) (hl0.i 88 (by decide) rfl) dX13_sorts_79 rfl ?_
  refine z_iload (q := 84) 5 dX13_sorts_82 rfl rfl ?_
  refine z_iload (q := 86) 4 dX13_sorts_84 rfl rfl ?_
  refine z_isn (q := 87) (hl0.i 94 (by decide) rfl) (hl0.n 94 (by decide) rfl) p1 p2 dX13_sorts_86 rfl ?_
  have hl1 := hl0.wr (v := x4) (hl0.i 94 (by decide) rfl) (i := x5) rfl
  refine z_iinc (q := 90) (L' := [(0, 2, 88), (1, 0, x1), (2, 0, x2), (3, 0, x3), (4, 0, (x4 + 1)), (5, 0, x5)]) 4 dX13_sorts_87 rfl rfl (by decide) rfl ?_
  refine z_goto (t := 5) dX13_sorts_90 (by decide) ?_
  refine z_sub (L' := [(0, 2, 88), (1, 0, x1), (2, 0, x2), (3, 0, x3), (4, 0, (x4 + 1))]) [0, 1, 2, 3, 4] rfl ?_
  exact u1 hl1
theorem b_X13_singles_0 {D : zD} {d : Nat} {G : zG} {h : zH} {Q : zO → zG → zH → Prop} {x1 : Int}
    (u1 : z_Y D M_X13_singles d 4 [(0, 2, 88), (1, 0, x1), (2, 0, 0), (3, 0, 0)] [] G h Q) :
    z_Y D M_X13_singles d 0 [(0, 2, 88), (1, 0, x1)] [] G h Q := by
  intro hl0
  refine z_iconst (q := 1) dX13_singles_0 rfl ?_
  refine z_istore_n (q := 2) (L' := [(0, 2, 88), (1, 0, x1), (2, 0, 0)]) dX13_singles_1 rfl (by decide) rfl ?_
  refine z_iconst (q := 3) dX13_singles_2 rfl ?_
  refine z_istore_n (q := 4) (L' := [(0, 2, 88), (1, 0, x1), (2, 0, 0), (3, 0, 0)]) dX13_singles_3 rfl (by decide) rfl ?_
  exact u1 hl0
theorem b_X13_singles_4 {D : zD} {d : Nat} {G : zG} {h : zH} {Q : zO → zG → zH → Prop} {x1 x2 x3 : Int} (p1 : z_in x3) (p2 : z_in (h 88 4))
    (u1 : (h 88 4) ≤ x3 → z_Kv D M_X13_rowsBy d [(2, 88), (0, x2), (0, x1)] G h (fun G' h' => z_Y D M_X13_singles d 47 [(0, 2, 88), (2, 0, x2)] [] G' h' Q))
    (u2 : ¬ ((h 88 4) ≤ x3) → z_Ki D M_X13_firstLike d [(2, 88), (0, x3), (0, x1)] G h (fun r G' h' => z_Y D M_X13_singles d 18 [(0, 2, 88), (1, 0, x1), (2, 0, x2), (3, 0, x3)] [(0, r)] G' h' Q)) :
    z_Y D M_X13_singles d 4 [(0, 2, 88), (1, 0, x1), (2, 0, x2), (3, 0, x3)] [] G h Q := by
  intro hl0
  refine z_iload_n (q := 5) 3 dX13_singles_4 rfl rfl ?_
  refine z_aload_n (q := 6) 0 dX13_singles_5 rfl rfl ?_
  refine z_gf (q := 9) (ki := 4) (v := (0, (h 88 4))) fX13_126 rfl rfl (hl0.i 88 (by decide) rfl) dX13_singles_6 rfl ?_
  refine z_icmp_ge (q := 12) (t := 41) p1 p2 dX13_singles_9 (by decide) rfl (fun c1 => ?_) (fun c1 => ?_)
  · refine z_aload_n (q := 42) 0 dX13_singles_41 rfl rfl ?_
    refine z_iload_n (q := 43) 2 dX13_singles_42 rfl rfl ?_
    refine z_iload_n (q := 44) 1 dX13_singles_43 rfl rfl ?_
    refine z_sub (L' := [(0, 2, 88), (2, 0, x2)]) [0, 2] rfl ?_
    exact z_goV (q := 47) (av := [(0, x2), (0, x1)]) (rest := []) cb11 (hl0.i 88 (by decide) rfl) z_tov hl0 (u1 c1) mo_X13_rowsBy np_X13_rowsBy k1560 k1562 k74 rfl (nle rfl) dX13_singles_44 rfl
  · refine z_aload_n (q := 13) 0 dX13_singles_12 rfl rfl ?_
    refine z_iload_n (q := 14) 3 dX13_singles_13 rfl rfl ?_
    refine z_iload_n (q := 15) 1 dX13_singles_14 rfl rfl ?_
    exact z_goV (q := 18) (av := [(0, x3), (0, x1)]) (rest := []) cb11 (hl0.i 88 (by decide) rfl) z_toi hl0 (u2 c1) mo_X13_firstLike np_X13_firstLike k1541 k1543 k70 rfl (nle rfl) dX13_singles_15 rfl
theorem b_X13_singles_47 {D : zD} {d : Nat} {G : zG} {h : zH} {Q : zO → zG → zH → Prop} {x2 : Int} (p1 : z_in x2) (p2 : z_in (h 88 4))
    (u1 : (h 88 4) ≤ x2 → Q (.inl (some (0, 0))) G h)
    (u2 : ¬ ((h 88 4) ≤ x2) → Q (.inl (some (0, 1))) G h) :
    z_Y D M_X13_singles d 47 [(0, 2, 88), (2, 0, x2)] [] G h Q := by
  intro hl0
  refine z_iload_n (q := 48) 1 dX13_singles_47 rfl rfl ?_
  refine z_aload_n (q := 49) 0 dX13_singles_48 rfl rfl ?_
  refine z_gf (q := 52) (ki := 4) (v := (0, (h 88 4))) fX13_126 rfl rfl (hl0.i 88 (by decide) rfl) dX13_singles_49 rfl ?_
  refine z_icmp_ge (q := 55) (t := 59) p1 p2 dX13_singles_52 (by decide) rfl (fun c1 => ?_) (fun c1 => ?_)
  · refine z_iconst (q := 60) dX13_singles_59 rfl ?_
    exact z_bret rfl (by decide) dX13_singles_60 ⟨hl0, u1 c1⟩
  · refine z_iconst (q := 56) dX13_singles_55 rfl ?_
    refine z_goto (t := 60) dX13_singles_56 (by decide) ?_
    exact z_bret rfl (by decide) dX13_singles_60 ⟨hl0, u2 c1⟩
theorem b_X13_singles_18 {D : zD} {d : Nat} {G : zG} {h : zH} {Q : zO → zG → zH → Prop} {s0 x1 x2 x3 : Int} (p1 : z_in s0) (p2 : z_in x3) (p3 : s0 = x3 → 0 ≤ x2) (p4 : s0 = x3 → x2 < 12)
    (u1 : s0 = x3 → z_Y D M_X13_singles d 4 [(0, 2, 88), (1, 0, x1), (2, 0, (x2 + 1)), (3, 0, (x3 + 1))] [] G (z_wr h 94 x2 x3) Q)
    (u2 : ¬ (s0 = x3) → z_Y D M_X13_singles d 4 [(0, 2, 88), (1, 0, x1), (2, 0, x2), (3, 0, (x3 + 1))] [] G h Q) :
    z_Y D M_X13_singles d 18 [(0, 2, 88), (1, 0, x1), (2, 0, x2), (3, 0, x3)] [(0, s0)] G h Q := by
  intro hl0
  refine z_iload_n (q := 19) 3 dX13_singles_18 rfl rfl ?_
  refine z_icmp_eq (q := 22) (t := 25) p1 p2 dX13_singles_19 (by decide) rfl (fun c1 => ?_) (fun c1 => ?_)
  · refine z_aload_n (q := 26) 0 dX13_singles_25 rfl rfl ?_
    refine z_gf (q := 29) (ki := 7) (v := (2, 94)) fX13_26 rfl (z_ldr rfl (hl0.ref 86 rfl)) (hl0.i 88 (by decide) rfl) dX13_singles_26 rfl ?_
    refine z_iload_n (q := 30) 2 dX13_singles_29 rfl rfl ?_
    refine z_iload_n (q := 31) 3 dX13_singles_30 rfl rfl ?_
    refine z_isn (q := 32) (hl0.i 94 (by decide) rfl) (hl0.n 94 (by decide) rfl) (p3 c1) (p4 c1) dX13_singles_31 rfl ?_
    have hl1 := hl0.wr (v := x3) (hl0.i 94 (by decide) rfl) (i := x2) rfl
    refine z_iinc (q := 35) (L' := [(0, 2, 88), (1, 0, x1), (2, 0, (x2 + 1)), (3, 0, x3)]) 2 dX13_singles_32 rfl rfl (by decide) rfl ?_
    refine z_iinc (q := 38) (L' := [(0, 2, 88), (1, 0, x1), (2, 0, (x2 + 1)), (3, 0, (x3 + 1))]) 3 dX13_singles_35 rfl rfl (by decide) rfl ?_
    refine z_goto (t := 4) dX13_singles_38 (by decide) ?_
    exact u1 c1 hl1
  · refine z_goto (t := 35) dX13_singles_22 (by decide) ?_
    refine z_iinc (q := 38) (L' := [(0, 2, 88), (1, 0, x1), (2, 0, x2), (3, 0, (x3 + 1))]) 3 dX13_singles_35 rfl rfl (by decide) rfl ?_
    refine z_goto (t := 4) dX13_singles_38 (by decide) ?_
    exact u2 c1 hl0
theorem b_X13_counts_0 {D : zD} {d : Nat} {G : zG} {h : zH} {Q : zO → zG → zH → Prop} {x1 : Int}
    (u1 : z_Y D M_X13_counts d 4 [(0, 2, 88), (1, 0, x1), (2, 0, 0), (3, 0, 0)] [] G h Q) :
    z_Y D M_X13_counts d 0 [(0, 2, 88), (1, 0, x1)] [] G h Q := by
  intro hl0
  refine z_iconst (q := 1) dX13_counts_0 rfl ?_
  refine z_istore_n (q := 2) (L' := [(0, 2, 88), (1, 0, x1), (2, 0, 0)]) dX13_counts_1 rfl (by decide) rfl ?_
  refine z_iconst (q := 3) dX13_counts_2 rfl ?_
  refine z_istore_n (q := 4) (L' := [(0, 2, 88), (1, 0, x1), (2, 0, 0), (3, 0, 0)]) dX13_counts_3 rfl (by decide) rfl ?_
  exact u1 hl0
theorem b_X13_counts_4 {D : zD} {d : Nat} {G : zG} {h : zH} {Q : zO → zG → zH → Prop} {x1 x2 x3 : Int} (p1 : z_in x3) (p2 : z_in (h 88 4))
    (u1 : (h 88 4) ≤ x3 → z_Kv D M_X13_shape d [(2, 88), (0, 10), (0, x2), (0, 2)] G h (fun G' h' => z_Y D M_X13_counts d 44 [(0, 2, 88), (1, 0, x1)] [] G' h' Q))
    (u2 : ¬ ((h 88 4) ≤ x3) → z_Ki D M_X13_firstName d [(2, 88), (0, x3), (0, x1)] G h (fun r G' h' => z_Y D M_X13_counts d 19 [(0, 2, 88), (1, 0, x1), (3, 0, x3)] [(0, r), (0, x2)] G' h' Q)) :
    z_Y D M_X13_counts d 4 [(0, 2, 88), (1, 0, x1), (2, 0, x2), (3, 0, x3)] [] G h Q := by
  intro hl0
  refine z_iload_n (q := 5) 3 dX13_counts_4 rfl rfl ?_
  refine z_aload_n (q := 6) 0 dX13_counts_5 rfl rfl ?_
  refine z_gf (q := 9) (ki := 4) (v := (0, (h 88 4))) fX13_126 rfl rfl (hl0.i 88 (by decide) rfl) dX13_counts_6 rfl ?_
  refine z_icmp_ge (q := 12) (t := 36) p1 p2 dX13_counts_9 (by decide) rfl (fun c1 => ?_) (fun c1 => ?_)
  · refine z_aload_n (q := 37) 0 dX13_counts_36 rfl rfl ?_
    refine z_bipush (q := 39) dX13_counts_37 rfl (by decide) ?_
    refine z_iload_n (q := 40) 2 dX13_counts_39 rfl rfl ?_
    refine z_iconst (q := 41) dX13_counts_40 rfl ?_
    refine z_sub (L' := [(0, 2, 88), (1, 0, x1)]) [0, 1] rfl ?_
    exact z_goV (q := 44) (av := [(0, 10), (0, x2), (0, 2)]) (rest := []) cb11 (hl0.i 88 (by decide) rfl) z_tov hl0 (u1 c1) mo_X13_shape np_X13_shape k1319 k1321 k44 rfl (nle rfl) dX13_counts_41 rfl
  · refine z_iload_n (q := 13) 2 dX13_counts_12 rfl rfl ?_
    refine z_aload_n (q := 14) 0 dX13_counts_13 rfl rfl ?_
    refine z_iload_n (q := 15) 3 dX13_counts_14 rfl rfl ?_
    refine z_iload_n (q := 16) 1 dX13_counts_15 rfl rfl ?_
    refine z_sub (L' := [(0, 2, 88), (1, 0, x1), (3, 0, x3)]) [0, 1, 3] rfl ?_
    exact z_goV (q := 19) (av := [(0, x3), (0, x1)]) (rest := [(0, x2)]) cb11 (hl0.i 88 (by decide) rfl) z_toi hl0 (u2 c1) mo_X13_firstName np_X13_firstName k1549 k1551 k72 rfl (nle rfl) dX13_counts_16 rfl
theorem b_X13_counts_44 {D : zD} {d : Nat} {G : zG} {h : zH} {Q : zO → zG → zH → Prop} {x1 : Int}
    (u1 : z_Y D M_X13_counts d 49 [(0, 2, 88), (1, 0, x1), (3, 0, 0), (4, 0, 0)] [] G h Q) :
    z_Y D M_X13_counts d 44 [(0, 2, 88), (1, 0, x1)] [] G h Q := by
  intro hl0
  refine z_iconst (q := 45) dX13_counts_44 rfl ?_
  refine z_istore_n (q := 46) (L' := [(0, 2, 88), (1, 0, x1), (3, 0, 0)]) dX13_counts_45 rfl (by decide) rfl ?_
  refine z_iconst (q := 47) dX13_counts_46 rfl ?_
  refine z_istore (q := 49) (L' := [(0, 2, 88), (1, 0, x1), (3, 0, 0), (4, 0, 0)]) dX13_counts_47 rfl (by decide) rfl ?_
  exact u1 hl0
theorem b_X13_counts_19 {D : zD} {d : Nat} {G : zG} {h : zH} {Q : zO → zG → zH → Prop} {s0 s1 x1 x3 : Int} (p1 : z_in s1) (p2 : z_in x3)
    (u1 : ¬ s1 = x3 → z_Y D M_X13_counts d 28 [(0, 2, 88), (1, 0, x1), (3, 0, x3)] [(0, 0), (0, s0)] G h Q)
    (u2 : ¬ (¬ s1 = x3) → z_Y D M_X13_counts d 28 [(0, 2, 88), (1, 0, x1), (3, 0, x3)] [(0, 1), (0, s0)] G h Q) :
    z_Y D M_X13_counts d 19 [(0, 2, 88), (1, 0, x1), (3, 0, x3)] [(0, s1), (0, s0)] G h Q := by
  intro hl0
  refine z_iload_n (q := 20) 2 dX13_counts_19 rfl rfl ?_
  refine z_icmp_ne (q := 23) (t := 27) p1 p2 dX13_counts_20 (by decide) rfl (fun c1 => ?_) (fun c1 => ?_)
  · refine z_iconst (q := 28) dX13_counts_27 rfl ?_
    exact u1 c1 hl0
  · refine z_iconst (q := 24) dX13_counts_23 rfl ?_
    refine z_goto (t := 28) dX13_counts_24 (by decide) ?_
    exact u2 c1 hl0
theorem b_X13_counts_49 {D : zD} {d : Nat} {G : zG} {h : zH} {Q : zO → zG → zH → Prop} {x1 x3 x4 : Int} (p1 : z_in x4) (p2 : z_in (h 88 4))
    (u1 : (h 88 4) ≤ x4 → Q (.inl (some (0, 1))) G h)
    (u2 : ¬ ((h 88 4) ≤ x4) → z_Ki D M_X13_firstName d [(2, 88), (0, x4), (0, x1)] G h (fun r G' h' => z_Y D M_X13_counts d 65 [(0, 2, 88), (1, 0, x1), (3, 0, x3), (4, 0, x4)] [(0, r)] G' h' Q)) :
    z_Y D M_X13_counts d 49 [(0, 2, 88), (1, 0, x1), (3, 0, x3), (4, 0, x4)] [] G h Q := by
  intro hl0
  refine z_iload (q := 51) 3 dX13_counts_49 rfl rfl ?_
  refine z_aload_n (q := 52) 0 dX13_counts_51 rfl rfl ?_
  refine z_gf (q := 55) (ki := 4) (v := (0, (h 88 4))) fX13_126 rfl rfl (hl0.i 88 (by decide) rfl) dX13_counts_52 rfl ?_
  refine z_icmp_ge (q := 58) (t := 155) p1 p2 dX13_counts_55 (by decide) rfl (fun c1 => ?_) (fun c1 => ?_)
  · refine z_iconst (q := 156) dX13_counts_155 rfl ?_
    exact z_bret rfl (by decide) dX13_counts_156 ⟨hl0, u1 c1⟩
  · refine z_aload_n (q := 59) 0 dX13_counts_58 rfl rfl ?_
    refine z_iload (q := 61) 3 dX13_counts_59 rfl rfl ?_
    refine z_iload_n (q := 62) 1 dX13_counts_61 rfl rfl ?_
    exact z_goV (q := 65) (av := [(0, x4), (0, x1)]) (rest := []) cb11 (hl0.i 88 (by decide) rfl) z_toi hl0 (u2 c1) mo_X13_firstName np_X13_firstName k1549 k1551 k72 rfl (nle rfl) dX13_counts_62 rfl
theorem b_X13_counts_28 {D : zD} {d : Nat} {G : zG} {h : zH} {Q : zO → zG → zH → Prop} {s0 s1 x1 x3 : Int}
    (u1 : z_Y D M_X13_counts d 4 [(0, 2, 88), (1, 0, x1), (2, 0, (s0 + s1)), (3, 0, (x3 + 1))] [] G h Q) :
    z_Y D M_X13_counts d 28 [(0, 2, 88), (1, 0, x1), (3, 0, x3)] [(0, s1), (0, s0)] G h Q := by
  intro hl0
  refine z_iadd (q := 29) dX13_counts_28 rfl ?_
  refine z_istore_n (q := 30) (L' := [(0, 2, 88), (1, 0, x1), (2, 0, (s0 + s1)), (3, 0, x3)]) dX13_counts_29 rfl (by decide) rfl ?_
  refine z_iinc (q := 33) (L' := [(0, 2, 88), (1, 0, x1), (2, 0, (s0 + s1)), (3, 0, (x3 + 1))]) 3 dX13_counts_30 rfl rfl (by decide) rfl ?_
  refine z_goto (t := 4) dX13_counts_33 (by decide) ?_
  exact u1 hl0
theorem b_X13_counts_65 {D : zD} {d : Nat} {G : zG} {h : zH} {Q : zO → zG → zH → Prop} {s0 x1 x3 x4 : Int} (p1 : z_in s0) (p2 : z_in x4)
    (u1 : s0 = x4 → z_Y D M_X13_counts d 79 [(0, 2, 88), (1, 0, x1), (3, 0, x3), (4, 0, x4), (5, 0, 0), (6, 0, 0)] [] G h Q)
    (u2 : ¬ (s0 = x4) → z_Y D M_X13_counts d 49 [(0, 2, 88), (1, 0, x1), (3, 0, x3), (4, 0, (x4 + 1))] [] G h Q) :
    z_Y D M_X13_counts d 65 [(0, 2, 88), (1, 0, x1), (3, 0, x3), (4, 0, x4)] [(0, s0)] G h Q := by
  intro hl0
  refine z_iload (q := 67) 3 dX13_counts_65 rfl rfl ?_
  refine z_icmp_eq (q := 70) (t := 73) p1 p2 dX13_counts_67 (by decide) rfl (fun c1 => ?_) (fun c1 => ?_)
  · refine z_iconst (q := 74) dX13_counts_73 rfl ?_
    refine z_istore (q := 76) (L' := [(0, 2, 88), (1, 0, x1), (3, 0, x3), (4, 0, x4), (5, 0, 0)]) dX13_counts_74 rfl (by decide) rfl ?_
    refine z_iconst (q := 77) dX13_counts_76 rfl ?_
    refine z_istore (q := 79) (L' := [(0, 2, 88), (1, 0, x1), (3, 0, x3), (4, 0, x4), (5, 0, 0), (6, 0, 0)]) dX13_counts_77 rfl (by decide) rfl ?_
    exact u1 c1 hl0
  · refine z_goto (t := 149) dX13_counts_70 (by decide) ?_
    refine z_iinc (q := 152) (L' := [(0, 2, 88), (1, 0, x1), (3, 0, x3), (4, 0, (x4 + 1))]) 3 dX13_counts_149 rfl rfl (by decide) rfl ?_
    refine z_goto (t := 49) dX13_counts_152 (by decide) ?_
    exact u2 c1 hl0
theorem b_X13_counts_79 {D : zD} {d : Nat} {G : zG} {h : zH} {Q : zO → zG → zH → Prop} {x1 x3 x4 x5 x6 : Int} (hd : 3 ≤ d) (p1 : z_in x6) (p2 : z_in (h 88 4)) (p3 : (h 88 4) ≤ x6 → 0 ≤ (72 * (h 88 3) + 6 * x4 + x1)) (p4 : (h 88 4) ≤ x6 → (72 * (h 88 3) + 6 * x4 + x1) < 864) (p5 : (h 88 4) ≤ x6 → 0 ≤ (72 * 10 + 6 * x3 + 0)) (p6 : (h 88 4) ≤ x6 → (72 * 10 + 6 * x3 + 0) < 864) (p7 : (h 88 4) ≤ x6 → 0 ≤ x5) (p8 : (h 88 4) ≤ x6 → x5 < 1000000) (p9 : (h 88 4) ≤ x6 → 0 ≤ (72 * 10 + 6 * x3 + 1)) (p10 : (h 88 4) ≤ x6 → (72 * 10 + 6 * x3 + 1) < 864) (p11 : ¬ ((h 88 4) ≤ x6) → 0 ≤ (72 * (h 88 3) + 6 * x6 + x1)) (p12 : ¬ ((h 88 4) ≤ x6) → (72 * (h 88 3) + 6 * x6 + x1) < 864) (p13 : ¬ ((h 88 4) ≤ x6) → 0 ≤ (72 * (h 88 3) + 6 * x4 + x1)) (p14 : ¬ ((h 88 4) ≤ x6) → (72 * (h 88 3) + 6 * x4 + x1) < 864) (p15 : ¬ ((h 88 4) ≤ x6) → z_in64 (h 91 (72 * (h 88 3) + 6 * x6 + x1))) (p16 : ¬ ((h 88 4) ≤ x6) → z_in64 (h 91 (72 * (h 88 3) + 6 * x4 + x1)))
    (u1 : (h 88 4) ≤ x6 → z_Y D M_X13_counts d 49 [(0, 2, 88), (1, 0, x1), (3, 0, (x3 + 1)), (4, 0, (x4 + 1))] [] G (z_wr (z_wr h 91 (72 * 10 + 6 * x3 + 0) (h 91 (72 * (h 88 3) + 6 * x4 + x1))) 91 (72 * 10 + 6 * x3 + 1) (ztx 6 x5)) Q)
    (u2 : ¬ ((h 88 4) ≤ x6) → ¬ (h 91 (72 * (h 88 3) + 6 * x6 + x1)) = (h 91 (72 * (h 88 3) + 6 * x4 + x1)) → z_Y D M_X13_counts d 113 [(0, 2, 88), (1, 0, x1), (3, 0, x3), (4, 0, x4), (6, 0, x6)] [(0, 0), (0, x5)] G h Q)
    (u3 : ¬ ((h 88 4) ≤ x6) → ¬ (¬ (h 91 (72 * (h 88 3) + 6 * x6 + x1)) = (h 91 (72 * (h 88 3) + 6 * x4 + x1))) → z_Y D M_X13_counts d 113 [(0, 2, 88), (1, 0, x1), (3, 0, x3), (4, 0, x4), (6, 0, x6)] [(0, 1), (0, x5)] G h Q) :
    z_Y D M_X13_counts d 79 [(0, 2, 88), (1, 0, x1), (3, 0, x3), (4, 0, x4), (5, 0, x5), (6, 0, x6)] [] G h Q := by
  intro hl0
  refine z_iload (q := 81) 5 dX13_counts_79 rfl rfl ?_
  refine z_aload_n (q := 82) 0 dX13_counts_81 rfl rfl ?_
  refine z_gf (q := 85) (ki := 4) (v := (0, (h 88 4))) fX13_126 rfl rfl (hl0.i 88 (by decide) rfl) dX13_counts_82 rfl ?_
  refine z_icmp_ge (q := 88) (t := 122) p1 p2 dX13_counts_85 (by decide) rfl (fun c1 => ?_) (fun c1 => ?_)
  · refine z_aload_n (q := 123) 0 dX13_counts_122 rfl rfl ?_
    refine z_iload_n (q := 124) 2 dX13_counts_123 rfl rfl ?_
    refine z_iconst (q := 125) dX13_counts_124 rfl ?_
    refine z_aload_n (q := 126) 0 dX13_counts_125 rfl rfl ?_
    refine z_iload (q := 128) 3 dX13_counts_126 rfl rfl ?_
    refine z_iload_n (q := 129) 1 dX13_counts_128 rfl rfl ?_
    have e1 := a_X13_cellAt (D := D) (G := G) (h := h) (d := d - 1) (by omega) x4 x1 (h 88 3) (h 91 (72 * (h 88 3) + 6 * x4 + x1)) rfl (p3 c1) (p4 c1) rfl
    refine z_goV (q := 132) (av := [(0, x4), (0, x1)]) (rest := [(0, 0), (0, x3), (2, 88)]) cb11 (hl0.i 88 (by decide) rfl) (z_tol) hl0 (z_El.K e1 (by omega) ?_) mo_X13_cellAt np_X13_cellAt k1507 k1509 k63 rfl (nle rfl) dX13_counts_129 rfl
    have e2 := a_X13_put (D := D) (G := G) (h := h) (d := d - 1) (by omega) x3 0 (h 91 (72 * (h 88 3) + 6 * x4 + x1)) (p5 c1) (p6 c1)
    refine z_goV (q := 135) (av := [(0, x3), (0, 0), (1, (h 91 (72 * (h 88 3) + 6 * x4 + x1)))]) (rest := []) cb11 (hl0.i 88 (by decide) rfl) (z_tov) hl0 (z_Ev.K e2 (by omega) ?_) mo_X13_put np_X13_put k1341 k1343 k47 rfl (nle rfl) dX13_counts_132 rfl
    have hl1 : lay G (z_wr h 91 (72 * 10 + 6 * x3 + 0) (h 91 (72 * (h 88 3) + 6 * x4 + x1))) := e2.lay hl0
    refine z_aload_n (q := 136) 0 dX13_counts_135 rfl rfl ?_
    refine z_iload_n (q := 137) 2 dX13_counts_136 rfl rfl ?_
    refine z_iconst (q := 138) dX13_counts_137 rfl ?_
    refine z_iload (q := 140) 4 dX13_counts_138 rfl rfl ?_
    have e3 := a_X13_textOf (D := D) (G := G) (h := (z_wr h 91 (72 * 10 + 6 * x3 + 0) (h 91 (72 * (h 88 3) + 6 * x4 + x1)))) (d := d - 1) (by omega) x5 (p7 c1) (p8 c1)
    refine z_goS (q := 143) (av := [(0, x5)]) (rest := [(0, 1), (0, x3), (2, 88)]) (z_tol) hl1 (z_El.K e3 (by omega) ?_) mo_X13_textOf np_X13_textOf k1572 k1573 rfl (nle rfl) dX13_counts_140 rfl
    have e4 := a_X13_put (D := D) (G := G) (h := (z_wr h 91 (72 * 10 + 6 * x3 + 0) (h 91 (72 * (h 88 3) + 6 * x4 + x1)))) (d := d - 1) (by omega) x3 1 (ztx 6 x5) (p9 c1) (p10 c1)
    refine z_goV (q := 146) (av := [(0, x3), (0, 1), (1, (ztx 6 x5))]) (rest := []) cb11 (hl1.i 88 (by decide) rfl) (z_tov) hl1 (z_Ev.K e4 (by omega) ?_) mo_X13_put np_X13_put k1341 k1343 k47 rfl (nle rfl) dX13_counts_143 rfl
    have hl2 : lay G (z_wr (z_wr h 91 (72 * 10 + 6 * x3 + 0) (h 91 (72 * (h 88 3) + 6 * x4 + x1))) 91 (72 * 10 + 6 * x3 + 1) (ztx 6 x5)) := e4.lay hl1
    refine z_iinc (q := 149) (L' := [(0, 2, 88), (1, 0, x1), (3, 0, (x3 + 1)), (4, 0, x4), (5, 0, x5), (6, 0, x6)]) 2 dX13_counts_146 rfl rfl (by decide) rfl ?_
    refine z_iinc (q := 152) (L' := [(0, 2, 88), (1, 0, x1), (3, 0, (x3 + 1)), (4, 0, (x4 + 1)), (5, 0, x5), (6, 0, x6)]) 3 dX13_counts_149 rfl rfl (by decide) rfl ?_
    refine z_goto (t := 49) dX13_counts_152 (by decide) ?_
    refine z_sub (L' := [(0, 2, 88), (1, 0, x1), (3, 0, (x3 + 1)), (4, 0, (x4 + 1))]) [0, 1, 2, 3] rfl ?_
    exact u1 c1 hl2
  · refine z_iload (q := 90) 4 dX13_counts_88 rfl rfl ?_
    refine z_aload_n (q := 91) 0 dX13_counts_90 rfl rfl ?_
    refine z_iload (q := 93) 5 dX13_counts_91 rfl rfl ?_
    refine z_iload_n (q := 94) 1 dX13_counts_93 rfl rfl ?_
    have e5 := a_X13_cellAt (D := D) (G := G) (h := h) (d := d - 1) (by omega) x6 x1 (h 88 3) (h 91 (72 * (h 88 3) + 6 * x6 + x1)) rfl (p11 c1) (p12 c1) rfl
    refine z_goV (q := 97) (av := [(0, x6), (0, x1)]) (rest := [(0, x5)]) cb11 (hl0.i 88 (by decide) rfl) (z_tol) hl0 (z_El.K e5 (by omega) ?_) mo_X13_cellAt np_X13_cellAt k1507 k1509 k63 rfl (nle rfl) dX13_counts_94 rfl
    refine z_aload_n (q := 98) 0 dX13_counts_97 rfl rfl ?_
    refine z_iload (q := 100) 3 dX13_counts_98 rfl rfl ?_
    refine z_iload_n (q := 101) 1 dX13_counts_100 rfl rfl ?_
    have e6 := a_X13_cellAt (D := D) (G := G) (h := h) (d := d - 1) (by omega) x4 x1 (h 88 3) (h 91 (72 * (h 88 3) + 6 * x4 + x1)) rfl (p13 c1) (p14 c1) rfl
    refine z_goV (q := 104) (av := [(0, x4), (0, x1)]) (rest := [(1, (h 91 (72 * (h 88 3) + 6 * x6 + x1))), (0, x5)]) cb11 (hl0.i 88 (by decide) rfl) (z_tol) hl0 (z_El.K e6 (by omega) ?_) mo_X13_cellAt np_X13_cellAt k1507 k1509 k63 rfl (nle rfl) dX13_counts_101 rfl
    refine z_lcmp_ne (q := 108) (t := 112) (p15 c1) (p16 c1) dX13_counts_104 (rfl : _ = 105) dX13_counts_105 (by decide) rfl (fun c2 => ?_) (fun c2 => ?_)
    · refine z_iconst (q := 113) dX13_counts_112 rfl ?_
      refine z_sub (L' := [(0, 2, 88), (1, 0, x1), (3, 0, x3), (4, 0, x4), (6, 0, x6)]) [0, 1, 2, 3, 5] rfl ?_
      exact u2 c1 c2 hl0
    · refine z_iconst (q := 109) dX13_counts_108 rfl ?_
      refine z_goto (t := 113) dX13_counts_109 (by decide) ?_
      refine z_sub (L' := [(0, 2, 88), (1, 0, x1), (3, 0, x3), (4, 0, x4), (6, 0, x6)]) [0, 1, 2, 3, 5] rfl ?_
      exact u3 c1 c2 hl0
theorem b_X13_counts_113 {D : zD} {d : Nat} {G : zG} {h : zH} {Q : zO → zG → zH → Prop} {s0 s1 x1 x3 x4 x6 : Int}
    (u1 : z_Y D M_X13_counts d 79 [(0, 2, 88), (1, 0, x1), (3, 0, x3), (4, 0, x4), (5, 0, (s0 + s1)), (6, 0, (x6 + 1))] [] G h Q) :
    z_Y D M_X13_counts d 113 [(0, 2, 88), (1, 0, x1), (3, 0, x3), (4, 0, x4), (6, 0, x6)] [(0, s1), (0, s0)] G h Q := by
  intro hl0
  refine z_iadd (q := 114) dX13_counts_113 rfl ?_
  refine z_istore (q := 116) (L' := [(0, 2, 88), (1, 0, x1), (3, 0, x3), (4, 0, x4), (5, 0, (s0 + s1)), (6, 0, x6)]) dX13_counts_114 rfl (by decide) rfl ?_
  refine z_iinc (q := 119) (L' := [(0, 2, 88), (1, 0, x1), (3, 0, x3), (4, 0, x4), (5, 0, (s0 + s1)), (6, 0, (x6 + 1))]) 5 dX13_counts_116 rfl rfl (by decide) rfl ?_
  refine z_goto (t := 79) dX13_counts_119 (by decide) ?_
  exact u1 hl0
theorem b_X13_sums_0 {D : zD} {d : Nat} {G : zG} {h : zH} {Q : zO → zG → zH → Prop} {x1 x2 x3 : Int} (p1 : z_in x3) (p2 : z_in x1) (p3 : ¬ (x1 ≤ x3) → z_in x2)
    (u1 : x1 ≤ x3 → Q (.inl (some (0, 0))) G h)
    (u2 : ¬ (x1 ≤ x3) → ¬ x2 = x3 → z_Y D M_X13_sums d 18 [(0, 2, 88), (2, 0, x2), (3, 0, x3), (4, 0, 0), (5, 0, 0)] [] G h Q)
    (u3 : ¬ (x1 ≤ x3) → ¬ (¬ x2 = x3) → Q (.inl (some (0, 0))) G h) :
    z_Y D M_X13_sums d 0 [(0, 2, 88), (1, 0, x1), (2, 0, x2), (3, 0, x3)] [] G h Q := by
  intro hl0
  refine z_iload_n (q := 1) 3 dX13_sums_0 rfl rfl ?_
  refine z_iload_n (q := 2) 1 dX13_sums_1 rfl rfl ?_
  refine z_icmp_ge (q := 5) (t := 10) p1 p2 dX13_sums_2 (by decide) rfl (fun c1 => ?_) (fun c1 => ?_)
  · refine z_iconst (q := 11) dX13_sums_10 rfl ?_
    exact z_bret rfl (by decide) dX13_sums_11 ⟨hl0, u1 c1⟩
  · refine z_iload_n (q := 6) 2 dX13_sums_5 rfl rfl ?_
    refine z_iload_n (q := 7) 3 dX13_sums_6 rfl rfl ?_
    refine z_icmp_ne (q := 10) (t := 12) (p3 c1) p1 dX13_sums_7 (by decide) rfl (fun c2 => ?_) (fun c2 => ?_)
    · refine z_iconst (q := 13) dX13_sums_12 rfl ?_
      refine z_istore (q := 15) (L' := [(0, 2, 88), (1, 0, x1), (2, 0, x2), (3, 0, x3), (4, 0, 0)]) dX13_sums_13 rfl (by decide) rfl ?_
      refine z_iconst (q := 16) dX13_sums_15 rfl ?_
      refine z_istore (q := 18) (L' := [(0, 2, 88), (1, 0, x1), (2, 0, x2), (3, 0, x3), (4, 0, 0), (5, 0, 0)]) dX13_sums_16 rfl (by decide) rfl ?_
      refine z_sub (L' := [(0, 2, 88), (2, 0, x2), (3, 0, x3), (4, 0, 0), (5, 0, 0)]) [0, 2, 3, 4, 5] rfl ?_
      exact u2 c1 c2 hl0
    · refine z_iconst (q := 11) dX13_sums_10 rfl ?_
      exact z_bret rfl (by decide) dX13_sums_11 ⟨hl0, u3 c1 c2⟩
theorem b_X13_sums_18 {D : zD} {d : Nat} {G : zG} {h : zH} {Q : zO → zG → zH → Prop} {x2 x3 x4 x5 : Int} (p1 : z_in x5) (p2 : z_in (h 88 4))
    (u1 : (h 88 4) ≤ x5 → z_Kv D M_X13_shape d [(2, 88), (0, 10), (0, x4), (0, 2)] G h (fun G' h' => z_Y D M_X13_sums d 79 [(0, 2, 88), (2, 0, x2), (3, 0, x3)] [] G' h' Q))
    (u2 : ¬ ((h 88 4) ≤ x5) → z_Ki D M_X13_firstName d [(2, 88), (0, x5), (0, x2)] G h (fun r G' h' => z_Y D M_X13_sums d 36 [(0, 2, 88), (2, 0, x2), (3, 0, x3), (5, 0, x5)] [(0, r), (0, x4)] G' h' Q)) :
    z_Y D M_X13_sums d 18 [(0, 2, 88), (2, 0, x2), (3, 0, x3), (4, 0, x4), (5, 0, x5)] [] G h Q := by
  intro hl0
  refine z_iload (q := 20) 4 dX13_sums_18 rfl rfl ?_
  refine z_aload_n (q := 21) 0 dX13_sums_20 rfl rfl ?_
  refine z_gf (q := 24) (ki := 4) (v := (0, (h 88 4))) fX13_126 rfl rfl (hl0.i 88 (by decide) rfl) dX13_sums_21 rfl ?_
  refine z_icmp_ge (q := 27) (t := 70) p1 p2 dX13_sums_24 (by decide) rfl (fun c1 => ?_) (fun c1 => ?_)
  · refine z_aload_n (q := 71) 0 dX13_sums_70 rfl rfl ?_
    refine z_bipush (q := 73) dX13_sums_71 rfl (by decide) ?_
    refine z_iload (q := 75) 3 dX13_sums_73 rfl rfl ?_
    refine z_iconst (q := 76) dX13_sums_75 rfl ?_
    refine z_sub (L' := [(0, 2, 88), (2, 0, x2), (3, 0, x3)]) [0, 1, 2] rfl ?_
    exact z_goV (q := 79) (av := [(0, 10), (0, x4), (0, 2)]) (rest := []) cb11 (hl0.i 88 (by decide) rfl) z_tov hl0 (u1 c1) mo_X13_shape np_X13_shape k1319 k1321 k44 rfl (nle rfl) dX13_sums_76 rfl
  · refine z_iload (q := 29) 3 dX13_sums_27 rfl rfl ?_
    refine z_aload_n (q := 30) 0 dX13_sums_29 rfl rfl ?_
    refine z_iload (q := 32) 4 dX13_sums_30 rfl rfl ?_
    refine z_iload_n (q := 33) 1 dX13_sums_32 rfl rfl ?_
    refine z_sub (L' := [(0, 2, 88), (2, 0, x2), (3, 0, x3), (5, 0, x5)]) [0, 1, 2, 4] rfl ?_
    exact z_goV (q := 36) (av := [(0, x5), (0, x2)]) (rest := [(0, x4)]) cb11 (hl0.i 88 (by decide) rfl) z_toi hl0 (u2 c1) mo_X13_firstName np_X13_firstName k1549 k1551 k72 rfl (nle rfl) dX13_sums_33 rfl
theorem b_X13_sums_79 {D : zD} {d : Nat} {G : zG} {h : zH} {Q : zO → zG → zH → Prop} {x2 x3 : Int}
    (u1 : z_Y D M_X13_sums d 85 [(0, 2, 88), (2, 0, x2), (3, 0, x3), (5, 0, 0), (6, 0, 0)] [] G h Q) :
    z_Y D M_X13_sums d 79 [(0, 2, 88), (2, 0, x2), (3, 0, x3)] [] G h Q := by
  intro hl0
  refine z_iconst (q := 80) dX13_sums_79 rfl ?_
  refine z_istore (q := 82) (L' := [(0, 2, 88), (2, 0, x2), (3, 0, x3), (5, 0, 0)]) dX13_sums_80 rfl (by decide) rfl ?_
  refine z_iconst (q := 83) dX13_sums_82 rfl ?_
  refine z_istore (q := 85) (L' := [(0, 2, 88), (2, 0, x2), (3, 0, x3), (5, 0, 0), (6, 0, 0)]) dX13_sums_83 rfl (by decide) rfl ?_
  exact u1 hl0
theorem b_X13_sums_36 {D : zD} {d : Nat} {G : zG} {h : zH} {Q : zO → zG → zH → Prop} {s0 s1 x2 x3 x5 : Int} (p1 : z_in s1) (p2 : z_in x5)
    (u1 : ¬ s1 = x5 → z_Y D M_X13_sums d 46 [(0, 2, 88), (2, 0, x2), (3, 0, x3), (5, 0, x5)] [(0, 0), (0, s0)] G h Q)
    (u2 : ¬ (¬ s1 = x5) → z_Y D M_X13_sums d 46 [(0, 2, 88), (2, 0, x2), (3, 0, x3), (5, 0, x5)] [(0, 1), (0, s0)] G h Q) :
    z_Y D M_X13_sums d 36 [(0, 2, 88), (2, 0, x2), (3, 0, x3), (5, 0, x5)] [(0, s1), (0, s0)] G h Q := by
  intro hl0
  refine z_iload (q := 38) 3 dX13_sums_36 rfl rfl ?_
  refine z_icmp_ne (q := 41) (t := 45) p1 p2 dX13_sums_38 (by decide) rfl (fun c1 => ?_) (fun c1 => ?_)
  · refine z_iconst (q := 46) dX13_sums_45 rfl ?_
    exact u1 c1 hl0
  · refine z_iconst (q := 42) dX13_sums_41 rfl ?_
    refine z_goto (t := 46) dX13_sums_42 (by decide) ?_
    exact u2 c1 hl0
theorem b_X13_sums_85 {D : zD} {d : Nat} {G : zG} {h : zH} {Q : zO → zG → zH → Prop} {x2 x3 x5 x6 : Int} (p1 : z_in x6) (p2 : z_in (h 88 4))
    (u1 : (h 88 4) ≤ x6 → Q (.inl (some (0, 1))) G h)
    (u2 : ¬ ((h 88 4) ≤ x6) → z_Ki D M_X13_firstName d [(2, 88), (0, x6), (0, x2)] G h (fun r G' h' => z_Y D M_X13_sums d 101 [(0, 2, 88), (2, 0, x2), (3, 0, x3), (5, 0, x5), (6, 0, x6)] [(0, r)] G' h' Q)) :
    z_Y D M_X13_sums d 85 [(0, 2, 88), (2, 0, x2), (3, 0, x3), (5, 0, x5), (6, 0, x6)] [] G h Q := by
  intro hl0
  refine z_iload (q := 87) 4 dX13_sums_85 rfl rfl ?_
  refine z_aload_n (q := 88) 0 dX13_sums_87 rfl rfl ?_
  refine z_gf (q := 91) (ki := 4) (v := (0, (h 88 4))) fX13_126 rfl rfl (hl0.i 88 (by decide) rfl) dX13_sums_88 rfl ?_
  refine z_icmp_ge (q := 94) (t := 211) p1 p2 dX13_sums_91 (by decide) rfl (fun c1 => ?_) (fun c1 => ?_)
  · refine z_iconst (q := 212) dX13_sums_211 rfl ?_
    exact z_bret rfl (by decide) dX13_sums_212 ⟨hl0, u1 c1⟩
  · refine z_aload_n (q := 95) 0 dX13_sums_94 rfl rfl ?_
    refine z_iload (q := 97) 4 dX13_sums_95 rfl rfl ?_
    refine z_iload_n (q := 98) 1 dX13_sums_97 rfl rfl ?_
    exact z_goV (q := 101) (av := [(0, x6), (0, x2)]) (rest := []) cb11 (hl0.i 88 (by decide) rfl) z_toi hl0 (u2 c1) mo_X13_firstName np_X13_firstName k1549 k1551 k72 rfl (nle rfl) dX13_sums_98 rfl
theorem b_X13_sums_46 {D : zD} {d : Nat} {G : zG} {h : zH} {Q : zO → zG → zH → Prop} {s0 s1 x2 x3 x5 : Int} (hd : 3 ≤ d) (p1 : 0 ≤ (72 * (h 88 3) + 6 * x5 + x3)) (p2 : (72 * (h 88 3) + 6 * x5 + x3) < 864) (p3 : -1 ≤ (h 91 (72 * (h 88 3) + 6 * x5 + x3))) (p4 : (h 91 (72 * (h 88 3) + 6 * x5 + x3)) < 72057594037927936)
    (u1 : znum (h 91 (72 * (h 88 3) + 6 * x5 + x3)) → z_Y D M_X13_sums d 18 [(0, 2, 88), (2, 0, x2), (3, 0, x3), (4, 0, (s0 + s1)), (5, 0, (x5 + 1))] [] G h Q)
    (u2 : ¬ (znum (h 91 (72 * (h 88 3) + 6 * x5 + x3))) → Q (.inl (some (0, 0))) G h) :
    z_Y D M_X13_sums d 46 [(0, 2, 88), (2, 0, x2), (3, 0, x3), (5, 0, x5)] [(0, s1), (0, s0)] G h Q := by
  intro hl0
  refine z_iadd (q := 47) dX13_sums_46 rfl ?_
  refine z_istore (q := 49) (L' := [(0, 2, 88), (2, 0, x2), (3, 0, x3), (4, 0, (s0 + s1)), (5, 0, x5)]) dX13_sums_47 rfl (by decide) rfl ?_
  refine z_aload_n (q := 50) 0 dX13_sums_49 rfl rfl ?_
  refine z_iload (q := 52) 4 dX13_sums_50 rfl rfl ?_
  refine z_iload_n (q := 53) 2 dX13_sums_52 rfl rfl ?_
  have e1 := a_X13_cellAt (D := D) (G := G) (h := h) (d := d - 1) (by omega) x5 x3 (h 88 3) (h 91 (72 * (h 88 3) + 6 * x5 + x3)) rfl p1 p2 rfl
  refine z_goV (q := 56) (av := [(0, x5), (0, x3)]) (rest := []) cb11 (hl0.i 88 (by decide) rfl) (z_tol) hl0 (z_El.K e1 (by omega) ?_) mo_X13_cellAt np_X13_cellAt k1507 k1509 k63 rfl (nle rfl) dX13_sums_53 rfl
  have e2 := a_X13_isNumber (D := D) (G := G) (h := h) (d := d - 1) (by omega) (h 91 (72 * (h 88 3) + 6 * x5 + x3)) p3 p4
  refine z_goS (q := 59) (av := [(1, (h 91 (72 * (h 88 3) + 6 * x5 + x3)))]) (rest := []) (z_toi) hl0 (z_Ei.K e2 (by omega) ?_) mo_X13_isNumber np_X13_isNumber k1463 k1464 rfl (nle rfl) dX13_sums_56 rfl
  by_cases c1 : znum (h 91 (72 * (h 88 3) + 6 * x5 + x3))
  · rw [z_b1 c1]
    refine z_if_ne (q := 62) (t := 64) ⟨by decide, by decide⟩ dX13_sums_59 (by decide) rfl (fun _ => ?_) (fun c => absurd c (by decide))
    refine z_iinc (q := 67) (L' := [(0, 2, 88), (2, 0, x2), (3, 0, x3), (4, 0, (s0 + s1)), (5, 0, (x5 + 1))]) 4 dX13_sums_64 rfl rfl (by decide) rfl ?_
    refine z_goto (t := 18) dX13_sums_67 (by decide) ?_
    exact u1 c1 hl0
  · rw [z_b0 c1]
    refine z_if_ne (q := 62) (t := 64) ⟨by decide, by decide⟩ dX13_sums_59 (by decide) rfl (fun c => absurd c (by decide)) (fun _ => ?_)
    refine z_iconst (q := 63) dX13_sums_62 rfl ?_
    exact z_bret rfl (by decide) dX13_sums_63 ⟨hl0, u2 c1⟩
theorem b_X13_sums_101 {D : zD} {d : Nat} {G : zG} {h : zH} {Q : zO → zG → zH → Prop} {s0 x2 x3 x5 x6 : Int} (p1 : z_in s0) (p2 : z_in x6)
    (u1 : s0 = x6 → z_Y D M_X13_sums d 115 [(0, 2, 88), (2, 0, x2), (3, 0, x3), (5, 0, x5), (6, 0, x6), (7, 0, 0), (8, 0, 0)] [] G h Q)
    (u2 : ¬ (s0 = x6) → z_Y D M_X13_sums d 85 [(0, 2, 88), (2, 0, x2), (3, 0, x3), (5, 0, x5), (6, 0, (x6 + 1))] [] G h Q) :
    z_Y D M_X13_sums d 101 [(0, 2, 88), (2, 0, x2), (3, 0, x3), (5, 0, x5), (6, 0, x6)] [(0, s0)] G h Q := by
  intro hl0
  refine z_iload (q := 103) 4 dX13_sums_101 rfl rfl ?_
  refine z_icmp_eq (q := 106) (t := 109) p1 p2 dX13_sums_103 (by decide) rfl (fun c1 => ?_) (fun c1 => ?_)
  · refine z_iconst (q := 110) dX13_sums_109 rfl ?_
    refine z_istore (q := 112) (L' := [(0, 2, 88), (2, 0, x2), (3, 0, x3), (5, 0, x5), (6, 0, x6), (7, 0, 0)]) dX13_sums_110 rfl (by decide) rfl ?_
    refine z_iconst (q := 113) dX13_sums_112 rfl ?_
    refine z_istore (q := 115) (L' := [(0, 2, 88), (2, 0, x2), (3, 0, x3), (5, 0, x5), (6, 0, x6), (7, 0, 0), (8, 0, 0)]) dX13_sums_113 rfl (by decide) rfl ?_
    exact u1 c1 hl0
  · refine z_goto (t := 205) dX13_sums_106 (by decide) ?_
    refine z_iinc (q := 208) (L' := [(0, 2, 88), (2, 0, x2), (3, 0, x3), (5, 0, x5), (6, 0, (x6 + 1))]) 4 dX13_sums_205 rfl rfl (by decide) rfl ?_
    refine z_goto (t := 85) dX13_sums_208 (by decide) ?_
    exact u2 c1 hl0
theorem b_X13_sums_115 {D : zD} {d : Nat} {G : zG} {h : zH} {Q : zO → zG → zH → Prop} {x2 x3 x5 x6 x7 x8 : Int} (hd : 3 ≤ d) (p1 : z_in x8) (p2 : z_in (h 88 4)) (p3 : (h 88 4) ≤ x8 → z_in x7) (p4 : (h 88 4) ≤ x8 → x7 < 1000000 → 0 ≤ (72 * (h 88 3) + 6 * x6 + x2)) (p5 : (h 88 4) ≤ x8 → x7 < 1000000 → (72 * (h 88 3) + 6 * x6 + x2) < 864) (p6 : (h 88 4) ≤ x8 → x7 < 1000000 → 0 ≤ (72 * 10 + 6 * x5 + 0)) (p7 : (h 88 4) ≤ x8 → x7 < 1000000 → (72 * 10 + 6 * x5 + 0) < 864) (p8 : (h 88 4) ≤ x8 → x7 < 1000000 → 0 ≤ x7) (p9 : (h 88 4) ≤ x8 → x7 < 1000000 → x7 < 1000000) (p10 : (h 88 4) ≤ x8 → x7 < 1000000 → 0 ≤ (72 * 10 + 6 * x5 + 1)) (p11 : (h 88 4) ≤ x8 → x7 < 1000000 → (72 * 10 + 6 * x5 + 1) < 864) (p12 : ¬ ((h 88 4) ≤ x8) → 0 ≤ (72 * (h 88 3) + 6 * x8 + x2)) (p13 : ¬ ((h 88 4) ≤ x8) → (72 * (h 88 3) + 6 * x8 + x2) < 864) (p14 : ¬ ((h 88 4) ≤ x8) → 0 ≤ (72 * (h 88 3) + 6 * x6 + x2)) (p15 : ¬ ((h 88 4) ≤ x8) → (72 * (h 88 3) + 6 * x6 + x2) < 864) (p16 : ¬ ((h 88 4) ≤ x8) → z_in64 (h 91 (72 * (h 88 3) + 6 * x8 + x2))) (p17 : ¬ ((h 88 4) ≤ x8) → z_in64 (h 91 (72 * (h 88 3) + 6 * x6 + x2))) (p18 : ¬ ((h 88 4) ≤ x8) → ¬ (¬ (h 91 (72 * (h 88 3) + 6 * x8 + x2)) = (h 91 (72 * (h 88 3) + 6 * x6 + x2))) → 0 ≤ (72 * (h 88 3) + 6 * x8 + x3)) (p19 : ¬ ((h 88 4) ≤ x8) → ¬ (¬ (h 91 (72 * (h 88 3) + 6 * x8 + x2)) = (h 91 (72 * (h 88 3) + 6 * x6 + x2))) → (72 * (h 88 3) + 6 * x8 + x3) < 864) (p20 : ¬ ((h 88 4) ≤ x8) → ¬ (¬ (h 91 (72 * (h 88 3) + 6 * x8 + x2)) = (h 91 (72 * (h 88 3) + 6 * x6 + x2))) → 0 ≤ (h 91 (72 * (h 88 3) + 6 * x8 + x3))) (p21 : ¬ ((h 88 4) ≤ x8) → ¬ (¬ (h 91 (72 * (h 88 3) + 6 * x8 + x2)) = (h 91 (72 * (h 88 3) + 6 * x6 + x2))) → (h 91 (72 * (h 88 3) + 6 * x8 + x3)) < 72057594037927936)
    (u1 : (h 88 4) ≤ x8 → x7 < 1000000 → z_Y D M_X13_sums d 85 [(0, 2, 88), (2, 0, x2), (3, 0, x3), (5, 0, (x5 + 1)), (6, 0, (x6 + 1))] [] G (z_wr (z_wr h 91 (72 * 10 + 6 * x5 + 0) (h 91 (72 * (h 88 3) + 6 * x6 + x2))) 91 (72 * 10 + 6 * x5 + 1) (ztx 6 x7)) Q)
    (u2 : (h 88 4) ≤ x8 → ¬ (x7 < 1000000) → Q (.inl (some (0, 0))) G h)
    (u3 : ¬ ((h 88 4) ≤ x8) → ¬ (h 91 (72 * (h 88 3) + 6 * x8 + x2)) = (h 91 (72 * (h 88 3) + 6 * x6 + x2)) → z_Y D M_X13_sums d 158 [(0, 2, 88), (2, 0, x2), (3, 0, x3), (5, 0, x5), (6, 0, x6), (8, 0, x8)] [(0, 0), (0, x7)] G h Q)
    (u4 : ¬ ((h 88 4) ≤ x8) → ¬ (¬ (h 91 (72 * (h 88 3) + 6 * x8 + x2)) = (h 91 (72 * (h 88 3) + 6 * x6 + x2))) → z_Y D M_X13_sums d 158 [(0, 2, 88), (2, 0, x2), (3, 0, x3), (5, 0, x5), (6, 0, x6), (8, 0, x8)] [(0, (zval (h 91 (72 * (h 88 3) + 6 * x8 + x3)))), (0, x7)] G h Q) :
    z_Y D M_X13_sums d 115 [(0, 2, 88), (2, 0, x2), (3, 0, x3), (5, 0, x5), (6, 0, x6), (7, 0, x7), (8, 0, x8)] [] G h Q := by
  intro hl0
  refine z_iload (q := 117) 6 dX13_sums_115 rfl rfl ?_
  refine z_aload_n (q := 118) 0 dX13_sums_117 rfl rfl ?_
  refine z_gf (q := 121) (ki := 4) (v := (0, (h 88 4))) fX13_126 rfl rfl (hl0.i 88 (by decide) rfl) dX13_sums_118 rfl ?_
  refine z_icmp_ge (q := 124) (t := 167) p1 p2 dX13_sums_121 (by decide) rfl (fun c1 => ?_) (fun c1 => ?_)
  · refine z_iload (q := 169) 5 dX13_sums_167 rfl rfl ?_
    refine z_ldc (q := 171) (n := 1000000) k1582 (by decide) dX13_sums_169 rfl ?_
    refine z_icmp_lt (q := 174) (t := 176) (p3 c1) ⟨by decide, by decide⟩ dX13_sums_171 (by decide) rfl (fun c2 => ?_) (fun c2 => ?_)
    · refine z_aload_n (q := 177) 0 dX13_sums_176 rfl rfl ?_
      refine z_iload (q := 179) 3 dX13_sums_177 rfl rfl ?_
      refine z_iconst (q := 180) dX13_sums_179 rfl ?_
      refine z_aload_n (q := 181) 0 dX13_sums_180 rfl rfl ?_
      refine z_iload (q := 183) 4 dX13_sums_181 rfl rfl ?_
      refine z_iload_n (q := 184) 1 dX13_sums_183 rfl rfl ?_
      have e1 := a_X13_cellAt (D := D) (G := G) (h := h) (d := d - 1) (by omega) x6 x2 (h 88 3) (h 91 (72 * (h 88 3) + 6 * x6 + x2)) rfl (p4 c1 c2) (p5 c1 c2) rfl
      refine z_goV (q := 187) (av := [(0, x6), (0, x2)]) (rest := [(0, 0), (0, x5), (2, 88)]) cb11 (hl0.i 88 (by decide) rfl) (z_tol) hl0 (z_El.K e1 (by omega) ?_) mo_X13_cellAt np_X13_cellAt k1507 k1509 k63 rfl (nle rfl) dX13_sums_184 rfl
      have e2 := a_X13_put (D := D) (G := G) (h := h) (d := d - 1) (by omega) x5 0 (h 91 (72 * (h 88 3) + 6 * x6 + x2)) (p6 c1 c2) (p7 c1 c2)
      refine z_goV (q := 190) (av := [(0, x5), (0, 0), (1, (h 91 (72 * (h 88 3) + 6 * x6 + x2)))]) (rest := []) cb11 (hl0.i 88 (by decide) rfl) (z_tov) hl0 (z_Ev.K e2 (by omega) ?_) mo_X13_put np_X13_put k1341 k1343 k47 rfl (nle rfl) dX13_sums_187 rfl
      have hl1 : lay G (z_wr h 91 (72 * 10 + 6 * x5 + 0) (h 91 (72 * (h 88 3) + 6 * x6 + x2))) := e2.lay hl0
      refine z_aload_n (q := 191) 0 dX13_sums_190 rfl rfl ?_
      refine z_iload (q := 193) 3 dX13_sums_191 rfl rfl ?_
      refine z_iconst (q := 194) dX13_sums_193 rfl ?_
      refine z_iload (q := 196) 5 dX13_sums_194 rfl rfl ?_
      have e3 := a_X13_textOf (D := D) (G := G) (h := (z_wr h 91 (72 * 10 + 6 * x5 + 0) (h 91 (72 * (h 88 3) + 6 * x6 + x2)))) (d := d - 1) (by omega) x7 (p8 c1 c2) (p9 c1 c2)
      refine z_goS (q := 199) (av := [(0, x7)]) (rest := [(0, 1), (0, x5), (2, 88)]) (z_tol) hl1 (z_El.K e3 (by omega) ?_) mo_X13_textOf np_X13_textOf k1572 k1573 rfl (nle rfl) dX13_sums_196 rfl
      have e4 := a_X13_put (D := D) (G := G) (h := (z_wr h 91 (72 * 10 + 6 * x5 + 0) (h 91 (72 * (h 88 3) + 6 * x6 + x2)))) (d := d - 1) (by omega) x5 1 (ztx 6 x7) (p10 c1 c2) (p11 c1 c2)
      refine z_goV (q := 202) (av := [(0, x5), (0, 1), (1, (ztx 6 x7))]) (rest := []) cb11 (hl1.i 88 (by decide) rfl) (z_tov) hl1 (z_Ev.K e4 (by omega) ?_) mo_X13_put np_X13_put k1341 k1343 k47 rfl (nle rfl) dX13_sums_199 rfl
      have hl2 : lay G (z_wr (z_wr h 91 (72 * 10 + 6 * x5 + 0) (h 91 (72 * (h 88 3) + 6 * x6 + x2))) 91 (72 * 10 + 6 * x5 + 1) (ztx 6 x7)) := e4.lay hl1
      refine z_iinc (q := 205) (L' := [(0, 2, 88), (2, 0, x2), (3, 0, x3), (5, 0, (x5 + 1)), (6, 0, x6), (7, 0, x7), (8, 0, x8)]) 3 dX13_sums_202 rfl rfl (by decide) rfl ?_
      refine z_iinc (q := 208) (L' := [(0, 2, 88), (2, 0, x2), (3, 0, x3), (5, 0, (x5 + 1)), (6, 0, (x6 + 1)), (7, 0, x7), (8, 0, x8)]) 4 dX13_sums_205 rfl rfl (by decide) rfl ?_
      refine z_goto (t := 85) dX13_sums_208 (by decide) ?_
      refine z_sub (L' := [(0, 2, 88), (2, 0, x2), (3, 0, x3), (5, 0, (x5 + 1)), (6, 0, (x6 + 1))]) [0, 1, 2, 3, 4] rfl ?_
      exact u1 c1 c2 hl2
    · refine z_iconst (q := 175) dX13_sums_174 rfl ?_
      exact z_bret rfl (by decide) dX13_sums_175 ⟨hl0, u2 c1 c2⟩
  · refine z_iload (q := 126) 5 dX13_sums_124 rfl rfl ?_
    refine z_aload_n (q := 127) 0 dX13_sums_126 rfl rfl ?_
    refine z_iload (q := 129) 6 dX13_sums_127 rfl rfl ?_
    refine z_iload_n (q := 130) 1 dX13_sums_129 rfl rfl ?_
    have e5 := a_X13_cellAt (D := D) (G := G) (h := h) (d := d - 1) (by omega) x8 x2 (h 88 3) (h 91 (72 * (h 88 3) + 6 * x8 + x2)) rfl (p12 c1) (p13 c1) rfl
    refine z_goV (q := 133) (av := [(0, x8), (0, x2)]) (rest := [(0, x7)]) cb11 (hl0.i 88 (by decide) rfl) (z_tol) hl0 (z_El.K e5 (by omega) ?_) mo_X13_cellAt np_X13_cellAt k1507 k1509 k63 rfl (nle rfl) dX13_sums_130 rfl
    refine z_aload_n (q := 134) 0 dX13_sums_133 rfl rfl ?_
    refine z_iload (q := 136) 4 dX13_sums_134 rfl rfl ?_
    refine z_iload_n (q := 137) 1 dX13_sums_136 rfl rfl ?_
    have e6 := a_X13_cellAt (D := D) (G := G) (h := h) (d := d - 1) (by omega) x6 x2 (h 88 3) (h 91 (72 * (h 88 3) + 6 * x6 + x2)) rfl (p14 c1) (p15 c1) rfl
    refine z_goV (q := 140) (av := [(0, x6), (0, x2)]) (rest := [(1, (h 91 (72 * (h 88 3) + 6 * x8 + x2))), (0, x7)]) cb11 (hl0.i 88 (by decide) rfl) (z_tol) hl0 (z_El.K e6 (by omega) ?_) mo_X13_cellAt np_X13_cellAt k1507 k1509 k63 rfl (nle rfl) dX13_sums_137 rfl
    refine z_lcmp_ne (q := 144) (t := 157) (p16 c1) (p17 c1) dX13_sums_140 (rfl : _ = 141) dX13_sums_141 (by decide) rfl (fun c3 => ?_) (fun c3 => ?_)
    · refine z_iconst (q := 158) dX13_sums_157 rfl ?_
      refine z_sub (L' := [(0, 2, 88), (2, 0, x2), (3, 0, x3), (5, 0, x5), (6, 0, x6), (8, 0, x8)]) [0, 1, 2, 3, 4, 6] rfl ?_
      exact u3 c1 c3 hl0
    · refine z_aload_n (q := 145) 0 dX13_sums_144 rfl rfl ?_
      refine z_iload (q := 147) 6 dX13_sums_145 rfl rfl ?_
      refine z_iload_n (q := 148) 2 dX13_sums_147 rfl rfl ?_
      have e7 := a_X13_cellAt (D := D) (G := G) (h := h) (d := d - 1) (by omega) x8 x3 (h 88 3) (h 91 (72 * (h 88 3) + 6 * x8 + x3)) rfl (p18 c1 c3) (p19 c1 c3) rfl
      refine z_goV (q := 151) (av := [(0, x8), (0, x3)]) (rest := [(0, x7)]) cb11 (hl0.i 88 (by decide) rfl) (z_tol) hl0 (z_El.K e7 (by omega) ?_) mo_X13_cellAt np_X13_cellAt k1507 k1509 k63 rfl (nle rfl) dX13_sums_148 rfl
      have e8 := a_X13_numberOf (D := D) (G := G) (h := h) (d := d - 1) (by omega) (h 91 (72 * (h 88 3) + 6 * x8 + x3)) (p20 c1 c3) (p21 c1 c3)
      refine z_goS (q := 154) (av := [(1, (h 91 (72 * (h 88 3) + 6 * x8 + x3)))]) (rest := [(0, x7)]) (z_toi) hl0 (z_Ei.K e8 (by omega) ?_) mo_X13_numberOf np_X13_numberOf k1579 k1580 rfl (nle rfl) dX13_sums_151 rfl
      refine z_goto (t := 158) dX13_sums_154 (by decide) ?_
      refine z_sub (L' := [(0, 2, 88), (2, 0, x2), (3, 0, x3), (5, 0, x5), (6, 0, x6), (8, 0, x8)]) [0, 1, 2, 3, 4, 6] rfl ?_
      exact u4 c1 c3 hl0
theorem b_X13_sums_158 {D : zD} {d : Nat} {G : zG} {h : zH} {Q : zO → zG → zH → Prop} {s0 s1 x2 x3 x5 x6 x8 : Int}
    (u1 : z_Y D M_X13_sums d 115 [(0, 2, 88), (2, 0, x2), (3, 0, x3), (5, 0, x5), (6, 0, x6), (7, 0, (s0 + s1)), (8, 0, (x8 + 1))] [] G h Q) :
    z_Y D M_X13_sums d 158 [(0, 2, 88), (2, 0, x2), (3, 0, x3), (5, 0, x5), (6, 0, x6), (8, 0, x8)] [(0, s1), (0, s0)] G h Q := by
  intro hl0
  refine z_iadd (q := 159) dX13_sums_158 rfl ?_
  refine z_istore (q := 161) (L' := [(0, 2, 88), (2, 0, x2), (3, 0, x3), (5, 0, x5), (6, 0, x6), (7, 0, (s0 + s1)), (8, 0, x8)]) dX13_sums_159 rfl (by decide) rfl ?_
  refine z_iinc (q := 164) (L' := [(0, 2, 88), (2, 0, x2), (3, 0, x3), (5, 0, x5), (6, 0, x6), (7, 0, (s0 + s1)), (8, 0, (x8 + 1))]) 6 dX13_sums_161 rfl rfl (by decide) rfl ?_
  refine z_goto (t := 115) dX13_sums_164 (by decide) ?_
  exact u1 hl0
theorem b_X13_unfolds_0 {D : zD} {d : Nat} {G : zG} {h : zH} {Q : zO → zG → zH → Prop} {x1 : Int} (p1 : z_in x1)
    (u1 : 3 ≤ x1 → z_Y D M_X13_unfolds d 19 [(0, 2, 88), (2, 0, (x1 - 2)), (3, 0, 0), (4, 0, 0), (5, 0, 0)] [] G h Q)
    (u2 : ¬ (3 ≤ x1) → Q (.inl (some (0, 0))) G h) :
    z_Y D M_X13_unfolds d 0 [(0, 2, 88), (1, 0, x1)] [] G h Q := by
  intro hl0
  refine z_iload_n (q := 1) 1 dX13_unfolds_0 rfl rfl ?_
  refine z_iconst (q := 2) dX13_unfolds_1 rfl ?_
  refine z_icmp_ge (q := 5) (t := 7) p1 ⟨by decide, by decide⟩ dX13_unfolds_2 (by decide) rfl (fun c1 => ?_) (fun c1 => ?_)
  · refine z_iload_n (q := 8) 1 dX13_unfolds_7 rfl rfl ?_
    refine z_iconst (q := 9) dX13_unfolds_8 rfl ?_
    refine z_isub (q := 10) dX13_unfolds_9 rfl ?_
    refine z_istore_n (q := 11) (L' := [(0, 2, 88), (1, 0, x1), (2, 0, (x1 - 2))]) dX13_unfolds_10 rfl (by decide) rfl ?_
    refine z_iconst (q := 12) dX13_unfolds_11 rfl ?_
    refine z_istore_n (q := 13) (L' := [(0, 2, 88), (1, 0, x1), (2, 0, (x1 - 2)), (3, 0, 0)]) dX13_unfolds_12 rfl (by decide) rfl ?_
    refine z_iconst (q := 14) dX13_unfolds_13 rfl ?_
    refine z_istore (q := 16) (L' := [(0, 2, 88), (1, 0, x1), (2, 0, (x1 - 2)), (3, 0, 0), (4, 0, 0)]) dX13_unfolds_14 rfl (by decide) rfl ?_
    refine z_iconst (q := 17) dX13_unfolds_16 rfl ?_
    refine z_istore (q := 19) (L' := [(0, 2, 88), (1, 0, x1), (2, 0, (x1 - 2)), (3, 0, 0), (4, 0, 0), (5, 0, 0)]) dX13_unfolds_17 rfl (by decide) rfl ?_
    refine z_sub (L' := [(0, 2, 88), (2, 0, (x1 - 2)), (3, 0, 0), (4, 0, 0), (5, 0, 0)]) [0, 2, 3, 4, 5] rfl ?_
    exact u1 c1 hl0
  · refine z_iconst (q := 6) dX13_unfolds_5 rfl ?_
    exact z_bret rfl (by decide) dX13_unfolds_6 ⟨hl0, u2 c1⟩
theorem b_X13_unfolds_19 {D : zD} {d : Nat} {G : zG} {h : zH} {Q : zO → zG → zH → Prop} {x2 x3 x4 x5 : Int} (p1 : z_in x5) (p2 : z_in (h 88 4)) (p3 : (h 88 4) ≤ x5 → z_in (x3 + 1)) (p4 : (h 88 4) ≤ x5 → ¬ (12 < (x3 + 1)) → z_in (x2 + x4))
    (u1 : (h 88 4) ≤ x5 → 12 < (x3 + 1) → Q (.inl (some (0, 0))) G h)
    (u2 : (h 88 4) ≤ x5 → ¬ (12 < (x3 + 1)) → (x2 + x4) ≤ 6 → z_Kv D M_X13_shape d [(2, 88), (0, 10), (0, (x3 + 1)), (0, (x2 + x4))] G h (fun G' h' => z_Y D M_X13_unfolds d 219 [(0, 2, 88), (2, 0, x2)] [] G' h' Q))
    (u3 : (h 88 4) ≤ x5 → ¬ (12 < (x3 + 1)) → ¬ ((x2 + x4) ≤ 6) → Q (.inl (some (0, 0))) G h)
    (u4 : ¬ ((h 88 4) ≤ x5) → z_Ki D M_X13_firstLike d [(2, 88), (0, x5), (0, x2)] G h (fun r G' h' => z_Y D M_X13_unfolds d 35 [(0, 2, 88), (2, 0, x2), (3, 0, x3), (4, 0, x4), (5, 0, x5)] [(0, r)] G' h' Q)) :
    z_Y D M_X13_unfolds d 19 [(0, 2, 88), (2, 0, x2), (3, 0, x3), (4, 0, x4), (5, 0, x5)] [] G h Q := by
  intro hl0
  refine z_iload (q := 21) 4 dX13_unfolds_19 rfl rfl ?_
  refine z_aload_n (q := 22) 0 dX13_unfolds_21 rfl rfl ?_
  refine z_gf (q := 25) (ki := 4) (v := (0, (h 88 4))) fX13_126 rfl rfl (hl0.i 88 (by decide) rfl) dX13_unfolds_22 rfl ?_
  refine z_icmp_ge (q := 28) (t := 187) p1 p2 dX13_unfolds_25 (by decide) rfl (fun c1 => ?_) (fun c1 => ?_)
  · refine z_iload_n (q := 188) 2 dX13_unfolds_187 rfl rfl ?_
    refine z_iconst (q := 189) dX13_unfolds_188 rfl ?_
    refine z_iadd (q := 190) dX13_unfolds_189 rfl ?_
    refine z_bipush (q := 192) dX13_unfolds_190 rfl (by decide) ?_
    refine z_icmp_gt (q := 195) (t := 204) (p3 c1) ⟨by decide, by decide⟩ dX13_unfolds_192 (by decide) rfl (fun c2 => ?_) (fun c2 => ?_)
    · refine z_iconst (q := 205) dX13_unfolds_204 rfl ?_
      exact z_bret rfl (by decide) dX13_unfolds_205 ⟨hl0, u1 c1 c2⟩
    · refine z_iload_n (q := 196) 1 dX13_unfolds_195 rfl rfl ?_
      refine z_iload (q := 198) 3 dX13_unfolds_196 rfl rfl ?_
      refine z_iadd (q := 199) dX13_unfolds_198 rfl ?_
      refine z_bipush (q := 201) dX13_unfolds_199 rfl (by decide) ?_
      refine z_icmp_le (q := 204) (t := 206) (p4 c1 c2) ⟨by decide, by decide⟩ dX13_unfolds_201 (by decide) rfl (fun c3 => ?_) (fun c3 => ?_)
      · refine z_aload_n (q := 207) 0 dX13_unfolds_206 rfl rfl ?_
        refine z_bipush (q := 209) dX13_unfolds_207 rfl (by decide) ?_
        refine z_iload_n (q := 210) 2 dX13_unfolds_209 rfl rfl ?_
        refine z_iconst (q := 211) dX13_unfolds_210 rfl ?_
        refine z_iadd (q := 212) dX13_unfolds_211 rfl ?_
        refine z_iload_n (q := 213) 1 dX13_unfolds_212 rfl rfl ?_
        refine z_iload (q := 215) 3 dX13_unfolds_213 rfl rfl ?_
        refine z_iadd (q := 216) dX13_unfolds_215 rfl ?_
        refine z_sub (L' := [(0, 2, 88), (2, 0, x2)]) [0, 1] rfl ?_
        exact z_goV (q := 219) (av := [(0, 10), (0, (x3 + 1)), (0, (x2 + x4))]) (rest := []) cb11 (hl0.i 88 (by decide) rfl) z_tov hl0 (u2 c1 c2 c3) mo_X13_shape np_X13_shape k1319 k1321 k44 rfl (nle rfl) dX13_unfolds_216 rfl
      · refine z_iconst (q := 205) dX13_unfolds_204 rfl ?_
        exact z_bret rfl (by decide) dX13_unfolds_205 ⟨hl0, u3 c1 c2 c3⟩
  · refine z_aload_n (q := 29) 0 dX13_unfolds_28 rfl rfl ?_
    refine z_iload (q := 31) 4 dX13_unfolds_29 rfl rfl ?_
    refine z_iload_n (q := 32) 1 dX13_unfolds_31 rfl rfl ?_
    exact z_goV (q := 35) (av := [(0, x5), (0, x2)]) (rest := []) cb11 (hl0.i 88 (by decide) rfl) z_toi hl0 (u4 c1) mo_X13_firstLike np_X13_firstLike k1541 k1543 k70 rfl (nle rfl) dX13_unfolds_32 rfl
theorem b_X13_unfolds_219 {D : zD} {d : Nat} {G : zG} {h : zH} {Q : zO → zG → zH → Prop} {x2 : Int}
    (u1 : z_Y D M_X13_unfolds d 222 [(0, 2, 88), (2, 0, x2), (5, 0, 0)] [] G h Q) :
    z_Y D M_X13_unfolds d 219 [(0, 2, 88), (2, 0, x2)] [] G h Q := by
  intro hl0
  refine z_iconst (q := 220) dX13_unfolds_219 rfl ?_
  refine z_istore (q := 222) (L' := [(0, 2, 88), (2, 0, x2), (5, 0, 0)]) dX13_unfolds_220 rfl (by decide) rfl ?_
  exact u1 hl0
theorem b_X13_unfolds_35 {D : zD} {d : Nat} {G : zG} {h : zH} {Q : zO → zG → zH → Prop} {s0 x2 x3 x4 x5 : Int} (p1 : z_in s0) (p2 : z_in x5) (p3 : ¬ s0 = x5 → 0 ≤ s0) (p4 : ¬ s0 = x5 → s0 < 12)
    (u1 : ¬ s0 = x5 → z_Y D M_X13_unfolds d 61 [(0, 2, 88), (2, 0, x2), (3, 0, x3), (4, 0, x4), (5, 0, x5), (6, 0, s0)] [(0, (h 92 s0)), (0, x5), (2, 92)] G h Q)
    (u2 : ¬ (¬ s0 = x5) → z_Y D M_X13_unfolds d 61 [(0, 2, 88), (2, 0, x2), (3, 0, x3), (4, 0, x4), (5, 0, x5), (6, 0, s0)] [(0, x3), (0, x5), (2, 92)] G h Q) :
    z_Y D M_X13_unfolds d 35 [(0, 2, 88), (2, 0, x2), (3, 0, x3), (4, 0, x4), (5, 0, x5)] [(0, s0)] G h Q := by
  intro hl0
  refine z_istore (q := 37) (L' := [(0, 2, 88), (2, 0, x2), (3, 0, x3), (4, 0, x4), (5, 0, x5), (6, 0, s0)]) dX13_unfolds_35 rfl (by decide) rfl ?_
  refine z_aload_n (q := 38) 0 dX13_unfolds_37 rfl rfl ?_
  refine z_gf (q := 41) (ki := 5) (v := (2, 92)) fX13_20 rfl (z_ldr rfl (hl0.ref 84 rfl)) (hl0.i 88 (by decide) rfl) dX13_unfolds_38 rfl ?_
  refine z_iload (q := 43) 4 dX13_unfolds_41 rfl rfl ?_
  refine z_iload (q := 45) 5 dX13_unfolds_43 rfl rfl ?_
  refine z_iload (q := 47) 4 dX13_unfolds_45 rfl rfl ?_
  refine z_icmp_ne (q := 50) (t := 54) p1 p2 dX13_unfolds_47 (by decide) rfl (fun c1 => ?_) (fun c1 => ?_)
  · refine z_aload_n (q := 55) 0 dX13_unfolds_54 rfl rfl ?_
    refine z_gf (q := 58) (ki := 5) (v := (2, 92)) fX13_20 rfl (z_ldr rfl (hl0.ref 84 rfl)) (hl0.i 88 (by decide) rfl) dX13_unfolds_55 rfl ?_
    refine z_iload (q := 60) 5 dX13_unfolds_58 rfl rfl ?_
    refine z_iale (q := 61) (v := (h 92 s0)) (hl0.a 92 (by decide) rfl) (p3 c1) (p4 c1) rfl dX13_unfolds_60 rfl ?_
    exact u1 c1 hl0
  · refine z_iload_n (q := 51) 2 dX13_unfolds_50 rfl rfl ?_
    refine z_goto (t := 61) dX13_unfolds_51 (by decide) ?_
    exact u2 c1 hl0
theorem b_X13_unfolds_222 {D : zD} {d : Nat} {G : zG} {h : zH} {Q : zO → zG → zH → Prop} {x2 x5 : Int} (hd : 3 ≤ d) (p1 : z_in x5) (p2 : z_in (h 88 4)) (p3 : ¬ ((h 88 4) ≤ x5) → 0 ≤ x5) (p4 : ¬ ((h 88 4) ≤ x5) → x5 < 12) (p5 : ¬ ((h 88 4) ≤ x5) → 0 ≤ (72 * (h 88 3) + 6 * x5 + x2)) (p6 : ¬ ((h 88 4) ≤ x5) → (72 * (h 88 3) + 6 * x5 + x2) < 864) (p7 : ¬ ((h 88 4) ≤ x5) → 0 ≤ (72 * 10 + 6 * 0 + (x2 + (h 93 x5)))) (p8 : ¬ ((h 88 4) ≤ x5) → (72 * 10 + 6 * 0 + (x2 + (h 93 x5))) < 864)
    (u1 : (h 88 4) ≤ x5 → Q (.inl (some (0, 1))) G h)
    (u2 : ¬ ((h 88 4) ≤ x5) → z_Y D M_X13_unfolds d 255 [(0, 2, 88), (2, 0, x2), (5, 0, x5), (6, 0, 0)] [] G (z_wr h 91 (72 * 10 + 6 * 0 + (x2 + (h 93 x5))) (h 91 (72 * (h 88 3) + 6 * x5 + x2))) Q) :
    z_Y D M_X13_unfolds d 222 [(0, 2, 88), (2, 0, x2), (5, 0, x5)] [] G h Q := by
  intro hl0
  refine z_iload (q := 224) 2 dX13_unfolds_222 rfl rfl ?_
  refine z_aload_n (q := 225) 0 dX13_unfolds_224 rfl rfl ?_
  refine z_gf (q := 228) (ki := 4) (v := (0, (h 88 4))) fX13_126 rfl rfl (hl0.i 88 (by decide) rfl) dX13_unfolds_225 rfl ?_
  refine z_icmp_ge (q := 231) (t := 327) p1 p2 dX13_unfolds_228 (by decide) rfl (fun c1 => ?_) (fun c1 => ?_)
  · refine z_iconst (q := 328) dX13_unfolds_327 rfl ?_
    exact z_bret rfl (by decide) dX13_unfolds_328 ⟨hl0, u1 c1⟩
  · refine z_aload_n (q := 232) 0 dX13_unfolds_231 rfl rfl ?_
    refine z_iconst (q := 233) dX13_unfolds_232 rfl ?_
    refine z_iload_n (q := 234) 1 dX13_unfolds_233 rfl rfl ?_
    refine z_aload_n (q := 235) 0 dX13_unfolds_234 rfl rfl ?_
    refine z_gf (q := 238) (ki := 6) (v := (2, 93)) fX13_23 rfl (z_ldr rfl (hl0.ref 85 rfl)) (hl0.i 88 (by decide) rfl) dX13_unfolds_235 rfl ?_
    refine z_iload (q := 240) 2 dX13_unfolds_238 rfl rfl ?_
    refine z_iale (q := 241) (v := (h 93 x5)) (hl0.a 93 (by decide) rfl) (p3 c1) (p4 c1) rfl dX13_unfolds_240 rfl ?_
    refine z_iadd (q := 242) dX13_unfolds_241 rfl ?_
    refine z_aload_n (q := 243) 0 dX13_unfolds_242 rfl rfl ?_
    refine z_iload (q := 245) 2 dX13_unfolds_243 rfl rfl ?_
    refine z_iload_n (q := 246) 1 dX13_unfolds_245 rfl rfl ?_
    have e1 := a_X13_cellAt (D := D) (G := G) (h := h) (d := d - 1) (by omega) x5 x2 (h 88 3) (h 91 (72 * (h 88 3) + 6 * x5 + x2)) rfl (p5 c1) (p6 c1) rfl
    refine z_goV (q := 249) (av := [(0, x5), (0, x2)]) (rest := [(0, (x2 + (h 93 x5))), (0, 0), (2, 88)]) cb11 (hl0.i 88 (by decide) rfl) (z_tol) hl0 (z_El.K e1 (by omega) ?_) mo_X13_cellAt np_X13_cellAt k1507 k1509 k63 rfl (nle rfl) dX13_unfolds_246 rfl
    have e2 := a_X13_put (D := D) (G := G) (h := h) (d := d - 1) (by omega) 0 (x2 + (h 93 x5)) (h 91 (72 * (h 88 3) + 6 * x5 + x2)) (p7 c1) (p8 c1)
    refine z_goV (q := 252) (av := [(0, 0), (0, (x2 + (h 93 x5))), (1, (h 91 (72 * (h 88 3) + 6 * x5 + x2)))]) (rest := []) cb11 (hl0.i 88 (by decide) rfl) (z_tov) hl0 (z_Ev.K e2 (by omega) ?_) mo_X13_put np_X13_put k1341 k1343 k47 rfl (nle rfl) dX13_unfolds_249 rfl
    have hl1 : lay G (z_wr h 91 (72 * 10 + 6 * 0 + (x2 + (h 93 x5))) (h 91 (72 * (h 88 3) + 6 * x5 + x2))) := e2.lay hl0
    refine z_iconst (q := 253) dX13_unfolds_252 rfl ?_
    refine z_istore (q := 255) (L' := [(0, 2, 88), (2, 0, x2), (5, 0, x5), (6, 0, 0)]) dX13_unfolds_253 rfl (by decide) rfl ?_
    exact u2 c1 hl1
theorem b_X13_unfolds_61 {D : zD} {d : Nat} {G : zG} {h : zH} {Q : zO → zG → zH → Prop} {s1 s2 x2 x3 x4 x5 x6 : Int} (p1 : 0 ≤ s1) (p2 : s1 < 12) (p3 : z_in x6) (p4 : z_in x5)
    (u1 : ¬ x6 = x5 → z_Y D M_X13_unfolds d 75 [(0, 2, 88), (2, 0, x2), (4, 0, x4), (5, 0, x5)] [(0, 0), (0, x3)] G (z_wr h 92 s1 s2) Q)
    (u2 : ¬ (¬ x6 = x5) → z_Y D M_X13_unfolds d 75 [(0, 2, 88), (2, 0, x2), (4, 0, x4), (5, 0, x5)] [(0, 1), (0, x3)] G (z_wr h 92 s1 s2) Q) :
    z_Y D M_X13_unfolds d 61 [(0, 2, 88), (2, 0, x2), (3, 0, x3), (4, 0, x4), (5, 0, x5), (6, 0, x6)] [(0, s2), (0, s1), (2, 92)] G h Q := by
  intro hl0
  refine z_isn (q := 62) (hl0.i 92 (by decide) rfl) (hl0.n 92 (by decide) rfl) p1 p2 dX13_unfolds_61 rfl ?_
  have hl1 := hl0.wr (v := s2) (hl0.i 92 (by decide) rfl) (i := s1) rfl
  refine z_iload_n (q := 63) 2 dX13_unfolds_62 rfl rfl ?_
  refine z_iload (q := 65) 5 dX13_unfolds_63 rfl rfl ?_
  refine z_iload (q := 67) 4 dX13_unfolds_65 rfl rfl ?_
  refine z_icmp_ne (q := 70) (t := 74) p3 p4 dX13_unfolds_67 (by decide) rfl (fun c1 => ?_) (fun c1 => ?_)
  · refine z_iconst (q := 75) dX13_unfolds_74 rfl ?_
    refine z_sub (L' := [(0, 2, 88), (2, 0, x2), (4, 0, x4), (5, 0, x5)]) [0, 1, 3, 4] rfl ?_
    exact u1 c1 hl1
  · refine z_iconst (q := 71) dX13_unfolds_70 rfl ?_
    refine z_goto (t := 75) dX13_unfolds_71 (by decide) ?_
    refine z_sub (L' := [(0, 2, 88), (2, 0, x2), (4, 0, x4), (5, 0, x5)]) [0, 1, 3, 4] rfl ?_
    exact u2 c1 hl1
theorem b_X13_unfolds_255 {D : zD} {d : Nat} {G : zG} {h : zH} {Q : zO → zG → zH → Prop} {x2 x5 x6 : Int} (hd : 3 ≤ d) (p1 : z_in x6) (p2 : z_in x2) (p3 : x2 ≤ x6 → 0 ≤ x5) (p4 : x2 ≤ x6 → x5 < 12) (p5 : x2 ≤ x6 → 0 ≤ (72 * (h 88 3) + 6 * x5 + (x2 + 1))) (p6 : x2 ≤ x6 → (72 * (h 88 3) + 6 * x5 + (x2 + 1)) < 864) (p7 : x2 ≤ x6 → 0 ≤ (72 * 10 + 6 * ((h 92 x5) + 1) + (x2 + (h 93 x5)))) (p8 : x2 ≤ x6 → (72 * 10 + 6 * ((h 92 x5) + 1) + (x2 + (h 93 x5))) < 864) (p9 : ¬ (x2 ≤ x6) → 0 ≤ x5) (p10 : ¬ (x2 ≤ x6) → x5 < 12) (p11 : ¬ (x2 ≤ x6) → 0 ≤ (72 * (h 88 3) + 6 * x5 + x6)) (p12 : ¬ (x2 ≤ x6) → (72 * (h 88 3) + 6 * x5 + x6) < 864) (p13 : ¬ (x2 ≤ x6) → 0 ≤ (72 * 10 + 6 * ((h 92 x5) + 1) + x6)) (p14 : ¬ (x2 ≤ x6) → (72 * 10 + 6 * ((h 92 x5) + 1) + x6) < 864)
    (u1 : x2 ≤ x6 → z_Y D M_X13_unfolds d 222 [(0, 2, 88), (2, 0, x2), (5, 0, (x5 + 1))] [] G (z_wr h 91 (72 * 10 + 6 * ((h 92 x5) + 1) + (x2 + (h 93 x5))) (h 91 (72 * (h 88 3) + 6 * x5 + (x2 + 1)))) Q)
    (u2 : ¬ (x2 ≤ x6) → z_Y D M_X13_unfolds d 255 [(0, 2, 88), (2, 0, x2), (5, 0, x5), (6, 0, (x6 + 1))] [] G (z_wr h 91 (72 * 10 + 6 * ((h 92 x5) + 1) + x6) (h 91 (72 * (h 88 3) + 6 * x5 + x6))) Q) :
    z_Y D M_X13_unfolds d 255 [(0, 2, 88), (2, 0, x2), (5, 0, x5), (6, 0, x6)] [] G h Q := by
  intro hl0
  refine z_iload (q := 257) 3 dX13_unfolds_255 rfl rfl ?_
  refine z_iload_n (q := 258) 1 dX13_unfolds_257 rfl rfl ?_
  refine z_icmp_ge (q := 261) (t := 290) p1 p2 dX13_unfolds_258 (by decide) rfl (fun c1 => ?_) (fun c1 => ?_)
  · refine z_aload_n (q := 291) 0 dX13_unfolds_290 rfl rfl ?_
    refine z_aload_n (q := 292) 0 dX13_unfolds_291 rfl rfl ?_
    refine z_gf (q := 295) (ki := 5) (v := (2, 92)) fX13_20 rfl (z_ldr rfl (hl0.ref 84 rfl)) (hl0.i 88 (by decide) rfl) dX13_unfolds_292 rfl ?_
    refine z_iload (q := 297) 2 dX13_unfolds_295 rfl rfl ?_
    refine z_iale (q := 298) (v := (h 92 x5)) (hl0.a 92 (by decide) rfl) (p3 c1) (p4 c1) rfl dX13_unfolds_297 rfl ?_
    refine z_iconst (q := 299) dX13_unfolds_298 rfl ?_
    refine z_iadd (q := 300) dX13_unfolds_299 rfl ?_
    refine z_iload_n (q := 301) 1 dX13_unfolds_300 rfl rfl ?_
    refine z_aload_n (q := 302) 0 dX13_unfolds_301 rfl rfl ?_
    refine z_gf (q := 305) (ki := 6) (v := (2, 93)) fX13_23 rfl (z_ldr rfl (hl0.ref 85 rfl)) (hl0.i 88 (by decide) rfl) dX13_unfolds_302 rfl ?_
    refine z_iload (q := 307) 2 dX13_unfolds_305 rfl rfl ?_
    refine z_iale (q := 308) (v := (h 93 x5)) (hl0.a 93 (by decide) rfl) (p3 c1) (p4 c1) rfl dX13_unfolds_307 rfl ?_
    refine z_iadd (q := 309) dX13_unfolds_308 rfl ?_
    refine z_aload_n (q := 310) 0 dX13_unfolds_309 rfl rfl ?_
    refine z_iload (q := 312) 2 dX13_unfolds_310 rfl rfl ?_
    refine z_iload_n (q := 313) 1 dX13_unfolds_312 rfl rfl ?_
    refine z_iconst (q := 314) dX13_unfolds_313 rfl ?_
    refine z_iadd (q := 315) dX13_unfolds_314 rfl ?_
    have e1 := a_X13_cellAt (D := D) (G := G) (h := h) (d := d - 1) (by omega) x5 (x2 + 1) (h 88 3) (h 91 (72 * (h 88 3) + 6 * x5 + (x2 + 1))) rfl (p5 c1) (p6 c1) rfl
    refine z_goV (q := 318) (av := [(0, x5), (0, (x2 + 1))]) (rest := [(0, (x2 + (h 93 x5))), (0, ((h 92 x5) + 1)), (2, 88)]) cb11 (hl0.i 88 (by decide) rfl) (z_tol) hl0 (z_El.K e1 (by omega) ?_) mo_X13_cellAt np_X13_cellAt k1507 k1509 k63 rfl (nle rfl) dX13_unfolds_315 rfl
    have e2 := a_X13_put (D := D) (G := G) (h := h) (d := d - 1) (by omega) ((h 92 x5) + 1) (x2 + (h 93 x5)) (h 91 (72 * (h 88 3) + 6 * x5 + (x2 + 1))) (p7 c1) (p8 c1)
    refine z_goV (q := 321) (av := [(0, ((h 92 x5) + 1)), (0, (x2 + (h 93 x5))), (1, (h 91 (72 * (h 88 3) + 6 * x5 + (x2 + 1))))]) (rest := []) cb11 (hl0.i 88 (by decide) rfl) (z_tov) hl0 (z_Ev.K e2 (by omega) ?_) mo_X13_put np_X13_put k1341 k1343 k47 rfl (nle rfl) dX13_unfolds_318 rfl
    have hl1 : lay G (z_wr h 91 (72 * 10 + 6 * ((h 92 x5) + 1) + (x2 + (h 93 x5))) (h 91 (72 * (h 88 3) + 6 * x5 + (x2 + 1)))) := e2.lay hl0
    refine z_iinc (q := 324) (L' := [(0, 2, 88), (2, 0, x2), (5, 0, (x5 + 1)), (6, 0, x6)]) 2 dX13_unfolds_321 rfl rfl (by decide) rfl ?_
    refine z_goto (t := 222) dX13_unfolds_324 (by decide) ?_
    refine z_sub (L' := [(0, 2, 88), (2, 0, x2), (5, 0, (x5 + 1))]) [0, 1, 2] rfl ?_
    exact u1 c1 hl1
  · refine z_aload_n (q := 262) 0 dX13_unfolds_261 rfl rfl ?_
    refine z_aload_n (q := 263) 0 dX13_unfolds_262 rfl rfl ?_
    refine z_gf (q := 266) (ki := 5) (v := (2, 92)) fX13_20 rfl (z_ldr rfl (hl0.ref 84 rfl)) (hl0.i 88 (by decide) rfl) dX13_unfolds_263 rfl ?_
    refine z_iload (q := 268) 2 dX13_unfolds_266 rfl rfl ?_
    refine z_iale (q := 269) (v := (h 92 x5)) (hl0.a 92 (by decide) rfl) (p9 c1) (p10 c1) rfl dX13_unfolds_268 rfl ?_
    refine z_iconst (q := 270) dX13_unfolds_269 rfl ?_
    refine z_iadd (q := 271) dX13_unfolds_270 rfl ?_
    refine z_iload (q := 273) 3 dX13_unfolds_271 rfl rfl ?_
    refine z_aload_n (q := 274) 0 dX13_unfolds_273 rfl rfl ?_
    refine z_iload (q := 276) 2 dX13_unfolds_274 rfl rfl ?_
    refine z_iload (q := 278) 3 dX13_unfolds_276 rfl rfl ?_
    have e3 := a_X13_cellAt (D := D) (G := G) (h := h) (d := d - 1) (by omega) x5 x6 (h 88 3) (h 91 (72 * (h 88 3) + 6 * x5 + x6)) rfl (p11 c1) (p12 c1) rfl
    refine z_goV (q := 281) (av := [(0, x5), (0, x6)]) (rest := [(0, x6), (0, ((h 92 x5) + 1)), (2, 88)]) cb11 (hl0.i 88 (by decide) rfl) (z_tol) hl0 (z_El.K e3 (by omega) ?_) mo_X13_cellAt np_X13_cellAt k1507 k1509 k63 rfl (nle rfl) dX13_unfolds_278 rfl
    have e4 := a_X13_put (D := D) (G := G) (h := h) (d := d - 1) (by omega) ((h 92 x5) + 1) x6 (h 91 (72 * (h 88 3) + 6 * x5 + x6)) (p13 c1) (p14 c1)
    refine z_goV (q := 284) (av := [(0, ((h 92 x5) + 1)), (0, x6), (1, (h 91 (72 * (h 88 3) + 6 * x5 + x6)))]) (rest := []) cb11 (hl0.i 88 (by decide) rfl) (z_tov) hl0 (z_Ev.K e4 (by omega) ?_) mo_X13_put np_X13_put k1341 k1343 k47 rfl (nle rfl) dX13_unfolds_281 rfl
    have hl1 : lay G (z_wr h 91 (72 * 10 + 6 * ((h 92 x5) + 1) + x6) (h 91 (72 * (h 88 3) + 6 * x5 + x6))) := e4.lay hl0
    refine z_iinc (q := 287) (L' := [(0, 2, 88), (2, 0, x2), (5, 0, x5), (6, 0, (x6 + 1))]) 3 dX13_unfolds_284 rfl rfl (by decide) rfl ?_
    refine z_goto (t := 255) dX13_unfolds_287 (by decide) ?_
    exact u2 c1 hl1
theorem b_X13_unfolds_75 {D : zD} {d : Nat} {G : zG} {h : zH} {Q : zO → zG → zH → Prop} {s0 s1 x2 x4 x5 : Int}
    (u1 : z_Ki D M_X13_firstName d [(2, 88), (0, x5), (0, x2)] G h (fun r G' h' => z_Y D M_X13_unfolds d 84 [(0, 2, 88), (2, 0, x2), (3, 0, (s0 + s1)), (4, 0, x4), (5, 0, x5)] [(0, r)] G' h' Q)) :
    z_Y D M_X13_unfolds d 75 [(0, 2, 88), (2, 0, x2), (4, 0, x4), (5, 0, x5)] [(0, s1), (0, s0)] G h Q := by
  intro hl0
  refine z_iadd (q := 76) dX13_unfolds_75 rfl ?_
  refine z_istore_n (q := 77) (L' := [(0, 2, 88), (2, 0, x2), (3, 0, (s0 + s1)), (4, 0, x4), (5, 0, x5)]) dX13_unfolds_76 rfl (by decide) rfl ?_
  refine z_aload_n (q := 78) 0 dX13_unfolds_77 rfl rfl ?_
  refine z_iload (q := 80) 4 dX13_unfolds_78 rfl rfl ?_
  refine z_iload_n (q := 81) 1 dX13_unfolds_80 rfl rfl ?_
  exact z_goV (q := 84) (av := [(0, x5), (0, x2)]) (rest := []) cb11 (hl0.i 88 (by decide) rfl) z_toi hl0 (u1) mo_X13_firstName np_X13_firstName k1549 k1551 k72 rfl (nle rfl) dX13_unfolds_81 rfl
theorem b_X13_unfolds_84 {D : zD} {d : Nat} {G : zG} {h : zH} {Q : zO → zG → zH → Prop} {s0 x2 x3 x4 x5 : Int} (p1 : z_in s0) (p2 : z_in x5) (p3 : ¬ s0 = x5 → 0 ≤ s0) (p4 : ¬ s0 = x5 → s0 < 12)
    (u1 : ¬ s0 = x5 → z_Y D M_X13_unfolds d 111 [(0, 2, 88), (2, 0, x2), (3, 0, x3), (4, 0, x4), (5, 0, x5), (7, 0, s0)] [(0, (h 93 s0)), (0, x5), (2, 93)] G h Q)
    (u2 : ¬ (¬ s0 = x5) → z_Y D M_X13_unfolds d 111 [(0, 2, 88), (2, 0, x2), (3, 0, x3), (4, 0, x4), (5, 0, x5), (7, 0, s0)] [(0, x4), (0, x5), (2, 93)] G h Q) :
    z_Y D M_X13_unfolds d 84 [(0, 2, 88), (2, 0, x2), (3, 0, x3), (4, 0, x4), (5, 0, x5)] [(0, s0)] G h Q := by
  intro hl0
  refine z_istore (q := 86) (L' := [(0, 2, 88), (2, 0, x2), (3, 0, x3), (4, 0, x4), (5, 0, x5), (7, 0, s0)]) dX13_unfolds_84 rfl (by decide) rfl ?_
  refine z_aload_n (q := 87) 0 dX13_unfolds_86 rfl rfl ?_
  refine z_gf (q := 90) (ki := 6) (v := (2, 93)) fX13_23 rfl (z_ldr rfl (hl0.ref 85 rfl)) (hl0.i 88 (by decide) rfl) dX13_unfolds_87 rfl ?_
  refine z_iload (q := 92) 4 dX13_unfolds_90 rfl rfl ?_
  refine z_iload (q := 94) 5 dX13_unfolds_92 rfl rfl ?_
  refine z_iload (q := 96) 4 dX13_unfolds_94 rfl rfl ?_
  refine z_icmp_ne (q := 99) (t := 104) p1 p2 dX13_unfolds_96 (by decide) rfl (fun c1 => ?_) (fun c1 => ?_)
  · refine z_aload_n (q := 105) 0 dX13_unfolds_104 rfl rfl ?_
    refine z_gf (q := 108) (ki := 6) (v := (2, 93)) fX13_23 rfl (z_ldr rfl (hl0.ref 85 rfl)) (hl0.i 88 (by decide) rfl) dX13_unfolds_105 rfl ?_
    refine z_iload (q := 110) 5 dX13_unfolds_108 rfl rfl ?_
    refine z_iale (q := 111) (v := (h 93 s0)) (hl0.a 93 (by decide) rfl) (p3 c1) (p4 c1) rfl dX13_unfolds_110 rfl ?_
    exact u1 c1 hl0
  · refine z_iload (q := 101) 3 dX13_unfolds_99 rfl rfl ?_
    refine z_goto (t := 111) dX13_unfolds_101 (by decide) ?_
    exact u2 c1 hl0
theorem b_X13_unfolds_111 {D : zD} {d : Nat} {G : zG} {h : zH} {Q : zO → zG → zH → Prop} {s1 s2 x2 x3 x4 x5 x7 : Int} (p1 : 0 ≤ s1) (p2 : s1 < 12) (p3 : z_in x7) (p4 : z_in x5)
    (u1 : ¬ x7 = x5 → z_Y D M_X13_unfolds d 126 [(0, 2, 88), (2, 0, x2), (3, 0, x3), (5, 0, x5)] [(0, 0), (0, x4)] G (z_wr h 93 s1 s2) Q)
    (u2 : ¬ (¬ x7 = x5) → z_Y D M_X13_unfolds d 126 [(0, 2, 88), (2, 0, x2), (3, 0, x3), (5, 0, x5)] [(0, 1), (0, x4)] G (z_wr h 93 s1 s2) Q) :
    z_Y D M_X13_unfolds d 111 [(0, 2, 88), (2, 0, x2), (3, 0, x3), (4, 0, x4), (5, 0, x5), (7, 0, x7)] [(0, s2), (0, s1), (2, 93)] G h Q := by
  intro hl0
  refine z_isn (q := 112) (hl0.i 93 (by decide) rfl) (hl0.n 93 (by decide) rfl) p1 p2 dX13_unfolds_111 rfl ?_
  have hl1 := hl0.wr (v := s2) (hl0.i 93 (by decide) rfl) (i := s1) rfl
  refine z_iload (q := 114) 3 dX13_unfolds_112 rfl rfl ?_
  refine z_iload (q := 116) 5 dX13_unfolds_114 rfl rfl ?_
  refine z_iload (q := 118) 4 dX13_unfolds_116 rfl rfl ?_
  refine z_icmp_ne (q := 121) (t := 125) p3 p4 dX13_unfolds_118 (by decide) rfl (fun c1 => ?_) (fun c1 => ?_)
  · refine z_iconst (q := 126) dX13_unfolds_125 rfl ?_
    refine z_sub (L' := [(0, 2, 88), (2, 0, x2), (3, 0, x3), (5, 0, x5)]) [0, 1, 2, 4] rfl ?_
    exact u1 c1 hl1
  · refine z_iconst (q := 122) dX13_unfolds_121 rfl ?_
    refine z_goto (t := 126) dX13_unfolds_122 (by decide) ?_
    refine z_sub (L' := [(0, 2, 88), (2, 0, x2), (3, 0, x3), (5, 0, x5)]) [0, 1, 2, 4] rfl ?_
    exact u2 c1 hl1
theorem b_X13_unfolds_126 {D : zD} {d : Nat} {G : zG} {h : zH} {Q : zO → zG → zH → Prop} {s0 s1 x2 x3 x5 : Int}
    (u1 : z_Y D M_X13_unfolds d 132 [(0, 2, 88), (2, 0, x2), (3, 0, x3), (4, 0, (s0 + s1)), (5, 0, x5), (8, 0, 0)] [] G h Q) :
    z_Y D M_X13_unfolds d 126 [(0, 2, 88), (2, 0, x2), (3, 0, x3), (5, 0, x5)] [(0, s1), (0, s0)] G h Q := by
  intro hl0
  refine z_iadd (q := 127) dX13_unfolds_126 rfl ?_
  refine z_istore (q := 129) (L' := [(0, 2, 88), (2, 0, x2), (3, 0, x3), (4, 0, (s0 + s1)), (5, 0, x5)]) dX13_unfolds_127 rfl (by decide) rfl ?_
  refine z_iconst (q := 130) dX13_unfolds_129 rfl ?_
  refine z_istore (q := 132) (L' := [(0, 2, 88), (2, 0, x2), (3, 0, x3), (4, 0, (s0 + s1)), (5, 0, x5), (8, 0, 0)]) dX13_unfolds_130 rfl (by decide) rfl ?_
  exact u1 hl0
theorem b_X13_unfolds_132 {D : zD} {d : Nat} {G : zG} {h : zH} {Q : zO → zG → zH → Prop} {x2 x3 x4 x5 x8 : Int} (p1 : z_in x8) (p2 : z_in x5) (p3 : ¬ (x5 ≤ x8) → 0 ≤ x8) (p4 : ¬ (x5 ≤ x8) → x8 < 12) (p5 : ¬ (x5 ≤ x8) → 0 ≤ x5) (p6 : ¬ (x5 ≤ x8) → x5 < 12) (p7 : ¬ (x5 ≤ x8) → z_in (h 92 x8)) (p8 : ¬ (x5 ≤ x8) → z_in (h 92 x5)) (p9 : ¬ (x5 ≤ x8) → ¬ (¬ (h 92 x8) = (h 92 x5)) → z_in (h 93 x8)) (p10 : ¬ (x5 ≤ x8) → ¬ (¬ (h 92 x8) = (h 92 x5)) → z_in (h 93 x5))
    (u1 : x5 ≤ x8 → z_Y D M_X13_unfolds d 19 [(0, 2, 88), (2, 0, x2), (3, 0, x3), (4, 0, x4), (5, 0, (x5 + 1))] [] G h Q)
    (u2 : ¬ (x5 ≤ x8) → ¬ (h 92 x8) = (h 92 x5) → z_Y D M_X13_unfolds d 132 [(0, 2, 88), (2, 0, x2), (3, 0, x3), (4, 0, x4), (5, 0, x5), (8, 0, (x8 + 1))] [] G h Q)
    (u3 : ¬ (x5 ≤ x8) → ¬ (¬ (h 92 x8) = (h 92 x5)) → ¬ (h 93 x8) = (h 93 x5) → z_Y D M_X13_unfolds d 132 [(0, 2, 88), (2, 0, x2), (3, 0, x3), (4, 0, x4), (5, 0, x5), (8, 0, (x8 + 1))] [] G h Q)
    (u4 : ¬ (x5 ≤ x8) → ¬ (¬ (h 92 x8) = (h 92 x5)) → ¬ (¬ (h 93 x8) = (h 93 x5)) → Q (.inl (some (0, 0))) G h) :
    z_Y D M_X13_unfolds d 132 [(0, 2, 88), (2, 0, x2), (3, 0, x3), (4, 0, x4), (5, 0, x5), (8, 0, x8)] [] G h Q := by
  intro hl0
  refine z_iload (q := 134) 5 dX13_unfolds_132 rfl rfl ?_
  refine z_iload (q := 136) 4 dX13_unfolds_134 rfl rfl ?_
  refine z_icmp_ge (q := 139) (t := 181) p1 p2 dX13_unfolds_136 (by decide) rfl (fun c1 => ?_) (fun c1 => ?_)
  · refine z_iinc (q := 184) (L' := [(0, 2, 88), (2, 0, x2), (3, 0, x3), (4, 0, x4), (5, 0, (x5 + 1)), (8, 0, x8)]) 4 dX13_unfolds_181 rfl rfl (by decide) rfl ?_
    refine z_goto (t := 19) dX13_unfolds_184 (by decide) ?_
    refine z_sub (L' := [(0, 2, 88), (2, 0, x2), (3, 0, x3), (4, 0, x4), (5, 0, (x5 + 1))]) [0, 1, 2, 3, 4] rfl ?_
    exact u1 c1 hl0
  · refine z_aload_n (q := 140) 0 dX13_unfolds_139 rfl rfl ?_
    refine z_gf (q := 143) (ki := 5) (v := (2, 92)) fX13_20 rfl (z_ldr rfl (hl0.ref 84 rfl)) (hl0.i 88 (by decide) rfl) dX13_unfolds_140 rfl ?_
    refine z_iload (q := 145) 5 dX13_unfolds_143 rfl rfl ?_
    refine z_iale (q := 146) (v := (h 92 x8)) (hl0.a 92 (by decide) rfl) (p3 c1) (p4 c1) rfl dX13_unfolds_145 rfl ?_
    refine z_aload_n (q := 147) 0 dX13_unfolds_146 rfl rfl ?_
    refine z_gf (q := 150) (ki := 5) (v := (2, 92)) fX13_20 rfl (z_ldr rfl (hl0.ref 84 rfl)) (hl0.i 88 (by decide) rfl) dX13_unfolds_147 rfl ?_
    refine z_iload (q := 152) 4 dX13_unfolds_150 rfl rfl ?_
    refine z_iale (q := 153) (v := (h 92 x5)) (hl0.a 92 (by decide) rfl) (p5 c1) (p6 c1) rfl dX13_unfolds_152 rfl ?_
    refine z_icmp_ne (q := 156) (t := 175) (p7 c1) (p8 c1) dX13_unfolds_153 (by decide) rfl (fun c2 => ?_) (fun c2 => ?_)
    · refine z_iinc (q := 178) (L' := [(0, 2, 88), (2, 0, x2), (3, 0, x3), (4, 0, x4), (5, 0, x5), (8, 0, (x8 + 1))]) 5 dX13_unfolds_175 rfl rfl (by decide) rfl ?_
      refine z_goto (t := 132) dX13_unfolds_178 (by decide) ?_
      exact u2 c1 c2 hl0
    · refine z_aload_n (q := 157) 0 dX13_unfolds_156 rfl rfl ?_
      refine z_gf (q := 160) (ki := 6) (v := (2, 93)) fX13_23 rfl (z_ldr rfl (hl0.ref 85 rfl)) (hl0.i 88 (by decide) rfl) dX13_unfolds_157 rfl ?_
      refine z_iload (q := 162) 5 dX13_unfolds_160 rfl rfl ?_
      refine z_iale (q := 163) (v := (h 93 x8)) (hl0.a 93 (by decide) rfl) (p3 c1) (p4 c1) rfl dX13_unfolds_162 rfl ?_
      refine z_aload_n (q := 164) 0 dX13_unfolds_163 rfl rfl ?_
      refine z_gf (q := 167) (ki := 6) (v := (2, 93)) fX13_23 rfl (z_ldr rfl (hl0.ref 85 rfl)) (hl0.i 88 (by decide) rfl) dX13_unfolds_164 rfl ?_
      refine z_iload (q := 169) 4 dX13_unfolds_167 rfl rfl ?_
      refine z_iale (q := 170) (v := (h 93 x5)) (hl0.a 93 (by decide) rfl) (p5 c1) (p6 c1) rfl dX13_unfolds_169 rfl ?_
      refine z_icmp_ne (q := 173) (t := 175) (p9 c1 c2) (p10 c1 c2) dX13_unfolds_170 (by decide) rfl (fun c3 => ?_) (fun c3 => ?_)
      · refine z_iinc (q := 178) (L' := [(0, 2, 88), (2, 0, x2), (3, 0, x3), (4, 0, x4), (5, 0, x5), (8, 0, (x8 + 1))]) 5 dX13_unfolds_175 rfl rfl (by decide) rfl ?_
        refine z_goto (t := 132) dX13_unfolds_178 (by decide) ?_
        exact u3 c1 c2 c3 hl0
      · refine z_iconst (q := 174) dX13_unfolds_173 rfl ?_
        exact z_bret rfl (by decide) dX13_unfolds_174 ⟨hl0, u4 c1 c2 c3⟩
theorem b_X13_makes_0 {D : zD} {d : Nat} {G : zG} {h : zH} {Q : zO → zG → zH → Prop} {x1 x2 x3 x4 : Int} (p1 : 0 ≤ x1) (p2 : x1 < 12)
    (u1 : z_Ki D M_X13_hasAny d [(2, 88), (0, x1)] G (z_wr (z_wr h 88 3 x1) 88 4 (h 89 x1)) (fun r G' h' => z_Y D M_X13_makes d 28 [(0, 2, 88), (2, 0, x2), (3, 0, x3), (4, 0, x4), (5, 0, (h 90 x1))] [(0, r)] G' h' Q)) :
    z_Y D M_X13_makes d 0 [(0, 2, 88), (1, 0, x1), (2, 0, x2), (3, 0, x3), (4, 0, x4)] [] G h Q := by
  intro hl0
  refine z_aload_n (q := 1) 0 dX13_makes_0 rfl rfl ?_
  refine z_iload_n (q := 2) 1 dX13_makes_1 rfl rfl ?_
  refine z_pf (q := 5) (ki := 3) fX13_117 rfl (z_sv0 rfl) (hl0.i 88 (by decide) rfl) dX13_makes_2 rfl ?_
  have hl1 := hl0.wr (v := x1) (hl0.i 88 (by decide) rfl) (i := 3) (by decide)
  refine z_aload_n (q := 6) 0 dX13_makes_5 rfl rfl ?_
  refine z_aload_n (q := 7) 0 dX13_makes_6 rfl rfl ?_
  refine z_gf (q := 10) (ki := 0) (v := (2, 89)) fX13_9 rfl (z_ldr rfl (hl1.ref 81 rfl)) (hl1.i 88 (by decide) rfl) dX13_makes_7 rfl ?_
  refine z_iload_n (q := 11) 1 dX13_makes_10 rfl rfl ?_
  refine z_iale (q := 12) (v := (h 89 x1)) (hl1.a 89 (by decide) rfl) p1 p2 (w_na (by decide)) dX13_makes_11 rfl ?_
  refine z_pf (q := 15) (ki := 4) fX13_126 rfl (z_sv0 rfl) (hl1.i 88 (by decide) rfl) dX13_makes_12 rfl ?_
  have hl2 := hl1.wr (v := (h 89 x1)) (hl1.i 88 (by decide) rfl) (i := 4) (by decide)
  refine z_aload_n (q := 16) 0 dX13_makes_15 rfl rfl ?_
  refine z_gf (q := 19) (ki := 1) (v := (2, 90)) fX13_13 rfl (z_ldr rfl (hl2.ref 82 rfl)) (hl2.i 88 (by decide) rfl) dX13_makes_16 rfl ?_
  refine z_iload_n (q := 20) 1 dX13_makes_19 rfl rfl ?_
  refine z_iale (q := 21) (v := (h 90 x1)) (hl2.a 90 (by decide) rfl) p1 p2 ((w_na (by decide)).trans (w_na (by decide))) dX13_makes_20 rfl ?_
  refine z_istore (q := 23) (L' := [(0, 2, 88), (1, 0, x1), (2, 0, x2), (3, 0, x3), (4, 0, x4), (5, 0, (h 90 x1))]) dX13_makes_21 rfl (by decide) rfl ?_
  refine z_aload_n (q := 24) 0 dX13_makes_23 rfl rfl ?_
  refine z_iload_n (q := 25) 1 dX13_makes_24 rfl rfl ?_
  refine z_sub (L' := [(0, 2, 88), (2, 0, x2), (3, 0, x3), (4, 0, x4), (5, 0, (h 90 x1))]) [0, 2, 3, 4, 5] rfl ?_
  exact z_goV (q := 28) (av := [(0, x1)]) (rest := []) cb11 (hl2.i 88 (by decide) rfl) z_toi hl2 (u1) mo_X13_hasAny np_X13_hasAny k1499 k1501 k61 rfl (nle rfl) dX13_makes_25 rfl
theorem b_X13_makes_28 {D : zD} {d : Nat} {G : zG} {h : zH} {Q : zO → zG → zH → Prop} {s0 x2 x3 x4 x5 : Int} (p1 : z_in s0) (p2 : ¬ (¬ s0 = 0) → z_in x3) (p3 : ¬ (¬ s0 = 0) → ¬ (x3 < 0) → z_in x4) (p4 : ¬ (¬ s0 = 0) → ¬ (x3 < 0) → 0 ≤ x4 → z_in x2)
    (u1 : ¬ s0 = 0 → Q (.inl (some (0, 0))) G h)
    (u2 : ¬ (¬ s0 = 0) → x3 < 0 → Q (.inl (some (0, 0))) G h)
    (u3 : ¬ (¬ s0 = 0) → ¬ (x3 < 0) → 0 ≤ x4 → x2 = 1 → z_Y D M_X13_makes d 65 [(0, 2, 88), (2, 0, x2), (3, 0, x3), (4, 0, x4), (5, 0, x5)] [] G h Q)
    (u4 : ¬ (¬ s0 = 0) → ¬ (x3 < 0) → 0 ≤ x4 → ¬ (x2 = 1) → x2 = 7 → z_Y D M_X13_makes d 65 [(0, 2, 88), (2, 0, x2), (3, 0, x3), (4, 0, x4), (5, 0, x5)] [] G h Q)
    (u5 : ¬ (¬ s0 = 0) → ¬ (x3 < 0) → 0 ≤ x4 → ¬ (x2 = 1) → ¬ (x2 = 7) → x2 = 9 → z_Y D M_X13_makes d 65 [(0, 2, 88), (2, 0, x2), (3, 0, x3), (4, 0, x4), (5, 0, x5)] [] G h Q)
    (u6 : ¬ (¬ s0 = 0) → ¬ (x3 < 0) → 0 ≤ x4 → ¬ (x2 = 1) → ¬ (x2 = 7) → ¬ (x2 = 9) → ¬ x2 = 13 → z_Y D M_X13_makes d 70 [(0, 2, 88), (2, 0, x2), (3, 0, x3), (4, 0, x4), (5, 0, x5)] [(0, 0)] G h Q)
    (u7 : ¬ (¬ s0 = 0) → ¬ (x3 < 0) → 0 ≤ x4 → ¬ (x2 = 1) → ¬ (x2 = 7) → ¬ (x2 = 9) → ¬ (¬ x2 = 13) → z_Y D M_X13_makes d 65 [(0, 2, 88), (2, 0, x2), (3, 0, x3), (4, 0, x4), (5, 0, x5)] [] G h Q)
    (u8 : ¬ (¬ s0 = 0) → ¬ (x3 < 0) → ¬ (0 ≤ x4) → Q (.inl (some (0, 0))) G h) :
    z_Y D M_X13_makes d 28 [(0, 2, 88), (2, 0, x2), (3, 0, x3), (4, 0, x4), (5, 0, x5)] [(0, s0)] G h Q := by
  intro hl0
  refine z_if_ne (q := 31) (t := 40) p1 dX13_makes_28 (by decide) rfl (fun c1 => ?_) (fun c1 => ?_)
  · refine z_iconst (q := 41) dX13_makes_40 rfl ?_
    exact z_bret rfl (by decide) dX13_makes_41 ⟨hl0, u1 c1⟩
  · refine z_iload_n (q := 32) 2 dX13_makes_31 rfl rfl ?_
    refine z_if_lt (q := 35) (t := 40) (p2 c1) dX13_makes_32 (by decide) rfl (fun c2 => ?_) (fun c2 => ?_)
    · refine z_iconst (q := 41) dX13_makes_40 rfl ?_
      exact z_bret rfl (by decide) dX13_makes_41 ⟨hl0, u2 c1 c2⟩
    · refine z_iload (q := 37) 3 dX13_makes_35 rfl rfl ?_
      refine z_if_ge (q := 40) (t := 42) (p3 c1 c2) dX13_makes_37 (by decide) rfl (fun c3 => ?_) (fun c3 => ?_)
      · refine z_iload_n (q := 43) 1 dX13_makes_42 rfl rfl ?_
        refine z_iconst (q := 44) dX13_makes_43 rfl ?_
        refine z_icmp_eq (q := 47) (t := 65) (p4 c1 c2 c3) ⟨by decide, by decide⟩ dX13_makes_44 (by decide) rfl (fun c4 => ?_) (fun c4 => ?_)
        · exact u3 c1 c2 c3 c4 hl0
        · refine z_iload_n (q := 48) 1 dX13_makes_47 rfl rfl ?_
          refine z_bipush (q := 50) dX13_makes_48 rfl (by decide) ?_
          refine z_icmp_eq (q := 53) (t := 65) (p4 c1 c2 c3) ⟨by decide, by decide⟩ dX13_makes_50 (by decide) rfl (fun c5 => ?_) (fun c5 => ?_)
          · exact u4 c1 c2 c3 c4 c5 hl0
          · refine z_iload_n (q := 54) 1 dX13_makes_53 rfl rfl ?_
            refine z_bipush (q := 56) dX13_makes_54 rfl (by decide) ?_
            refine z_icmp_eq (q := 59) (t := 65) (p4 c1 c2 c3) ⟨by decide, by decide⟩ dX13_makes_56 (by decide) rfl (fun c6 => ?_) (fun c6 => ?_)
            · exact u5 c1 c2 c3 c4 c5 c6 hl0
            · refine z_iload_n (q := 60) 1 dX13_makes_59 rfl rfl ?_
              refine z_bipush (q := 62) dX13_makes_60 rfl (by decide) ?_
              refine z_icmp_ne (q := 65) (t := 69) (p4 c1 c2 c3) ⟨by decide, by decide⟩ dX13_makes_62 (by decide) rfl (fun c7 => ?_) (fun c7 => ?_)
              · refine z_iconst (q := 70) dX13_makes_69 rfl ?_
                exact u6 c1 c2 c3 c4 c5 c6 c7 hl0
              · exact u7 c1 c2 c3 c4 c5 c6 c7 hl0
      · refine z_iconst (q := 41) dX13_makes_40 rfl ?_
        exact z_bret rfl (by decide) dX13_makes_41 ⟨hl0, u8 c1 c2 c3⟩
theorem b_X13_makes_65 {D : zD} {d : Nat} {G : zG} {h : zH} {Q : zO → zG → zH → Prop} {x2 x3 x4 x5 : Int}
    (u1 : z_Y D M_X13_makes d 70 [(0, 2, 88), (2, 0, x2), (3, 0, x3), (4, 0, x4), (5, 0, x5)] [(0, 1)] G h Q) :
    z_Y D M_X13_makes d 65 [(0, 2, 88), (2, 0, x2), (3, 0, x3), (4, 0, x4), (5, 0, x5)] [] G h Q := by
  intro hl0
  refine z_iconst (q := 66) dX13_makes_65 rfl ?_
  refine z_goto (t := 70) dX13_makes_66 (by decide) ?_
  exact u1 hl0
theorem b_X13_makes_70 {D : zD} {d : Nat} {G : zG} {h : zH} {Q : zO → zG → zH → Prop} {s0 x2 x3 x4 x5 : Int} (p1 : z_in x2)
    (u1 : x2 = 3 → z_Y D M_X13_makes d 88 [(0, 2, 88), (2, 0, x2), (3, 0, x3), (4, 0, x4), (5, 0, x5), (6, 0, s0)] [] G h Q)
    (u2 : ¬ (x2 = 3) → x2 = 5 → z_Y D M_X13_makes d 88 [(0, 2, 88), (2, 0, x2), (3, 0, x3), (4, 0, x4), (5, 0, x5), (6, 0, s0)] [] G h Q)
    (u3 : ¬ (x2 = 3) → ¬ (x2 = 5) → ¬ x2 = 11 → z_Y D M_X13_makes d 93 [(0, 2, 88), (2, 0, x2), (3, 0, x3), (4, 0, x4), (5, 0, x5), (6, 0, s0)] [(0, 0)] G h Q)
    (u4 : ¬ (x2 = 3) → ¬ (x2 = 5) → ¬ (¬ x2 = 11) → z_Y D M_X13_makes d 88 [(0, 2, 88), (2, 0, x2), (3, 0, x3), (4, 0, x4), (5, 0, x5), (6, 0, s0)] [] G h Q) :
    z_Y D M_X13_makes d 70 [(0, 2, 88), (2, 0, x2), (3, 0, x3), (4, 0, x4), (5, 0, x5)] [(0, s0)] G h Q := by
  intro hl0
  refine z_istore (q := 72) (L' := [(0, 2, 88), (2, 0, x2), (3, 0, x3), (4, 0, x4), (5, 0, x5), (6, 0, s0)]) dX13_makes_70 rfl (by decide) rfl ?_
  refine z_iload_n (q := 73) 1 dX13_makes_72 rfl rfl ?_
  refine z_iconst (q := 74) dX13_makes_73 rfl ?_
  refine z_icmp_eq (q := 77) (t := 88) p1 ⟨by decide, by decide⟩ dX13_makes_74 (by decide) rfl (fun c1 => ?_) (fun c1 => ?_)
  · exact u1 c1 hl0
  · refine z_iload_n (q := 78) 1 dX13_makes_77 rfl rfl ?_
    refine z_iconst (q := 79) dX13_makes_78 rfl ?_
    refine z_icmp_eq (q := 82) (t := 88) p1 ⟨by decide, by decide⟩ dX13_makes_79 (by decide) rfl (fun c2 => ?_) (fun c2 => ?_)
    · exact u2 c1 c2 hl0
    · refine z_iload_n (q := 83) 1 dX13_makes_82 rfl rfl ?_
      refine z_bipush (q := 85) dX13_makes_83 rfl (by decide) ?_
      refine z_icmp_ne (q := 88) (t := 92) p1 ⟨by decide, by decide⟩ dX13_makes_85 (by decide) rfl (fun c3 => ?_) (fun c3 => ?_)
      · refine z_iconst (q := 93) dX13_makes_92 rfl ?_
        exact u3 c1 c2 c3 hl0
      · exact u4 c1 c2 c3 hl0
theorem b_X13_makes_88 {D : zD} {d : Nat} {G : zG} {h : zH} {Q : zO → zG → zH → Prop} {x2 x3 x4 x5 x6 : Int}
    (u1 : z_Y D M_X13_makes d 93 [(0, 2, 88), (2, 0, x2), (3, 0, x3), (4, 0, x4), (5, 0, x5), (6, 0, x6)] [(0, 1)] G h Q) :
    z_Y D M_X13_makes d 88 [(0, 2, 88), (2, 0, x2), (3, 0, x3), (4, 0, x4), (5, 0, x5), (6, 0, x6)] [] G h Q := by
  intro hl0
  refine z_iconst (q := 89) dX13_makes_88 rfl ?_
  refine z_goto (t := 93) dX13_makes_89 (by decide) ?_
  exact u1 hl0
theorem b_X13_makes_93 {D : zD} {d : Nat} {G : zG} {h : zH} {Q : zO → zG → zH → Prop} {s0 x2 x3 x4 x5 x6 : Int} (p1 : z_in x6) (p2 : ¬ (x6 = 0) → z_in x3)
    (u1 : x6 = 0 → z_Y D M_X13_makes d 104 [(0, 2, 88), (2, 0, x2), (3, 0, x3), (4, 0, x4), (5, 0, x5), (6, 0, x6), (7, 0, s0)] [] G h Q)
    (u2 : ¬ (x6 = 0) → ¬ x3 = 0 → Q (.inl (some (0, 0))) G h)
    (u3 : ¬ (x6 = 0) → ¬ (¬ x3 = 0) → z_Y D M_X13_makes d 104 [(0, 2, 88), (2, 0, x2), (3, 0, x3), (4, 0, x4), (5, 0, x5), (6, 0, x6), (7, 0, s0)] [] G h Q) :
    z_Y D M_X13_makes d 93 [(0, 2, 88), (2, 0, x2), (3, 0, x3), (4, 0, x4), (5, 0, x5), (6, 0, x6)] [(0, s0)] G h Q := by
  intro hl0
  refine z_istore (q := 95) (L' := [(0, 2, 88), (2, 0, x2), (3, 0, x3), (4, 0, x4), (5, 0, x5), (6, 0, x6), (7, 0, s0)]) dX13_makes_93 rfl (by decide) rfl ?_
  refine z_iload (q := 97) 5 dX13_makes_95 rfl rfl ?_
  refine z_if_eq (q := 100) (t := 104) p1 dX13_makes_97 (by decide) rfl (fun c1 => ?_) (fun c1 => ?_)
  · exact u1 c1 hl0
  · refine z_iload_n (q := 101) 2 dX13_makes_100 rfl rfl ?_
    refine z_if_ne (q := 104) (t := 125) (p2 c1) dX13_makes_101 (by decide) rfl (fun c2 => ?_) (fun c2 => ?_)
    · refine z_iconst (q := 126) dX13_makes_125 rfl ?_
      exact z_bret rfl (by decide) dX13_makes_126 ⟨hl0, u2 c1 c2⟩
    · exact u3 c1 c2 hl0
theorem b_X13_makes_104 {D : zD} {d : Nat} {G : zG} {h : zH} {Q : zO → zG → zH → Prop} {x2 x3 x4 x5 x6 x7 : Int} (p1 : z_in x7) (p2 : ¬ (¬ x7 = 0) → z_in x4)
    (u1 : ¬ x7 = 0 → z_Y D M_X13_makes d 114 [(0, 2, 88), (2, 0, x2), (3, 0, x3), (4, 0, x4), (5, 0, x5), (6, 0, x6)] [] G h Q)
    (u2 : ¬ (¬ x7 = 0) → ¬ x4 = 0 → Q (.inl (some (0, 0))) G h)
    (u3 : ¬ (¬ x7 = 0) → ¬ (¬ x4 = 0) → z_Y D M_X13_makes d 114 [(0, 2, 88), (2, 0, x2), (3, 0, x3), (4, 0, x4), (5, 0, x5), (6, 0, x6)] [] G h Q) :
    z_Y D M_X13_makes d 104 [(0, 2, 88), (2, 0, x2), (3, 0, x3), (4, 0, x4), (5, 0, x5), (6, 0, x6), (7, 0, x7)] [] G h Q := by
  intro hl0
  refine z_iload (q := 106) 6 dX13_makes_104 rfl rfl ?_
  refine z_if_ne (q := 109) (t := 114) p1 dX13_makes_106 (by decide) rfl (fun c1 => ?_) (fun c1 => ?_)
  · refine z_sub (L' := [(0, 2, 88), (2, 0, x2), (3, 0, x3), (4, 0, x4), (5, 0, x5), (6, 0, x6)]) [0, 1, 2, 3, 4, 5] rfl ?_
    exact u1 c1 hl0
  · refine z_iload (q := 111) 3 dX13_makes_109 rfl rfl ?_
    refine z_if_ne (q := 114) (t := 125) (p2 c1) dX13_makes_111 (by decide) rfl (fun c2 => ?_) (fun c2 => ?_)
    · refine z_iconst (q := 126) dX13_makes_125 rfl ?_
      exact z_bret rfl (by decide) dX13_makes_126 ⟨hl0, u2 c1 c2⟩
    · refine z_sub (L' := [(0, 2, 88), (2, 0, x2), (3, 0, x3), (4, 0, x4), (5, 0, x5), (6, 0, x6)]) [0, 1, 2, 3, 4, 5] rfl ?_
      exact u3 c1 c2 hl0
theorem b_X13_makes_114 {D : zD} {d : Nat} {G : zG} {h : zH} {Q : zO → zG → zH → Prop} {x2 x3 x4 x5 x6 : Int} (p1 : z_in x6) (p2 : ¬ (¬ x6 = 0) → z_in x3) (p3 : ¬ (¬ x6 = 0) → z_in x5)
    (u1 : ¬ x6 = 0 → z_Y D M_X13_makes d 127 [(0, 2, 88), (2, 0, x2), (3, 0, x3), (4, 0, x4), (5, 0, x5)] [] G h Q)
    (u2 : ¬ (¬ x6 = 0) → x3 < x5 → z_Y D M_X13_makes d 127 [(0, 2, 88), (2, 0, x2), (3, 0, x3), (4, 0, x4), (5, 0, x5)] [] G h Q)
    (u3 : ¬ (¬ x6 = 0) → ¬ (x3 < x5) → Q (.inl (some (0, 0))) G h) :
    z_Y D M_X13_makes d 114 [(0, 2, 88), (2, 0, x2), (3, 0, x3), (4, 0, x4), (5, 0, x5), (6, 0, x6)] [] G h Q := by
  intro hl0
  refine z_iload (q := 116) 5 dX13_makes_114 rfl rfl ?_
  refine z_if_ne (q := 119) (t := 127) p1 dX13_makes_116 (by decide) rfl (fun c1 => ?_) (fun c1 => ?_)
  · refine z_sub (L' := [(0, 2, 88), (2, 0, x2), (3, 0, x3), (4, 0, x4), (5, 0, x5)]) [0, 1, 2, 3, 4] rfl ?_
    exact u1 c1 hl0
  · refine z_iload_n (q := 120) 2 dX13_makes_119 rfl rfl ?_
    refine z_iload (q := 122) 4 dX13_makes_120 rfl rfl ?_
    refine z_icmp_lt (q := 125) (t := 127) (p2 c1) (p3 c1) dX13_makes_122 (by decide) rfl (fun c2 => ?_) (fun c2 => ?_)
    · refine z_sub (L' := [(0, 2, 88), (2, 0, x2), (3, 0, x3), (4, 0, x4), (5, 0, x5)]) [0, 1, 2, 3, 4] rfl ?_
      exact u2 c1 c2 hl0
    · refine z_iconst (q := 126) dX13_makes_125 rfl ?_
      exact z_bret rfl (by decide) dX13_makes_126 ⟨hl0, u3 c1 c2⟩
theorem b_X13_makes_127 {D : zD} {d : Nat} {G : zG} {h : zH} {Q : zO → zG → zH → Prop} {x2 x3 x4 x5 : Int} (p1 : ¬ x2 = 1 → ¬ x2 = 2 → ¬ x2 = 3 → ¬ x2 = 4 → ¬ x2 = 5 → ¬ x2 = 6 → ¬ x2 = 7 → ¬ x2 = 8 → ¬ x2 = 9 → ¬ x2 = 10 → ¬ x2 = 11 → ¬ x2 = 12 → ¬ x2 = 13 → z_in x2)
    (u1 : x2 = 1 → z_Ki D M_X13_turns d [(2, 88), (0, x5)] G h (fun r G' h' => z_Y D M_X13_makes d 202 [] [(0, r)] G' h' Q))
    (u2 : ¬ x2 = 1 → x2 = 2 → z_Ki D M_X13_drops d [(2, 88), (0, x5), (0, x3)] G h (fun r G' h' => z_Y D M_X13_makes d 210 [] [(0, r)] G' h' Q))
    (u3 : ¬ x2 = 1 → ¬ x2 = 2 → x2 = 3 → z_Ki D M_X13_splits d [(2, 88), (0, x5), (0, x3), (0, x4)] G h (fun r G' h' => z_Y D M_X13_makes d 220 [] [(0, r)] G' h' Q))
    (u4 : ¬ x2 = 1 → ¬ x2 = 2 → ¬ x2 = 3 → x2 = 4 → z_Ki D M_X13_fills d [(2, 88), (0, x5), (0, x3)] G h (fun r G' h' => z_Y D M_X13_makes d 228 [] [(0, r)] G' h' Q))
    (u5 : ¬ x2 = 1 → ¬ x2 = 2 → ¬ x2 = 3 → ¬ x2 = 4 → x2 = 5 → z_Ki D M_X13_joins d [(2, 88), (0, x5), (0, x3), (0, x4)] G h (fun r G' h' => z_Y D M_X13_makes d 238 [] [(0, r)] G' h' Q))
    (u6 : ¬ x2 = 1 → ¬ x2 = 2 → ¬ x2 = 3 → ¬ x2 = 4 → ¬ x2 = 5 → x2 = 6 → z_Ki D M_X13_folds d [(2, 88), (0, x5), (0, x3)] G h (fun r G' h' => z_Y D M_X13_makes d 246 [] [(0, r)] G' h' Q))
    (u7 : ¬ x2 = 1 → ¬ x2 = 2 → ¬ x2 = 3 → ¬ x2 = 4 → ¬ x2 = 5 → ¬ x2 = 6 → x2 = 7 → z_Ki D M_X13_unfolds d [(2, 88), (0, x5)] G h (fun r G' h' => z_Y D M_X13_makes d 253 [] [(0, r)] G' h' Q))
    (u8 : ¬ x2 = 1 → ¬ x2 = 2 → ¬ x2 = 3 → ¬ x2 = 4 → ¬ x2 = 5 → ¬ x2 = 6 → ¬ x2 = 7 → x2 = 8 → z_Ki D M_X13_sorts d [(2, 88), (0, x5), (0, x3)] G h (fun r G' h' => z_Y D M_X13_makes d 261 [] [(0, r)] G' h' Q))
    (u9 : ¬ x2 = 1 → ¬ x2 = 2 → ¬ x2 = 3 → ¬ x2 = 4 → ¬ x2 = 5 → ¬ x2 = 6 → ¬ x2 = 7 → ¬ x2 = 8 → x2 = 9 → z_Ki D M_X13_singles d [(2, 88), (0, x5)] G h (fun r G' h' => z_Y D M_X13_makes d 268 [] [(0, r)] G' h' Q))
    (u10 : ¬ x2 = 1 → ¬ x2 = 2 → ¬ x2 = 3 → ¬ x2 = 4 → ¬ x2 = 5 → ¬ x2 = 6 → ¬ x2 = 7 → ¬ x2 = 8 → ¬ x2 = 9 → x2 = 10 → z_Ki D M_X13_counts d [(2, 88), (0, x3)] G h (fun r G' h' => z_Y D M_X13_makes d 274 [] [(0, r)] G' h' Q))
    (u11 : ¬ x2 = 1 → ¬ x2 = 2 → ¬ x2 = 3 → ¬ x2 = 4 → ¬ x2 = 5 → ¬ x2 = 6 → ¬ x2 = 7 → ¬ x2 = 8 → ¬ x2 = 9 → ¬ x2 = 10 → x2 = 11 → z_Ki D M_X13_sums d [(2, 88), (0, x5), (0, x3), (0, x4)] G h (fun r G' h' => z_Y D M_X13_makes d 284 [] [(0, r)] G' h' Q))
    (u12 : ¬ x2 = 1 → ¬ x2 = 2 → ¬ x2 = 3 → ¬ x2 = 4 → ¬ x2 = 5 → ¬ x2 = 6 → ¬ x2 = 7 → ¬ x2 = 8 → ¬ x2 = 9 → ¬ x2 = 10 → ¬ x2 = 11 → x2 = 12 → z_Ki D M_X13_keeps d [(2, 88), (0, x5), (0, x3)] G h (fun r G' h' => z_Y D M_X13_makes d 292 [] [(0, r)] G' h' Q))
    (u13 : ¬ x2 = 1 → ¬ x2 = 2 → ¬ x2 = 3 → ¬ x2 = 4 → ¬ x2 = 5 → ¬ x2 = 6 → ¬ x2 = 7 → ¬ x2 = 8 → ¬ x2 = 9 → ¬ x2 = 10 → ¬ x2 = 11 → ¬ x2 = 12 → x2 = 13 → z_Ki D M_X13_loses d [(2, 88), (0, x5)] G h (fun r G' h' => z_Y D M_X13_makes d 299 [] [(0, r)] G' h' Q))
    (u14 : ¬ x2 = 1 → ¬ x2 = 2 → ¬ x2 = 3 → ¬ x2 = 4 → ¬ x2 = 5 → ¬ x2 = 6 → ¬ x2 = 7 → ¬ x2 = 8 → ¬ x2 = 9 → ¬ x2 = 10 → ¬ x2 = 11 → ¬ x2 = 12 → ¬ x2 = 13 → z_Ki D M_X13_swaps d [(2, 88), (0, x5), (0, x3)] G h (fun r G' h' => z_Y D M_X13_makes d 307 [] [(0, r)] G' h' Q)) :
    z_Y D M_X13_makes d 127 [(0, 2, 88), (2, 0, x2), (3, 0, x3), (4, 0, x4), (5, 0, x5)] [] G h Q := by
  intro hl0
  refine z_iload_n (q := 128) 1 dX13_makes_127 rfl rfl ?_
  by_cases c1 : x2 = 1
  · refine z_tswIn (t := 196) 1 c1 ⟨by decide, by decide⟩ dX13_makes_128 (by decide) (by decide) rfl (by decide) ?_
    refine z_aload_n (q := 197) 0 dX13_makes_196 rfl rfl ?_
    refine z_iload (q := 199) 4 dX13_makes_197 rfl rfl ?_
    refine z_sub (L' := []) [] rfl ?_
    exact z_goV (q := 202) (av := [(0, x5)]) (rest := []) cb11 (hl0.i 88 (by decide) rfl) z_toi hl0 (u1 c1) mo_X13_turns np_X13_turns k1503 k1505 k62 rfl (nle rfl) dX13_makes_199 rfl
  by_cases c2 : x2 = 2
  · refine z_tswIn (t := 203) 2 c2 ⟨by decide, by decide⟩ dX13_makes_128 (by decide) (by decide) rfl (by decide) ?_
    refine z_aload_n (q := 204) 0 dX13_makes_203 rfl rfl ?_
    refine z_iload (q := 206) 4 dX13_makes_204 rfl rfl ?_
    refine z_iload_n (q := 207) 2 dX13_makes_206 rfl rfl ?_
    refine z_sub (L' := []) [] rfl ?_
    exact z_goV (q := 210) (av := [(0, x5), (0, x3)]) (rest := []) cb11 (hl0.i 88 (by decide) rfl) z_toi hl0 (u2 c1 c2) mo_X13_drops np_X13_drops k1511 k1513 k64 rfl (nle rfl) dX13_makes_207 rfl
  by_cases c3 : x2 = 3
  · refine z_tswIn (t := 211) 3 c3 ⟨by decide, by decide⟩ dX13_makes_128 (by decide) (by decide) rfl (by decide) ?_
    refine z_aload_n (q := 212) 0 dX13_makes_211 rfl rfl ?_
    refine z_iload (q := 214) 4 dX13_makes_212 rfl rfl ?_
    refine z_iload_n (q := 215) 2 dX13_makes_214 rfl rfl ?_
    refine z_iload (q := 217) 3 dX13_makes_215 rfl rfl ?_
    refine z_sub (L' := []) [] rfl ?_
    exact z_goV (q := 220) (av := [(0, x5), (0, x3), (0, x4)]) (rest := []) cb11 (hl0.i 88 (by decide) rfl) z_toi hl0 (u3 c1 c2 c3) mo_X13_splits np_X13_splits k1515 k1517 k65 rfl (nle rfl) dX13_makes_217 rfl
  by_cases c4 : x2 = 4
  · refine z_tswIn (t := 221) 4 c4 ⟨by decide, by decide⟩ dX13_makes_128 (by decide) (by decide) rfl (by decide) ?_
    refine z_aload_n (q := 222) 0 dX13_makes_221 rfl rfl ?_
    refine z_iload (q := 224) 4 dX13_makes_222 rfl rfl ?_
    refine z_iload_n (q := 225) 2 dX13_makes_224 rfl rfl ?_
    refine z_sub (L' := []) [] rfl ?_
    exact z_goV (q := 228) (av := [(0, x5), (0, x3)]) (rest := []) cb11 (hl0.i 88 (by decide) rfl) z_toi hl0 (u4 c1 c2 c3 c4) mo_X13_fills np_X13_fills k1525 k1527 k66 rfl (nle rfl) dX13_makes_225 rfl
  by_cases c5 : x2 = 5
  · refine z_tswIn (t := 229) 5 c5 ⟨by decide, by decide⟩ dX13_makes_128 (by decide) (by decide) rfl (by decide) ?_
    refine z_aload_n (q := 230) 0 dX13_makes_229 rfl rfl ?_
    refine z_iload (q := 232) 4 dX13_makes_230 rfl rfl ?_
    refine z_iload_n (q := 233) 2 dX13_makes_232 rfl rfl ?_
    refine z_iload (q := 235) 3 dX13_makes_233 rfl rfl ?_
    refine z_sub (L' := []) [] rfl ?_
    exact z_goV (q := 238) (av := [(0, x5), (0, x3), (0, x4)]) (rest := []) cb11 (hl0.i 88 (by decide) rfl) z_toi hl0 (u5 c1 c2 c3 c4 c5) mo_X13_joins np_X13_joins k1529 k1531 k67 rfl (nle rfl) dX13_makes_235 rfl
  by_cases c6 : x2 = 6
  · refine z_tswIn (t := 239) 6 c6 ⟨by decide, by decide⟩ dX13_makes_128 (by decide) (by decide) rfl (by decide) ?_
    refine z_aload_n (q := 240) 0 dX13_makes_239 rfl rfl ?_
    refine z_iload (q := 242) 4 dX13_makes_240 rfl rfl ?_
    refine z_iload_n (q := 243) 2 dX13_makes_242 rfl rfl ?_
    refine z_sub (L' := []) [] rfl ?_
    exact z_goV (q := 246) (av := [(0, x5), (0, x3)]) (rest := []) cb11 (hl0.i 88 (by decide) rfl) z_toi hl0 (u6 c1 c2 c3 c4 c5 c6) mo_X13_folds np_X13_folds k1533 k1535 k68 rfl (nle rfl) dX13_makes_243 rfl
  by_cases c7 : x2 = 7
  · refine z_tswIn (t := 247) 7 c7 ⟨by decide, by decide⟩ dX13_makes_128 (by decide) (by decide) rfl (by decide) ?_
    refine z_aload_n (q := 248) 0 dX13_makes_247 rfl rfl ?_
    refine z_iload (q := 250) 4 dX13_makes_248 rfl rfl ?_
    refine z_sub (L' := []) [] rfl ?_
    exact z_goV (q := 253) (av := [(0, x5)]) (rest := []) cb11 (hl0.i 88 (by decide) rfl) z_toi hl0 (u7 c1 c2 c3 c4 c5 c6 c7) mo_X13_unfolds np_X13_unfolds k1537 k1539 k69 rfl (nle rfl) dX13_makes_250 rfl
  by_cases c8 : x2 = 8
  · refine z_tswIn (t := 254) 8 c8 ⟨by decide, by decide⟩ dX13_makes_128 (by decide) (by decide) rfl (by decide) ?_
    refine z_aload_n (q := 255) 0 dX13_makes_254 rfl rfl ?_
    refine z_iload (q := 257) 4 dX13_makes_255 rfl rfl ?_
    refine z_iload_n (q := 258) 2 dX13_makes_257 rfl rfl ?_
    refine z_sub (L' := []) [] rfl ?_
    exact z_goV (q := 261) (av := [(0, x5), (0, x3)]) (rest := []) cb11 (hl0.i 88 (by decide) rfl) z_toi hl0 (u8 c1 c2 c3 c4 c5 c6 c7 c8) mo_X13_sorts np_X13_sorts k1553 k1555 k73 rfl (nle rfl) dX13_makes_258 rfl
  by_cases c9 : x2 = 9
  · refine z_tswIn (t := 262) 9 c9 ⟨by decide, by decide⟩ dX13_makes_128 (by decide) (by decide) rfl (by decide) ?_
    refine z_aload_n (q := 263) 0 dX13_makes_262 rfl rfl ?_
    refine z_iload (q := 265) 4 dX13_makes_263 rfl rfl ?_
    refine z_sub (L' := []) [] rfl ?_
    exact z_goV (q := 268) (av := [(0, x5)]) (rest := []) cb11 (hl0.i 88 (by decide) rfl) z_toi hl0 (u9 c1 c2 c3 c4 c5 c6 c7 c8 c9) mo_X13_singles np_X13_singles k1564 k1566 k75 rfl (nle rfl) dX13_makes_265 rfl
  by_cases c10 : x2 = 10
  · refine z_tswIn (t := 269) 10 c10 ⟨by decide, by decide⟩ dX13_makes_128 (by decide) (by decide) rfl (by decide) ?_
    refine z_aload_n (q := 270) 0 dX13_makes_269 rfl rfl ?_
    refine z_iload_n (q := 271) 2 dX13_makes_270 rfl rfl ?_
    refine z_sub (L' := []) [] rfl ?_
    exact z_goV (q := 274) (av := [(0, x3)]) (rest := []) cb11 (hl0.i 88 (by decide) rfl) z_toi hl0 (u10 c1 c2 c3 c4 c5 c6 c7 c8 c9 c10) mo_X13_counts np_X13_counts k1568 k1570 k76 rfl (nle rfl) dX13_makes_271 rfl
  by_cases c11 : x2 = 11
  · refine z_tswIn (t := 275) 11 c11 ⟨by decide, by decide⟩ dX13_makes_128 (by decide) (by decide) rfl (by decide) ?_
    refine z_aload_n (q := 276) 0 dX13_makes_275 rfl rfl ?_
    refine z_iload (q := 278) 4 dX13_makes_276 rfl rfl ?_
    refine z_iload_n (q := 279) 2 dX13_makes_278 rfl rfl ?_
    refine z_iload (q := 281) 3 dX13_makes_279 rfl rfl ?_
    refine z_sub (L' := []) [] rfl ?_
    exact z_goV (q := 284) (av := [(0, x5), (0, x3), (0, x4)]) (rest := []) cb11 (hl0.i 88 (by decide) rfl) z_toi hl0 (u11 c1 c2 c3 c4 c5 c6 c7 c8 c9 c10 c11) mo_X13_sums np_X13_sums k1575 k1577 k77 rfl (nle rfl) dX13_makes_281 rfl
  by_cases c12 : x2 = 12
  · refine z_tswIn (t := 285) 12 c12 ⟨by decide, by decide⟩ dX13_makes_128 (by decide) (by decide) rfl (by decide) ?_
    refine z_aload_n (q := 286) 0 dX13_makes_285 rfl rfl ?_
    refine z_iload (q := 288) 4 dX13_makes_286 rfl rfl ?_
    refine z_iload_n (q := 289) 2 dX13_makes_288 rfl rfl ?_
    refine z_sub (L' := []) [] rfl ?_
    exact z_goV (q := 292) (av := [(0, x5), (0, x3)]) (rest := []) cb11 (hl0.i 88 (by decide) rfl) z_toi hl0 (u12 c1 c2 c3 c4 c5 c6 c7 c8 c9 c10 c11 c12) mo_X13_keeps np_X13_keeps k1583 k1585 k78 rfl (nle rfl) dX13_makes_289 rfl
  by_cases c13 : x2 = 13
  · refine z_tswIn (t := 293) 13 c13 ⟨by decide, by decide⟩ dX13_makes_128 (by decide) (by decide) rfl (by decide) ?_
    refine z_aload_n (q := 294) 0 dX13_makes_293 rfl rfl ?_
    refine z_iload (q := 296) 4 dX13_makes_294 rfl rfl ?_
    refine z_sub (L' := []) [] rfl ?_
    exact z_goV (q := 299) (av := [(0, x5)]) (rest := []) cb11 (hl0.i 88 (by decide) rfl) z_toi hl0 (u13 c1 c2 c3 c4 c5 c6 c7 c8 c9 c10 c11 c12 c13) mo_X13_loses np_X13_loses k1587 k1589 k79 rfl (nle rfl) dX13_makes_296 rfl
  refine z_tswOut (t := 300) (p1 c1 c2 c3 c4 c5 c6 c7 c8 c9 c10 c11 c12 c13) dX13_makes_128 (by omega) (by decide) ?_
  refine z_aload_n (q := 301) 0 dX13_makes_300 rfl rfl ?_
  refine z_iload (q := 303) 4 dX13_makes_301 rfl rfl ?_
  refine z_iload_n (q := 304) 2 dX13_makes_303 rfl rfl ?_
  refine z_sub (L' := []) [] rfl ?_
  exact z_goV (q := 307) (av := [(0, x5), (0, x3)]) (rest := []) cb11 (hl0.i 88 (by decide) rfl) z_toi hl0 (u14 c1 c2 c3 c4 c5 c6 c7 c8 c9 c10 c11 c12 c13) mo_X13_swaps np_X13_swaps k1591 k1593 k80 rfl (nle rfl) dX13_makes_304 rfl
theorem b_X13_makes_202 {D : zD} {d : Nat} {G : zG} {h : zH} {Q : zO → zG → zH → Prop} {s0 : Int} (p1 : s0 = 0 ∨ s0 = 1)
    (u1 : Q (.inl (some (0, s0))) G h) :
    z_Y D M_X13_makes d 202 [] [(0, s0)] G h Q := by
  intro hl0
  exact z_bret rfl p1 dX13_makes_202 ⟨hl0, u1⟩
theorem b_X13_makes_210 {D : zD} {d : Nat} {G : zG} {h : zH} {Q : zO → zG → zH → Prop} {s0 : Int} (p1 : s0 = 0 ∨ s0 = 1)
    (u1 : Q (.inl (some (0, s0))) G h) :
    z_Y D M_X13_makes d 210 [] [(0, s0)] G h Q := by
  intro hl0
  exact z_bret rfl p1 dX13_makes_210 ⟨hl0, u1⟩
theorem b_X13_makes_220 {D : zD} {d : Nat} {G : zG} {h : zH} {Q : zO → zG → zH → Prop} {s0 : Int} (p1 : s0 = 0 ∨ s0 = 1)
    (u1 : Q (.inl (some (0, s0))) G h) :
    z_Y D M_X13_makes d 220 [] [(0, s0)] G h Q := by
  intro hl0
  exact z_bret rfl p1 dX13_makes_220 ⟨hl0, u1⟩
theorem b_X13_makes_228 {D : zD} {d : Nat} {G : zG} {h : zH} {Q : zO → zG → zH → Prop} {s0 : Int} (p1 : s0 = 0 ∨ s0 = 1)
    (u1 : Q (.inl (some (0, s0))) G h) :
    z_Y D M_X13_makes d 228 [] [(0, s0)] G h Q := by
  intro hl0
  exact z_bret rfl p1 dX13_makes_228 ⟨hl0, u1⟩
theorem b_X13_makes_238 {D : zD} {d : Nat} {G : zG} {h : zH} {Q : zO → zG → zH → Prop} {s0 : Int} (p1 : s0 = 0 ∨ s0 = 1)
    (u1 : Q (.inl (some (0, s0))) G h) :
    z_Y D M_X13_makes d 238 [] [(0, s0)] G h Q := by
  intro hl0
  exact z_bret rfl p1 dX13_makes_238 ⟨hl0, u1⟩
theorem b_X13_makes_246 {D : zD} {d : Nat} {G : zG} {h : zH} {Q : zO → zG → zH → Prop} {s0 : Int} (p1 : s0 = 0 ∨ s0 = 1)
    (u1 : Q (.inl (some (0, s0))) G h) :
    z_Y D M_X13_makes d 246 [] [(0, s0)] G h Q := by
  intro hl0
  exact z_bret rfl p1 dX13_makes_246 ⟨hl0, u1⟩
theorem b_X13_makes_253 {D : zD} {d : Nat} {G : zG} {h : zH} {Q : zO → zG → zH → Prop} {s0 : Int} (p1 : s0 = 0 ∨ s0 = 1)
    (u1 : Q (.inl (some (0, s0))) G h) :
    z_Y D M_X13_makes d 253 [] [(0, s0)] G h Q := by
  intro hl0
  exact z_bret rfl p1 dX13_makes_253 ⟨hl0, u1⟩
theorem b_X13_makes_261 {D : zD} {d : Nat} {G : zG} {h : zH} {Q : zO → zG → zH → Prop} {s0 : Int} (p1 : s0 = 0 ∨ s0 = 1)
    (u1 : Q (.inl (some (0, s0))) G h) :
    z_Y D M_X13_makes d 261 [] [(0, s0)] G h Q := by
  intro hl0
  exact z_bret rfl p1 dX13_makes_261 ⟨hl0, u1⟩
theorem b_X13_makes_268 {D : zD} {d : Nat} {G : zG} {h : zH} {Q : zO → zG → zH → Prop} {s0 : Int} (p1 : s0 = 0 ∨ s0 = 1)
    (u1 : Q (.inl (some (0, s0))) G h) :
    z_Y D M_X13_makes d 268 [] [(0, s0)] G h Q := by
  intro hl0
  exact z_bret rfl p1 dX13_makes_268 ⟨hl0, u1⟩
theorem b_X13_makes_274 {D : zD} {d : Nat} {G : zG} {h : zH} {Q : zO → zG → zH → Prop} {s0 : Int} (p1 : s0 = 0 ∨ s0 = 1)
    (u1 : Q (.inl (some (0, s0))) G h) :
    z_Y D M_X13_makes d 274 [] [(0, s0)] G h Q := by
  intro hl0
  exact z_bret rfl p1 dX13_makes_274 ⟨hl0, u1⟩
theorem b_X13_makes_284 {D : zD} {d : Nat} {G : zG} {h : zH} {Q : zO → zG → zH → Prop} {s0 : Int} (p1 : s0 = 0 ∨ s0 = 1)
    (u1 : Q (.inl (some (0, s0))) G h) :
    z_Y D M_X13_makes d 284 [] [(0, s0)] G h Q := by
  intro hl0
  exact z_bret rfl p1 dX13_makes_284 ⟨hl0, u1⟩
theorem b_X13_makes_292 {D : zD} {d : Nat} {G : zG} {h : zH} {Q : zO → zG → zH → Prop} {s0 : Int} (p1 : s0 = 0 ∨ s0 = 1)
    (u1 : Q (.inl (some (0, s0))) G h) :
    z_Y D M_X13_makes d 292 [] [(0, s0)] G h Q := by
  intro hl0
  exact z_bret rfl p1 dX13_makes_292 ⟨hl0, u1⟩
theorem b_X13_makes_299 {D : zD} {d : Nat} {G : zG} {h : zH} {Q : zO → zG → zH → Prop} {s0 : Int} (p1 : s0 = 0 ∨ s0 = 1)
    (u1 : Q (.inl (some (0, s0))) G h) :
    z_Y D M_X13_makes d 299 [] [(0, s0)] G h Q := by
  intro hl0
  exact z_bret rfl p1 dX13_makes_299 ⟨hl0, u1⟩
theorem b_X13_makes_307 {D : zD} {d : Nat} {G : zG} {h : zH} {Q : zO → zG → zH → Prop} {s0 : Int} (p1 : s0 = 0 ∨ s0 = 1)
    (u1 : Q (.inl (some (0, s0))) G h) :
    z_Y D M_X13_makes d 307 [] [(0, s0)] G h Q := by
  intro hl0
  exact z_bret rfl p1 dX13_makes_307 ⟨hl0, u1⟩
