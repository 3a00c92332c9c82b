theorem b_X13_byteAt_0 {D : zD} {d : Nat} {G : zG} {h : zH} {Q : zO → zG → zH → Prop} {x1 : Int} (p1 : z_in x1) (p2 : z_in (h 88 15)) (p3 : ¬ ((h 88 15) ≤ x1) → 0 ≤ x1) (p4 : ¬ ((h 88 15) ≤ x1) → x1 < 1000)
    (u1 : (h 88 15) ≤ x1 → Q (.inl (some (0, 0))) G h)
    (u2 : ¬ ((h 88 15) ≤ x1) → Q (.inl (some (0, (z_iand (w8 (h 100 x1)) 255)))) G h) :
    z_Y D M_X13_byteAt d 0 [(0, 2, 88), (1, 0, x1)] [] G h Q := by
  intro hl0
  refine z_iload_n (q := 1) 1 dX13_byteAt_0 rfl rfl ?_
  refine z_aload_n (q := 2) 0 dX13_byteAt_1 rfl rfl ?_
  refine z_gf (q := 5) (ki := 15) (v := (0, (h 88 15))) fX13_236 rfl rfl (hl0.i 88 (by decide) rfl) dX13_byteAt_2 rfl ?_
  refine z_icmp_ge (q := 8) (t := 21) p1 p2 dX13_byteAt_5 (by decide) rfl (fun c1 => ?_) (fun c1 => ?_)
  · refine z_iconst (q := 22) dX13_byteAt_21 rfl ?_
    exact z_iret rfl dX13_byteAt_22 ⟨hl0, u1 c1⟩
  · refine z_aload_n (q := 9) 0 dX13_byteAt_8 rfl rfl ?_
    refine z_gf (q := 12) (ki := 13) (v := (2, 100)) fX13_48 rfl (z_ldr rfl (hl0.ref 92 rfl)) (hl0.i 88 (by decide) rfl) dX13_byteAt_9 rfl ?_
    refine z_iload_n (q := 13) 1 dX13_byteAt_12 rfl rfl ?_
    refine z_bale (q := 14) (v := (h 100 x1)) (hl0.a 100 (by decide) rfl) (p3 c1) (p4 c1) rfl dX13_byteAt_13 rfl ?_
    refine z_sipush (q := 17) dX13_byteAt_14 rfl (by decide) ?_
    refine z_r_iand (q := 18) dX13_byteAt_17 rfl ?_
    refine z_goto (t := 22) dX13_byteAt_18 (by decide) ?_
    exact z_iret rfl dX13_byteAt_22 ⟨hl0, u2 c1⟩
def zb8 (x : Int) : Int := z_iand (w8 x) 255
def zby (h : zH) (n k : Int) : Int := if n ≤ k then 0 else zb8 (h 100 k)
section RtA
variable {D : zD} {d : Nat} {G : zG} {h : zH} {Q : zO → zG → zH → Prop}
theorem a_X13_byteAt (hd : 0 ≤ d) (k : Int) (hk : z_in k) (hn : z_in (h 88 15)) (k0 : 0 ≤ k) (n1 : h 88 15 ≤ 1000) : z_Ei D M_X13_byteAt d [(2, 88), (0, k)] G h (zby h (h 88 15) k) h :=
  z_begin mo_X13_byteAt rfl (nle rfl) (b_X13_byteAt_0 hk hn (fun _ => k0) (fun _ => by omega) (fun c => ⟨by rw [zby, if_pos c], rfl, rfl⟩) (fun c => ⟨by rw [zby, if_neg c]; rfl, rfl, rfl⟩))
end RtA
theorem b_X13_wrong_0 {D : zD} {d : Nat} {G : zG} {h : zH} {Q : zO → zG → zH → Prop} {x1 x2 : Int}
    (u1 : Q (.inl (some (2, 99))) G (z_wr (z_wr h 88 20 x1) 88 21 x2)) :
    z_Y D M_X13_wrong d 0 [(0, 2, 88), (1, 0, x1), (2, 0, x2)] [] G h Q := by
  intro hl0
  refine z_aload_n (q := 1) 0 dX13_wrong_0 rfl rfl ?_
  refine z_iload_n (q := 2) 1 dX13_wrong_1 rfl rfl ?_
  refine z_pf (q := 5) (ki := 20) fX13_233 rfl (z_sv0 rfl) (hl0.i 88 (by decide) rfl) dX13_wrong_2 rfl ?_
  have hl1 := hl0.wr (v := x1) (hl0.i 88 (by decide) rfl) (i := 20) (by decide)
  refine z_aload_n (q := 6) 0 dX13_wrong_5 rfl rfl ?_
  refine z_iload_n (q := 7) 2 dX13_wrong_6 rfl rfl ?_
  refine z_pf (q := 10) (ki := 21) fX13_52 rfl (z_sv0 rfl) (hl1.i 88 (by decide) rfl) dX13_wrong_7 rfl ?_
  have hl2 := hl1.wr (v := x2) (hl1.i 88 (by decide) rfl) (i := 21) (by decide)
  refine z_aload_n (q := 11) 0 dX13_wrong_10 rfl rfl ?_
  refine z_gf (q := 14) (ki := 12) (v := (2, 99)) fX13_44 rfl (z_ldr rfl (hl2.ref 91 rfl)) (hl2.i 88 (by decide) rfl) dX13_wrong_11 rfl ?_
  exact z_aret rfl (by simp) dX13_wrong_14 ⟨hl2, u1⟩
theorem b_X13_begin_0 {D : zD} {d : Nat} {G : zG} {h : zH} {Q : zO → zG → zH → Prop}
    (u1 : Q (.inl none) G (z_wr (z_wr (z_wr (z_wr (z_wr h 88 15 (h 88 14)) 88 14 0) 88 17 0) 88 20 0) 88 21 (-1))) :
    z_Y D M_X13_begin d 0 [(0, 2, 88)] [] G h Q := by
  intro hl0
  refine z_aload_n (q := 1) 0 dX13_begin_0 rfl rfl ?_
  refine z_aload_n (q := 2) 0 dX13_begin_1 rfl rfl ?_
  refine z_gf (q := 5) (ki := 14) (v := (0, (h 88 14))) fX13_239 rfl rfl (hl0.i 88 (by decide) rfl) dX13_begin_2 rfl ?_
  refine z_pf (q := 8) (ki := 15) fX13_236 rfl (z_sv0 rfl) (hl0.i 88 (by decide) rfl) dX13_begin_5 rfl ?_
  have hl1 := hl0.wr (v := (h 88 14)) (hl0.i 88 (by decide) rfl) (i := 15) (by decide)
  refine z_aload_n (q := 9) 0 dX13_begin_8 rfl rfl ?_
  refine z_iconst (q := 10) dX13_begin_9 rfl ?_
  refine z_pf (q := 13) (ki := 14) fX13_239 rfl (z_sv0 rfl) (hl1.i 88 (by decide) rfl) dX13_begin_10 rfl ?_
  have hl2 := hl1.wr (v := 0) (hl1.i 88 (by decide) rfl) (i := 14) (by decide)
  refine z_aload_n (q := 14) 0 dX13_begin_13 rfl rfl ?_
  refine z_iconst (q := 15) dX13_begin_14 rfl ?_
  refine z_pf (q := 18) (ki := 17) fX13_242 rfl (z_sv0 rfl) (hl2.i 88 (by decide) rfl) dX13_begin_15 rfl ?_
  have hl3 := hl2.wr (v := 0) (hl2.i 88 (by decide) rfl) (i := 17) (by decide)
  refine z_aload_n (q := 19) 0 dX13_begin_18 rfl rfl ?_
  refine z_iconst (q := 20) dX13_begin_19 rfl ?_
  refine z_pf (q := 23) (ki := 20) fX13_233 rfl (z_sv0 rfl) (hl3.i 88 (by decide) rfl) dX13_begin_20 rfl ?_
  have hl4 := hl3.wr (v := 0) (hl3.i 88 (by decide) rfl) (i := 20) (by decide)
  refine z_aload_n (q := 24) 0 dX13_begin_23 rfl rfl ?_
  refine z_iconst (q := 25) dX13_begin_24 rfl ?_
  refine z_pf (q := 28) (ki := 21) fX13_52 rfl (z_sv0 rfl) (hl4.i 88 (by decide) rfl) dX13_begin_25 rfl ?_
  have hl5 := hl4.wr (v := (-1)) (hl4.i 88 (by decide) rfl) (i := 21) (by decide)
  exact z_vret rfl dX13_begin_28 ⟨hl5, u1⟩
theorem b_X13_readTable_0 {D : zD} {d : Nat} {G : zG} {h : zH} {Q : zO → zG → zH → Prop}
    (u1 : z_Kv D M_X13_shape d [(2, 88), (0, 10), (0, 1), (0, 1)] G h (fun G' h' => z_Y D M_X13_readTable d 14 [(0, 2, 88), (1, 0, 0), (2, 0, 0), (3, 0, 0)] [] G' h' Q)) :
    z_Y D M_X13_readTable d 0 [(0, 2, 88)] [] G h Q := by
  intro hl0
  refine z_iconst (q := 1) dX13_readTable_0 rfl ?_
  refine z_istore_n (q := 2) (L' := [(0, 2, 88), (1, 0, 0)]) dX13_readTable_1 rfl (by decide) rfl ?_
  refine z_iconst (q := 3) dX13_readTable_2 rfl ?_
  refine z_istore_n (q := 4) (L' := [(0, 2, 88), (1, 0, 0), (2, 0, 0)]) dX13_readTable_3 rfl (by decide) rfl ?_
  refine z_iconst (q := 5) dX13_readTable_4 rfl ?_
  refine z_istore_n (q := 6) (L' := [(0, 2, 88), (1, 0, 0), (2, 0, 0), (3, 0, 0)]) dX13_readTable_5 rfl (by decide) rfl ?_
  refine z_aload_n (q := 7) 0 dX13_readTable_6 rfl rfl ?_
  refine z_bipush (q := 9) dX13_readTable_7 rfl (by decide) ?_
  refine z_iconst (q := 10) dX13_readTable_9 rfl ?_
  refine z_iconst (q := 11) dX13_readTable_10 rfl ?_
  exact z_goV (q := 14) (av := [(0, 10), (0, 1), (0, 1)]) (rest := []) cb11 (hl0.i 88 (by decide) rfl) z_tov hl0 (u1) mo_X13_shape np_X13_shape k1319 k1321 k44 rfl (nle rfl) dX13_readTable_11 rfl
theorem b_X13_readTable_14 {D : zD} {d : Nat} {G : zG} {h : zH} {Q : zO → zG → zH → Prop} {x1 x2 x3 : Int}
    (u1 : z_Y D M_X13_readTable d 23 [(0, 2, 88), (1, 0, x1), (2, 0, x2), (3, 0, x3), (4, 1, 0), (6, 0, 0), (7, 0, 0)] [] G h Q) :
    z_Y D M_X13_readTable d 14 [(0, 2, 88), (1, 0, x1), (2, 0, x2), (3, 0, x3)] [] G h Q := by
  intro hl0
  refine z_lconst0 (q := 15) dX13_readTable_14 rfl ?_
  refine z_lstore (q := 17) (L' := [(0, 2, 88), (1, 0, x1), (2, 0, x2), (3, 0, x3), (4, 1, 0)]) dX13_readTable_15 rfl (by decide) rfl ?_
  refine z_iconst (q := 18) dX13_readTable_17 rfl ?_
  refine z_istore (q := 20) (L' := [(0, 2, 88), (1, 0, x1), (2, 0, x2), (3, 0, x3), (4, 1, 0), (6, 0, 0)]) dX13_readTable_18 rfl (by decide) rfl ?_
  refine z_iconst (q := 21) dX13_readTable_20 rfl ?_
  refine z_istore (q := 23) (L' := [(0, 2, 88), (1, 0, x1), (2, 0, x2), (3, 0, x3), (4, 1, 0), (6, 0, 0), (7, 0, 0)]) dX13_readTable_21 rfl (by decide) rfl ?_
  exact u1 hl0
theorem b_X13_readTable_23 {D : zD} {d : Nat} {G : zG} {h : zH} {Q : zO → zG → zH → Prop} {x1 x2 x3 x4 x6 x7 : Int} (hd : 2 ≤ d) (p1 : z_in x7) (p2 : z_in (h 88 15)) (p3 : ¬ ((h 88 15) < x7) → 0 ≤ x7) (p4 : ¬ ((h 88 15) < x7) → (h 88 15) ≤ 1000)
    (u1 : (h 88 15) < x7 → Q (.inl none) G (z_wr (z_wr h 89 10 x1) 90 10 x3))
    (u2 : ¬ ((h 88 15) < x7) → ¬ x7 = (h 88 15) → z_Y D M_X13_readTable d 54 [(0, 2, 88), (1, 0, x1), (2, 0, x2), (3, 0, x3), (4, 1, x4), (6, 0, x6), (7, 0, x7), (8, 0, (zby h (h 88 15) x7))] [(0, 0)] G h Q)
    (u3 : ¬ ((h 88 15) < x7) → ¬ (¬ x7 = (h 88 15)) → z_Y D M_X13_readTable d 54 [(0, 2, 88), (1, 0, x1), (2, 0, x2), (3, 0, x3), (4, 1, x4), (6, 0, x6), (7, 0, x7), (8, 0, (zby h (h 88 15) x7))] [(0, 1)] G h Q) :
    z_Y D M_X13_readTable d 23 [(0, 2, 88), (1, 0, x1), (2, 0, x2), (3, 0, x3), (4, 1, x4), (6, 0, x6), (7, 0, x7)] [] G h Q := by
  intro hl0
  refine z_iload (q := 25) 6 dX13_readTable_23 rfl rfl ?_
  refine z_aload_n (q := 26) 0 dX13_readTable_25 rfl rfl ?_
  refine z_gf (q := 29) (ki := 15) (v := (0, (h 88 15))) fX13_236 rfl rfl (hl0.i 88 (by decide) rfl) dX13_readTable_26 rfl ?_
  refine z_icmp_gt (q := 32) (t := 333) p1 p2 dX13_readTable_29 (by decide) rfl (fun c1 => ?_) (fun c1 => ?_)
  · refine z_aload_n (q := 334) 0 dX13_readTable_333 rfl rfl ?_
    refine z_gf (q := 337) (ki := 0) (v := (2, 89)) fX13_9 rfl (z_ldr rfl (hl0.ref 81 rfl)) (hl0.i 88 (by decide) rfl) dX13_readTable_334 rfl ?_
    refine z_bipush (q := 339) dX13_readTable_337 rfl (by decide) ?_
    refine z_iload_n (q := 340) 1 dX13_readTable_339 rfl rfl ?_
    refine z_isn (q := 341) (hl0.i 89 (by decide) rfl) (hl0.n 89 (by decide) rfl) (by decide) (by decide) dX13_readTable_340 rfl ?_
    have hl1 := hl0.wr (v := x1) (hl0.i 89 (by decide) rfl) (i := 10) rfl
    refine z_aload_n (q := 342) 0 dX13_readTable_341 rfl rfl ?_
    refine z_gf (q := 345) (ki := 1) (v := (2, 90)) fX13_13 rfl (z_ldr rfl (hl1.ref 82 rfl)) (hl1.i 88 (by decide) rfl) dX13_readTable_342 rfl ?_
    refine z_bipush (q := 347) dX13_readTable_345 rfl (by decide) ?_
    refine z_iload_n (q := 348) 3 dX13_readTable_347 rfl rfl ?_
    refine z_isn (q := 349) (hl1.i 90 (by decide) rfl) (hl1.n 90 (by decide) rfl) (by decide) (by decide) dX13_readTable_348 rfl ?_
    have hl2 := hl1.wr (v := x3) (hl1.i 90 (by decide) rfl) (i := 10) rfl
    exact z_vret rfl dX13_readTable_349 ⟨hl2, u1 c1⟩
  · refine z_aload_n (q := 33) 0 dX13_readTable_32 rfl rfl ?_
    refine z_iload (q := 35) 6 dX13_readTable_33 rfl rfl ?_
    have e1 := a_X13_byteAt (D := D) (G := G) (h := h) (d := d - 1) (by omega) x7 p1 p2 (p3 c1) (p4 c1)
    refine z_goV (q := 38) (av := [(0, x7)]) (rest := []) cb11 (hl0.i 88 (by decide) rfl) (z_toi) hl0 (z_Ei.K e1 (by omega) ?_) mo_X13_byteAt np_X13_byteAt k1323 k1325 k45 rfl (nle rfl) dX13_readTable_35 rfl
    refine z_istore (q := 40) (L' := [(0, 2, 88), (1, 0, x1), (2, 0, x2), (3, 0, x3), (4, 1, x4), (6, 0, x6), (7, 0, x7), (8, 0, (zby h (h 88 15) x7))]) dX13_readTable_38 rfl (by decide) rfl ?_
    refine z_iload (q := 42) 6 dX13_readTable_40 rfl rfl ?_
    refine z_aload_n (q := 43) 0 dX13_readTable_42 rfl rfl ?_
    refine z_gf (q := 46) (ki := 15) (v := (0, (h 88 15))) fX13_236 rfl rfl (hl0.i 88 (by decide) rfl) dX13_readTable_43 rfl ?_
    refine z_icmp_ne (q := 49) (t := 53) p1 p2 dX13_readTable_46 (by decide) rfl (fun c2 => ?_) (fun c2 => ?_)
    · refine z_iconst (q := 54) dX13_readTable_53 rfl ?_
      exact u2 c1 c2 hl0
    · refine z_iconst (q := 50) dX13_readTable_49 rfl ?_
      refine z_goto (t := 54) dX13_readTable_50 (by decide) ?_
      exact u3 c1 c2 hl0
theorem b_X13_readTable_54 {D : zD} {d : Nat} {G : zG} {h : zH} {Q : zO → zG → zH → Prop} {s0 x1 x2 x3 x4 x6 x7 x8 : Int} (p1 : z_in s0) (p2 : ¬ (¬ s0 = 0) → z_in x8)
    (u1 : ¬ s0 = 0 → z_Y D M_X13_readTable d 195 [(0, 2, 88), (1, 0, x1), (2, 0, x2), (3, 0, x3), (4, 1, x4), (7, 0, x7), (8, 0, x8), (9, 0, s0)] [] G h Q)
    (u2 : ¬ (¬ s0 = 0) → x8 = 44 → z_Y D M_X13_readTable d 195 [(0, 2, 88), (1, 0, x1), (2, 0, x2), (3, 0, x3), (4, 1, x4), (7, 0, x7), (8, 0, x8), (9, 0, s0)] [] G h Q)
    (u3 : ¬ (¬ s0 = 0) → ¬ (x8 = 44) → x8 = 59 → z_Y D M_X13_readTable d 195 [(0, 2, 88), (1, 0, x1), (2, 0, x2), (3, 0, x3), (4, 1, x4), (7, 0, x7), (8, 0, x8), (9, 0, s0)] [] G h Q)
    (u4 : ¬ (¬ s0 = 0) → ¬ (x8 = 44) → ¬ (x8 = 59) → ¬ x8 = 63 → z_Y D M_X13_readTable d 87 [(0, 2, 88), (1, 0, x1), (2, 0, x2), (3, 0, x3), (4, 1, x4), (6, 0, x6), (7, 0, x7), (8, 0, x8)] [(0, 0)] G h Q)
    (u5 : ¬ (¬ s0 = 0) → ¬ (x8 = 44) → ¬ (x8 = 59) → ¬ (¬ x8 = 63) → z_Y D M_X13_readTable d 87 [(0, 2, 88), (1, 0, x1), (2, 0, x2), (3, 0, x3), (4, 1, x4), (6, 0, x6), (7, 0, x7), (8, 0, x8)] [(0, 1)] G h Q) :
    z_Y D M_X13_readTable d 54 [(0, 2, 88), (1, 0, x1), (2, 0, x2), (3, 0, x3), (4, 1, x4), (6, 0, x6), (7, 0, x7), (8, 0, x8)] [(0, s0)] G h Q := by
  intro hl0
  refine z_istore (q := 56) (L' := [(0, 2, 88), (1, 0, x1), (2, 0, x2), (3, 0, x3), (4, 1, x4), (6, 0, x6), (7, 0, x7), (8, 0, x8), (9, 0, s0)]) dX13_readTable_54 rfl (by decide) rfl ?_
  refine z_iload (q := 58) 8 dX13_readTable_56 rfl rfl ?_
  refine z_if_ne (q := 61) (t := 195) p1 dX13_readTable_58 (by decide) rfl (fun c1 => ?_) (fun c1 => ?_)
  · refine z_sub (L' := [(0, 2, 88), (1, 0, x1), (2, 0, x2), (3, 0, x3), (4, 1, x4), (7, 0, x7), (8, 0, x8), (9, 0, s0)]) [0, 1, 2, 3, 4, 6, 7, 8] rfl ?_
    exact u1 c1 hl0
  · refine z_iload (q := 63) 7 dX13_readTable_61 rfl rfl ?_
    refine z_bipush (q := 65) dX13_readTable_63 rfl (by decide) ?_
    refine z_icmp_eq (q := 68) (t := 195) (p2 c1) ⟨by decide, by decide⟩ dX13_readTable_65 (by decide) rfl (fun c2 => ?_) (fun c2 => ?_)
    · refine z_sub (L' := [(0, 2, 88), (1, 0, x1), (2, 0, x2), (3, 0, x3), (4, 1, x4), (7, 0, x7), (8, 0, x8), (9, 0, s0)]) [0, 1, 2, 3, 4, 6, 7, 8] rfl ?_
      exact u2 c1 c2 hl0
    · refine z_iload (q := 70) 7 dX13_readTable_68 rfl rfl ?_
      refine z_bipush (q := 72) dX13_readTable_70 rfl (by decide) ?_
      refine z_icmp_eq (q := 75) (t := 195) (p2 c1) ⟨by decide, by decide⟩ dX13_readTable_72 (by decide) rfl (fun c3 => ?_) (fun c3 => ?_)
      · refine z_sub (L' := [(0, 2, 88), (1, 0, x1), (2, 0, x2), (3, 0, x3), (4, 1, x4), (7, 0, x7), (8, 0, x8), (9, 0, s0)]) [0, 1, 2, 3, 4, 6, 7, 8] rfl ?_
        exact u3 c1 c2 c3 hl0
      · refine z_iload (q := 77) 7 dX13_readTable_75 rfl rfl ?_
        refine z_bipush (q := 79) dX13_readTable_77 rfl (by decide) ?_
        refine z_icmp_ne (q := 82) (t := 86) (p2 c1) ⟨by decide, by decide⟩ dX13_readTable_79 (by decide) rfl (fun c4 => ?_) (fun c4 => ?_)
        · refine z_iconst (q := 87) dX13_readTable_86 rfl ?_
          refine z_sub (L' := [(0, 2, 88), (1, 0, x1), (2, 0, x2), (3, 0, x3), (4, 1, x4), (6, 0, x6), (7, 0, x7), (8, 0, x8)]) [0, 1, 2, 3, 4, 5, 6, 7] rfl ?_
          exact u4 c1 c2 c3 c4 hl0
        · refine z_iconst (q := 83) dX13_readTable_82 rfl ?_
          refine z_goto (t := 87) dX13_readTable_83 (by decide) ?_
          refine z_sub (L' := [(0, 2, 88), (1, 0, x1), (2, 0, x2), (3, 0, x3), (4, 1, x4), (6, 0, x6), (7, 0, x7), (8, 0, x8)]) [0, 1, 2, 3, 4, 5, 6, 7] rfl ?_
          exact u5 c1 c2 c3 c4 hl0
theorem b_X13_readTable_195 {D : zD} {d : Nat} {G : zG} {h : zH} {Q : zO → zG → zH → Prop} {x1 x2 x3 x4 x7 x8 x9 : Int} (p1 : z_in x9) (p2 : ¬ (¬ x9 = 0) → z_in x8) (p3 : ¬ (¬ x9 = 0) → ¬ x8 = 59 → z_in x1) (p4 : ¬ (¬ x9 = 0) → ¬ x8 = 59 → ¬ (x1 ≤ 0) → z_in (x2 + 1)) (p5 : ¬ (¬ x9 = 0) → ¬ x8 = 59 → ¬ (x1 ≤ 0) → z_in x3)
    (u1 : ¬ x9 = 0 → z_Y D M_X13_readTable d 207 [(0, 2, 88), (1, 0, x1), (2, 0, x2), (3, 0, x3), (4, 1, x4), (7, 0, x7), (8, 0, x8), (9, 0, x9)] [] G h Q)
    (u2 : ¬ (¬ x9 = 0) → ¬ x8 = 59 → x1 ≤ 0 → z_Y D M_X13_readTable d 266 [(0, 2, 88), (1, 0, x1), (2, 0, x2), (3, 0, x3), (4, 1, x4), (7, 0, x7), (8, 0, x8), (9, 0, x9)] [] G h Q)
    (u3 : ¬ (¬ x9 = 0) → ¬ x8 = 59 → ¬ (x1 ≤ 0) → ¬ (x2 + 1) = x3 → z_Y D M_X13_readTable d 266 [(0, 2, 88), (1, 0, x1), (2, 0, x2), (3, 0, x3), (4, 1, x4), (7, 0, x7), (8, 0, x8), (9, 0, x9)] [] G h Q)
    (u4 : ¬ (¬ x9 = 0) → ¬ x8 = 59 → ¬ (x1 ≤ 0) → ¬ (¬ (x2 + 1) = x3) → z_Ka D M_X13_wrong d [(2, 88), (0, 3), (0, x7)] G h (fun r G' h' => z_Y D M_X13_readTable d 265 [] [(2, r)] G' h' Q))
    (u5 : ¬ (¬ x9 = 0) → ¬ (¬ x8 = 59) → z_Y D M_X13_readTable d 207 [(0, 2, 88), (1, 0, x1), (2, 0, x2), (3, 0, x3), (4, 1, x4), (7, 0, x7), (8, 0, x8), (9, 0, x9)] [] G h Q) :
    z_Y D M_X13_readTable d 195 [(0, 2, 88), (1, 0, x1), (2, 0, x2), (3, 0, x3), (4, 1, x4), (7, 0, x7), (8, 0, x8), (9, 0, x9)] [] G h Q := by
  intro hl0
  refine z_iload (q := 197) 7 dX13_readTable_195 rfl rfl ?_
  refine z_if_ne (q := 200) (t := 207) p1 dX13_readTable_197 (by decide) rfl (fun c1 => ?_) (fun c1 => ?_)
  · exact u1 c1 hl0
  · refine z_iload (q := 202) 6 dX13_readTable_200 rfl rfl ?_
    refine z_bipush (q := 204) dX13_readTable_202 rfl (by decide) ?_
    refine z_icmp_ne (q := 207) (t := 247) (p2 c1) ⟨by decide, by decide⟩ dX13_readTable_204 (by decide) rfl (fun c2 => ?_) (fun c2 => ?_)
    · refine z_iload_n (q := 248) 1 dX13_readTable_247 rfl rfl ?_
      refine z_if_le (q := 251) (t := 266) (p3 c1 c2) dX13_readTable_248 (by decide) rfl (fun c3 => ?_) (fun c3 => ?_)
      · exact u2 c1 c2 c3 hl0
      · refine z_iload_n (q := 252) 2 dX13_readTable_251 rfl rfl ?_
        refine z_iconst (q := 253) dX13_readTable_252 rfl ?_
        refine z_iadd (q := 254) dX13_readTable_253 rfl ?_
        refine z_iload_n (q := 255) 3 dX13_readTable_254 rfl rfl ?_
        refine z_icmp_ne (q := 258) (t := 266) (p4 c1 c2 c3) (p5 c1 c2 c3) dX13_readTable_255 (by decide) rfl (fun c4 => ?_) (fun c4 => ?_)
        · exact u3 c1 c2 c3 c4 hl0
        · refine z_aload_n (q := 259) 0 dX13_readTable_258 rfl rfl ?_
          refine z_iconst (q := 260) dX13_readTable_259 rfl ?_
          refine z_iload (q := 262) 5 dX13_readTable_260 rfl rfl ?_
          refine z_sub (L' := []) [] rfl ?_
          exact z_goV (q := 265) (av := [(0, 3), (0, x7)]) (rest := []) cb11 (hl0.i 88 (by decide) rfl) z_toa hl0 (u4 c1 c2 c3 c4) mo_X13_wrong np_X13_wrong k1337 k1339 k46 rfl (nle rfl) dX13_readTable_262 rfl
    · exact u5 c1 c2 hl0
theorem b_X13_readTable_87 {D : zD} {d : Nat} {G : zG} {h : zH} {Q : zO → zG → zH → Prop} {s0 x1 x2 x3 x4 x6 x7 x8 : Int} (hd : 2 ≤ d) (p1 : z_in64 x4) (p2 : ¬ (x4 = (-1)) → z_in x8) (p3 : ¬ (x4 = (-1)) → ¬ (97 ≤ x8 ∧ x8 ≤ 122) → ¬ (48 ≤ x8 ∧ x8 ≤ 57) → ¬ (¬ zmk x8 = -1) → z_in s0) (p4 : ¬ (x4 = (-1)) → ¬ (97 ≤ x8 ∧ x8 ≤ 122) → ¬ (48 ≤ x8 ∧ x8 ≤ 57) → ¬ (¬ zmk x8 = -1) → ¬ (s0 = 0) → z_in x6)
    (u1 : x4 = (-1) → z_Y D M_X13_readTable d 136 [(0, 2, 88), (1, 0, x1), (2, 0, x2), (3, 0, x3), (4, 1, x4), (6, 0, x6), (7, 0, x7), (8, 0, x8), (10, 0, s0)] [] G h Q)
    (u2 : ¬ (x4 = (-1)) → 97 ≤ x8 ∧ x8 ≤ 122 → z_Y D M_X13_readTable d 132 [(0, 2, 88), (1, 0, x1), (2, 0, x2), (3, 0, x3), (4, 1, x4), (6, 0, x6), (7, 0, x7), (8, 0, x8), (10, 0, s0)] [] G h Q)
    (u3 : ¬ (x4 = (-1)) → ¬ (97 ≤ x8 ∧ x8 ≤ 122) → 48 ≤ x8 ∧ x8 ≤ 57 → z_Y D M_X13_readTable d 132 [(0, 2, 88), (1, 0, x1), (2, 0, x2), (3, 0, x3), (4, 1, x4), (6, 0, x6), (7, 0, x7), (8, 0, x8), (10, 0, s0)] [] G h Q)
    (u4 : ¬ (x4 = (-1)) → ¬ (97 ≤ x8 ∧ x8 ≤ 122) → ¬ (48 ≤ x8 ∧ x8 ≤ 57) → ¬ zmk x8 = -1 → z_Y D M_X13_readTable d 132 [(0, 2, 88), (1, 0, x1), (2, 0, x2), (3, 0, x3), (4, 1, x4), (6, 0, x6), (7, 0, x7), (8, 0, x8), (10, 0, s0)] [] G h Q)
    (u5 : ¬ (x4 = (-1)) → ¬ (97 ≤ x8 ∧ x8 ≤ 122) → ¬ (48 ≤ x8 ∧ x8 ≤ 57) → ¬ (¬ zmk x8 = -1) → s0 = 0 → z_Y D M_X13_readTable d 136 [(0, 2, 88), (1, 0, x1), (2, 0, x2), (3, 0, x3), (4, 1, x4), (6, 0, x6), (7, 0, x7), (8, 0, x8), (10, 0, s0)] [] G h Q)
    (u6 : ¬ (x4 = (-1)) → ¬ (97 ≤ x8 ∧ x8 ≤ 122) → ¬ (48 ≤ x8 ∧ x8 ≤ 57) → ¬ (¬ zmk x8 = -1) → ¬ (s0 = 0) → ¬ x6 = 0 → z_Y D M_X13_readTable d 136 [(0, 2, 88), (1, 0, x1), (2, 0, x2), (3, 0, x3), (4, 1, x4), (6, 0, x6), (7, 0, x7), (8, 0, x8), (10, 0, s0)] [] G h Q)
    (u7 : ¬ (x4 = (-1)) → ¬ (97 ≤ x8 ∧ x8 ≤ 122) → ¬ (48 ≤ x8 ∧ x8 ≤ 57) → ¬ (¬ zmk x8 = -1) → ¬ (s0 = 0) → ¬ (¬ x6 = 0) → z_Y D M_X13_readTable d 132 [(0, 2, 88), (1, 0, x1), (2, 0, x2), (3, 0, x3), (4, 1, x4), (6, 0, x6), (7, 0, x7), (8, 0, x8), (10, 0, s0)] [] G h Q) :
    z_Y D M_X13_readTable d 87 [(0, 2, 88), (1, 0, x1), (2, 0, x2), (3, 0, x3), (4, 1, x4), (6, 0, x6), (7, 0, x7), (8, 0, x8)] [(0, s0)] G h Q := by
  intro hl0
  refine z_istore (q := 89) (L' := [(0, 2, 88), (1, 0, x1), (2, 0, x2), (3, 0, x3), (4, 1, x4), (6, 0, x6), (7, 0, x7), (8, 0, x8), (10, 0, s0)]) dX13_readTable_87 rfl (by decide) rfl ?_
  refine z_lload (q := 91) 4 dX13_readTable_89 rfl rfl ?_
  refine z_ldc2 (q := 94) (n := (-1)) k1327 (by decide) dX13_readTable_91 rfl ?_
  refine z_lcmp_eq (q := 98) (t := 136) p1 ⟨by decide, by decide⟩ dX13_readTable_94 (rfl : _ = 95) dX13_readTable_95 (by decide) rfl (fun c1 => ?_) (fun c1 => ?_)
  · exact u1 c1 hl0
  · refine z_iload (q := 100) 7 dX13_readTable_98 rfl rfl ?_
    have e1 := a_X13_isLetter (D := D) (G := G) (h := h) (d := d - 1) (by omega) x8 (p2 c1)
    refine z_goS (q := 103) (av := [(0, x8)]) (rest := []) (z_toi) hl0 (z_Ei.K e1 (by omega) ?_) mo_X13_isLetter np_X13_isLetter k1328 k1329 rfl (nle rfl) dX13_readTable_100 rfl
    by_cases c2 : 97 ≤ x8 ∧ x8 ≤ 122
    · rw [z_b1 c2]
      refine z_if_ne (q := 106) (t := 132) ⟨by decide, by decide⟩ dX13_readTable_103 (by decide) rfl (fun _ => ?_) (fun c => absurd c (by decide))
      exact u2 c1 c2 hl0
    · rw [z_b0 c2]
      refine z_if_ne (q := 106) (t := 132) ⟨by decide, by decide⟩ dX13_readTable_103 (by decide) rfl (fun c => absurd c (by decide)) (fun _ => ?_)
      refine z_iload (q := 108) 7 dX13_readTable_106 rfl rfl ?_
      have e2 := a_X13_isDigit (D := D) (G := G) (h := h) (d := d - 1) (by omega) x8 (p2 c1)
      refine z_goS (q := 111) (av := [(0, x8)]) (rest := []) (z_toi) hl0 (z_Ei.K e2 (by omega) ?_) mo_X13_isDigit np_X13_isDigit k1331 k1332 rfl (nle rfl) dX13_readTable_108 rfl
      by_cases c3 : 48 ≤ x8 ∧ x8 ≤ 57
      · rw [z_b1 c3]
        refine z_if_ne (q := 114) (t := 132) ⟨by decide, by decide⟩ dX13_readTable_111 (by decide) rfl (fun _ => ?_) (fun c => absurd c (by decide))
        exact u3 c1 c2 c3 hl0
      · rw [z_b0 c3]
        refine z_if_ne (q := 114) (t := 132) ⟨by decide, by decide⟩ dX13_readTable_111 (by decide) rfl (fun c => absurd c (by decide)) (fun _ => ?_)
        refine z_iload (q := 116) 7 dX13_readTable_114 rfl rfl ?_
        have e3 := a_X13_isMark (D := D) (G := G) (h := h) (d := d - 1) (by omega) x8 (p2 c1)
        refine z_goS (q := 119) (av := [(0, x8)]) (rest := []) (z_toi) hl0 (z_Ei.K e3 (by omega) ?_) mo_X13_isMark np_X13_isMark k1334 k1335 rfl (nle rfl) dX13_readTable_116 rfl
        by_cases c4 : ¬ zmk x8 = -1
        · rw [z_b1 c4]
          refine z_if_ne (q := 122) (t := 132) ⟨by decide, by decide⟩ dX13_readTable_119 (by decide) rfl (fun _ => ?_) (fun c => absurd c (by decide))
          exact u4 c1 c2 c3 c4 hl0
        · rw [z_b0 c4]
          refine z_if_ne (q := 122) (t := 132) ⟨by decide, by decide⟩ dX13_readTable_119 (by decide) rfl (fun c => absurd c (by decide)) (fun _ => ?_)
          refine z_iload (q := 124) 8 dX13_readTable_122 rfl rfl ?_
          refine z_if_eq (q := 127) (t := 136) (p3 c1 c2 c3 c4) dX13_readTable_124 (by decide) rfl (fun c5 => ?_) (fun c5 => ?_)
          · exact u5 c1 c2 c3 c4 c5 hl0
          · refine z_iload (q := 129) 5 dX13_readTable_127 rfl rfl ?_
            refine z_if_ne (q := 132) (t := 136) (p4 c1 c2 c3 c4 c5) dX13_readTable_129 (by decide) rfl (fun c6 => ?_) (fun c6 => ?_)
            · exact u6 c1 c2 c3 c4 c5 c6 hl0
            · exact u7 c1 c2 c3 c4 c5 c6 hl0
theorem b_X13_readTable_207 {D : zD} {d : Nat} {G : zG} {h : zH} {Q : zO → zG → zH → Prop} {x1 x2 x3 x4 x7 x8 x9 : Int} (p1 : z_in x1) (p2 : ¬ (x1 ≤ 0) → z_in (x2 + 1)) (p3 : ¬ (x1 ≤ 0) → z_in x3)
    (u1 : x1 ≤ 0 → z_Y D M_X13_readTable d 226 [(0, 2, 88), (1, 0, x1), (2, 0, x2), (3, 0, x3), (4, 1, x4), (7, 0, x7), (8, 0, x8), (9, 0, x9)] [] G h Q)
    (u2 : ¬ (x1 ≤ 0) → x3 ≤ (x2 + 1) → z_Y D M_X13_readTable d 226 [(0, 2, 88), (1, 0, x1), (2, 0, x2), (3, 0, x3), (4, 1, x4), (7, 0, x7), (8, 0, x8), (9, 0, x9)] [] G h Q)
    (u3 : ¬ (x1 ≤ 0) → ¬ (x3 ≤ (x2 + 1)) → z_Ka D M_X13_wrong d [(2, 88), (0, 3), (0, x7)] G h (fun r G' h' => z_Y D M_X13_readTable d 225 [] [(2, r)] G' h' Q)) :
    z_Y D M_X13_readTable d 207 [(0, 2, 88), (1, 0, x1), (2, 0, x2), (3, 0, x3), (4, 1, x4), (7, 0, x7), (8, 0, x8), (9, 0, x9)] [] G h Q := by
  intro hl0
  refine z_iload_n (q := 208) 1 dX13_readTable_207 rfl rfl ?_
  refine z_if_le (q := 211) (t := 226) p1 dX13_readTable_208 (by decide) rfl (fun c1 => ?_) (fun c1 => ?_)
  · exact u1 c1 hl0
  · refine z_iload_n (q := 212) 2 dX13_readTable_211 rfl rfl ?_
    refine z_iconst (q := 213) dX13_readTable_212 rfl ?_
    refine z_iadd (q := 214) dX13_readTable_213 rfl ?_
    refine z_iload_n (q := 215) 3 dX13_readTable_214 rfl rfl ?_
    refine z_icmp_ge (q := 218) (t := 226) (p2 c1) (p3 c1) dX13_readTable_215 (by decide) rfl (fun c2 => ?_) (fun c2 => ?_)
    · exact u2 c1 c2 hl0
    · refine z_aload_n (q := 219) 0 dX13_readTable_218 rfl rfl ?_
      refine z_iconst (q := 220) dX13_readTable_219 rfl ?_
      refine z_iload (q := 222) 5 dX13_readTable_220 rfl rfl ?_
      refine z_sub (L' := []) [] rfl ?_
      exact z_goV (q := 225) (av := [(0, 3), (0, x7)]) (rest := []) cb11 (hl0.i 88 (by decide) rfl) z_toa hl0 (u3 c1 c2) mo_X13_wrong np_X13_wrong k1337 k1339 k46 rfl (nle rfl) dX13_readTable_222 rfl
theorem b_X13_readTable_266 {D : zD} {d : Nat} {G : zG} {h : zH} {Q : zO → zG → zH → Prop} {x1 x2 x3 x4 x7 x8 x9 : Int} (p1 : z_in (x2 + 1))
    (u1 : ¬ (x2 + 1) = 6 → z_Y D M_X13_readTable d 282 [(0, 2, 88), (1, 0, x1), (2, 0, x2), (3, 0, x3), (4, 1, x4), (7, 0, x7), (8, 0, x8), (9, 0, x9)] [] G h Q)
    (u2 : ¬ (¬ (x2 + 1) = 6) → z_Ka D M_X13_wrong d [(2, 88), (0, 4), (0, x7)] G h (fun r G' h' => z_Y D M_X13_readTable d 281 [] [(2, r)] G' h' Q)) :
    z_Y D M_X13_readTable d 266 [(0, 2, 88), (1, 0, x1), (2, 0, x2), (3, 0, x3), (4, 1, x4), (7, 0, x7), (8, 0, x8), (9, 0, x9)] [] G h Q := by
  intro hl0
  refine z_iload_n (q := 267) 2 dX13_readTable_266 rfl rfl ?_
  refine z_iconst (q := 268) dX13_readTable_267 rfl ?_
  refine z_iadd (q := 269) dX13_readTable_268 rfl ?_
  refine z_bipush (q := 271) dX13_readTable_269 rfl (by decide) ?_
  refine z_icmp_ne (q := 274) (t := 282) p1 ⟨by decide, by decide⟩ dX13_readTable_271 (by decide) rfl (fun c1 => ?_) (fun c1 => ?_)
  · exact u1 c1 hl0
  · refine z_aload_n (q := 275) 0 dX13_readTable_274 rfl rfl ?_
    refine z_iconst (q := 276) dX13_readTable_275 rfl ?_
    refine z_iload (q := 278) 5 dX13_readTable_276 rfl rfl ?_
    refine z_sub (L' := []) [] rfl ?_
    exact z_goV (q := 281) (av := [(0, 4), (0, x7)]) (rest := []) cb11 (hl0.i 88 (by decide) rfl) z_toa hl0 (u2 c1) mo_X13_wrong np_X13_wrong k1337 k1339 k46 rfl (nle rfl) dX13_readTable_278 rfl
theorem b_X13_readTable_265 {D : zD} {d : Nat} {G : zG} {h : zH} {Q : zO → zG → zH → Prop} {s0 : Int} (p1 : ¬ s0 = -1)
    (u1 : Q (.inr s0) G h) :
    z_Y D M_X13_readTable d 265 [] [(2, s0)] G h Q := by
  intro hl0
  exact z_throw p1 dX13_readTable_265 (z_Y.out (by decide) u1 hl0)
theorem b_X13_readTable_136 {D : zD} {d : Nat} {G : zG} {h : zH} {Q : zO → zG → zH → Prop} {x1 x10 x2 x3 x4 x6 x7 x8 : Int}
    (u1 : z_Y D M_X13_readTable d 137 [(0, 2, 88), (1, 0, x1), (2, 0, x2), (3, 0, x3), (4, 1, x4), (6, 0, x6), (7, 0, x7), (8, 0, x8), (10, 0, x10)] [(0, 0)] G h Q) :
    z_Y D M_X13_readTable d 136 [(0, 2, 88), (1, 0, x1), (2, 0, x2), (3, 0, x3), (4, 1, x4), (6, 0, x6), (7, 0, x7), (8, 0, x8), (10, 0, x10)] [] G h Q := by
  intro hl0
  refine z_iconst (q := 137) dX13_readTable_136 rfl ?_
  exact u1 hl0
theorem b_X13_readTable_132 {D : zD} {d : Nat} {G : zG} {h : zH} {Q : zO → zG → zH → Prop} {x1 x10 x2 x3 x4 x6 x7 x8 : Int}
    (u1 : z_Y D M_X13_readTable d 137 [(0, 2, 88), (1, 0, x1), (2, 0, x2), (3, 0, x3), (4, 1, x4), (6, 0, x6), (7, 0, x7), (8, 0, x8), (10, 0, x10)] [(0, 1)] G h Q) :
    z_Y D M_X13_readTable d 132 [(0, 2, 88), (1, 0, x1), (2, 0, x2), (3, 0, x3), (4, 1, x4), (6, 0, x6), (7, 0, x7), (8, 0, x8), (10, 0, x10)] [] G h Q := by
  intro hl0
  refine z_iconst (q := 133) dX13_readTable_132 rfl ?_
  refine z_goto (t := 137) dX13_readTable_133 (by decide) ?_
  exact u1 hl0
theorem b_X13_readTable_226 {D : zD} {d : Nat} {G : zG} {h : zH} {Q : zO → zG → zH → Prop} {x1 x2 x3 x4 x7 x8 x9 : Int} (p1 : z_in x9) (p2 : ¬ (¬ x9 = 0) → z_in (x1 + 1))
    (u1 : ¬ x9 = 0 → z_Y D M_X13_readTable d 282 [(0, 2, 88), (1, 0, x1), (2, 0, x2), (3, 0, x3), (4, 1, x4), (7, 0, x7), (8, 0, x8), (9, 0, x9)] [] G h Q)
    (u2 : ¬ (¬ x9 = 0) → ¬ (x1 + 1) = 12 → z_Y D M_X13_readTable d 282 [(0, 2, 88), (1, 0, x1), (2, 0, x2), (3, 0, x3), (4, 1, x4), (7, 0, x7), (8, 0, x8), (9, 0, x9)] [] G h Q)
    (u3 : ¬ (¬ x9 = 0) → ¬ (¬ (x1 + 1) = 12) → z_Ka D M_X13_wrong d [(2, 88), (0, 4), (0, x7)] G h (fun r G' h' => z_Y D M_X13_readTable d 246 [] [(2, r)] G' h' Q)) :
    z_Y D M_X13_readTable d 226 [(0, 2, 88), (1, 0, x1), (2, 0, x2), (3, 0, x3), (4, 1, x4), (7, 0, x7), (8, 0, x8), (9, 0, x9)] [] G h Q := by
  intro hl0
  refine z_iload (q := 228) 7 dX13_readTable_226 rfl rfl ?_
  refine z_if_ne (q := 231) (t := 282) p1 dX13_readTable_228 (by decide) rfl (fun c1 => ?_) (fun c1 => ?_)
  · exact u1 c1 hl0
  · refine z_iload_n (q := 232) 1 dX13_readTable_231 rfl rfl ?_
    refine z_iconst (q := 233) dX13_readTable_232 rfl ?_
    refine z_iadd (q := 234) dX13_readTable_233 rfl ?_
    refine z_bipush (q := 236) dX13_readTable_234 rfl (by decide) ?_
    refine z_icmp_ne (q := 239) (t := 282) (p2 c1) ⟨by decide, by decide⟩ dX13_readTable_236 (by decide) rfl (fun c2 => ?_) (fun c2 => ?_)
    · exact u2 c1 c2 hl0
    · refine z_aload_n (q := 240) 0 dX13_readTable_239 rfl rfl ?_
      refine z_iconst (q := 241) dX13_readTable_240 rfl ?_
      refine z_iload (q := 243) 5 dX13_readTable_241 rfl rfl ?_
      refine z_sub (L' := []) [] rfl ?_
      exact z_goV (q := 246) (av := [(0, 4), (0, x7)]) (rest := []) cb11 (hl0.i 88 (by decide) rfl) z_toa hl0 (u3 c1 c2) mo_X13_wrong np_X13_wrong k1337 k1339 k46 rfl (nle rfl) dX13_readTable_243 rfl
theorem b_X13_readTable_225 {D : zD} {d : Nat} {G : zG} {h : zH} {Q : zO → zG → zH → Prop} {s0 : Int} (p1 : ¬ s0 = -1)
    (u1 : Q (.inr s0) G h) :
    z_Y D M_X13_readTable d 225 [] [(2, s0)] G h Q := by
  intro hl0
  exact z_throw p1 dX13_readTable_225 (z_Y.out (by decide) u1 hl0)
theorem b_X13_readTable_282 {D : zD} {d : Nat} {G : zG} {h : zH} {Q : zO → zG → zH → Prop} {x1 x2 x3 x4 x7 x8 x9 : Int} (hd : 3 ≤ d) (p1 : 0 ≤ (72 * 10 + 6 * x1 + x2)) (p2 : (72 * 10 + 6 * x1 + x2) < 864) (p3 : z_in x9) (p4 : ¬ (¬ x9 = 0) → z_in x8)
    (u1 : ¬ x9 = 0 → z_Y D M_X13_readTable d 308 [(0, 2, 88), (1, 0, x1), (2, 0, x2), (3, 0, x3), (4, 1, 0), (6, 0, 0), (7, 0, x7)] [] G (z_wr h 91 (72 * 10 + 6 * x1 + x2) x4) Q)
    (u2 : ¬ (¬ x9 = 0) → ¬ x8 = 59 → z_Y D M_X13_readTable d 23 [(0, 2, 88), (1, 0, x1), (2, 0, (x2 + 1)), (3, 0, x3), (4, 1, 0), (6, 0, 0), (7, 0, (x7 + 1))] [] G (z_wr h 91 (72 * 10 + 6 * x1 + x2) x4) Q)
    (u3 : ¬ (¬ x9 = 0) → ¬ (¬ x8 = 59) → z_Y D M_X13_readTable d 308 [(0, 2, 88), (1, 0, x1), (2, 0, x2), (3, 0, x3), (4, 1, 0), (6, 0, 0), (7, 0, x7)] [] G (z_wr h 91 (72 * 10 + 6 * x1 + x2) x4) Q) :
    z_Y D M_X13_readTable d 282 [(0, 2, 88), (1, 0, x1), (2, 0, x2), (3, 0, x3), (4, 1, x4), (7, 0, x7), (8, 0, x8), (9, 0, x9)] [] G h Q := by
  intro hl0
  refine z_aload_n (q := 283) 0 dX13_readTable_282 rfl rfl ?_
  refine z_iload_n (q := 284) 1 dX13_readTable_283 rfl rfl ?_
  refine z_iload_n (q := 285) 2 dX13_readTable_284 rfl rfl ?_
  refine z_lload (q := 287) 4 dX13_readTable_285 rfl rfl ?_
  have e1 := a_X13_put (D := D) (G := G) (h := h) (d := d - 1) (by omega) x1 x2 x4 p1 p2
  refine z_goV (q := 290) (av := [(0, x1), (0, x2), (1, x4)]) (rest := []) cb11 (hl0.i 88 (by decide) rfl) (z_tov) hl0 (z_Ev.K e1 (by omega) ?_) mo_X13_put np_X13_put k1341 k1343 k47 rfl (nle rfl) dX13_readTable_287 rfl
  have hl1 : lay G (z_wr h 91 (72 * 10 + 6 * x1 + x2) x4) := e1.lay hl0
  refine z_lconst0 (q := 291) dX13_readTable_290 rfl ?_
  refine z_lstore (q := 293) (L' := [(0, 2, 88), (1, 0, x1), (2, 0, x2), (3, 0, x3), (4, 1, 0), (7, 0, x7), (8, 0, x8), (9, 0, x9)]) dX13_readTable_291 rfl (by decide) rfl ?_
  refine z_iconst (q := 294) dX13_readTable_293 rfl ?_
  refine z_istore (q := 296) (L' := [(0, 2, 88), (1, 0, x1), (2, 0, x2), (3, 0, x3), (4, 1, 0), (6, 0, 0), (7, 0, x7), (8, 0, x8), (9, 0, x9)]) dX13_readTable_294 rfl (by decide) rfl ?_
  refine z_iload (q := 298) 8 dX13_readTable_296 rfl rfl ?_
  refine z_if_ne (q := 301) (t := 308) p3 dX13_readTable_298 (by decide) rfl (fun c1 => ?_) (fun c1 => ?_)
  · refine z_sub (L' := [(0, 2, 88), (1, 0, x1), (2, 0, x2), (3, 0, x3), (4, 1, 0), (6, 0, 0), (7, 0, x7)]) [0, 1, 2, 3, 4, 5, 6] rfl ?_
    exact u1 c1 hl1
  · refine z_iload (q := 303) 7 dX13_readTable_301 rfl rfl ?_
    refine z_bipush (q := 305) dX13_readTable_303 rfl (by decide) ?_
    refine z_icmp_ne (q := 308) (t := 324) (p4 c1) ⟨by decide, by decide⟩ dX13_readTable_305 (by decide) rfl (fun c2 => ?_) (fun c2 => ?_)
    · refine z_iinc (q := 327) (L' := [(0, 2, 88), (1, 0, x1), (2, 0, (x2 + 1)), (3, 0, x3), (4, 1, 0), (6, 0, 0), (7, 0, x7), (8, 0, x8), (9, 0, x9)]) 2 dX13_readTable_324 rfl rfl (by decide) rfl ?_
      refine z_iinc (q := 330) (L' := [(0, 2, 88), (1, 0, x1), (2, 0, (x2 + 1)), (3, 0, x3), (4, 1, 0), (6, 0, 0), (7, 0, (x7 + 1)), (8, 0, x8), (9, 0, x9)]) 6 dX13_readTable_327 rfl rfl (by decide) rfl ?_
      refine z_goto (t := 23) dX13_readTable_330 (by decide) ?_
      refine z_sub (L' := [(0, 2, 88), (1, 0, x1), (2, 0, (x2 + 1)), (3, 0, x3), (4, 1, 0), (6, 0, 0), (7, 0, (x7 + 1))]) [0, 1, 2, 3, 4, 5, 6] rfl ?_
      exact u2 c1 c2 hl1
    · refine z_sub (L' := [(0, 2, 88), (1, 0, x1), (2, 0, x2), (3, 0, x3), (4, 1, 0), (6, 0, 0), (7, 0, x7)]) [0, 1, 2, 3, 4, 5, 6] rfl ?_
      exact u3 c1 c2 hl1
theorem b_X13_readTable_281 {D : zD} {d : Nat} {G : zG} {h : zH} {Q : zO → zG → zH → Prop} {s0 : Int} (p1 : ¬ s0 = -1)
    (u1 : Q (.inr s0) G h) :
    z_Y D M_X13_readTable d 281 [] [(2, s0)] G h Q := by
  intro hl0
  exact z_throw p1 dX13_readTable_281 (z_Y.out (by decide) u1 hl0)
theorem b_X13_readTable_137 {D : zD} {d : Nat} {G : zG} {h : zH} {Q : zO → zG → zH → Prop} {s0 x1 x10 x2 x3 x4 x6 x7 x8 : Int} (p1 : z_in s0) (p2 : ¬ s0 = 0 → z_in x6) (p3 : ¬ s0 = 0 → ¬ x6 = 7 → z_in x10) (p4 : ¬ s0 = 0 → ¬ x6 = 7 → x10 = 0 → z_in x8)
    (u1 : ¬ s0 = 0 → ¬ x6 = 7 → x10 = 0 → z_Y D M_X13_readTable d 187 [(0, 2, 88), (1, 0, x1), (2, 0, x2), (3, 0, x3), (6, 0, x6), (7, 0, x7)] [(1, (z_lor (z_lshl x4 8) x8))] G h Q)
    (u2 : ¬ s0 = 0 → ¬ x6 = 7 → ¬ (x10 = 0) → z_Y D M_X13_readTable d 187 [(0, 2, 88), (1, 0, x1), (2, 0, x2), (3, 0, x3), (6, 0, x6), (7, 0, x7)] [(1, (-1))] G h Q)
    (u3 : ¬ s0 = 0 → ¬ (¬ x6 = 7) → z_Ka D M_X13_wrong d [(2, 88), (0, 2), (0, x7)] G h (fun r G' h' => z_Y D M_X13_readTable d 166 [] [(2, r)] G' h' Q))
    (u4 : ¬ (¬ s0 = 0) → z_Ka D M_X13_wrong d [(2, 88), (0, 1), (0, x7)] G h (fun r G' h' => z_Y D M_X13_readTable d 151 [] [(2, r)] G' h' Q)) :
    z_Y D M_X13_readTable d 137 [(0, 2, 88), (1, 0, x1), (2, 0, x2), (3, 0, x3), (4, 1, x4), (6, 0, x6), (7, 0, x7), (8, 0, x8), (10, 0, x10)] [(0, s0)] G h Q := by
  intro hl0
  refine z_istore (q := 139) (L' := [(0, 2, 88), (1, 0, x1), (2, 0, x2), (3, 0, x3), (4, 1, x4), (6, 0, x6), (7, 0, x7), (8, 0, x8), (10, 0, x10), (11, 0, s0)]) dX13_readTable_137 rfl (by decide) rfl ?_
  refine z_iload (q := 141) 9 dX13_readTable_139 rfl rfl ?_
  refine z_if_ne (q := 144) (t := 152) p1 dX13_readTable_141 (by decide) rfl (fun c1 => ?_) (fun c1 => ?_)
  · refine z_iload (q := 154) 5 dX13_readTable_152 rfl rfl ?_
    refine z_bipush (q := 156) dX13_readTable_154 rfl (by decide) ?_
    refine z_icmp_ne (q := 159) (t := 167) (p2 c1) ⟨by decide, by decide⟩ dX13_readTable_156 (by decide) rfl (fun c2 => ?_) (fun c2 => ?_)
    · refine z_iload (q := 169) 8 dX13_readTable_167 rfl rfl ?_
      refine z_if_eq (q := 172) (t := 178) (p3 c1 c2) dX13_readTable_169 (by decide) rfl (fun c3 => ?_) (fun c3 => ?_)
      · refine z_lload (q := 180) 4 dX13_readTable_178 rfl rfl ?_
        refine z_bipush (q := 182) dX13_readTable_180 rfl (by decide) ?_
        refine z_r_lshl (q := 183) dX13_readTable_182 rfl ?_
        refine z_iload (q := 185) 7 dX13_readTable_183 rfl rfl ?_
        refine z_i2l (q := 186) (p4 c1 c2 c3) dX13_readTable_185 rfl ?_
        refine z_r_lor (q := 187) dX13_readTable_186 rfl ?_
        refine z_sub (L' := [(0, 2, 88), (1, 0, x1), (2, 0, x2), (3, 0, x3), (6, 0, x6), (7, 0, x7)]) [0, 1, 2, 3, 5, 6] rfl ?_
        exact u1 c1 c2 c3 hl0
      · refine z_ldc2 (q := 175) (n := (-1)) k1327 (by decide) dX13_readTable_172 rfl ?_
        refine z_goto (t := 187) dX13_readTable_175 (by decide) ?_
        refine z_sub (L' := [(0, 2, 88), (1, 0, x1), (2, 0, x2), (3, 0, x3), (6, 0, x6), (7, 0, x7)]) [0, 1, 2, 3, 5, 6] rfl ?_
        exact u2 c1 c2 c3 hl0
    · refine z_aload_n (q := 160) 0 dX13_readTable_159 rfl rfl ?_
      refine z_iconst (q := 161) dX13_readTable_160 rfl ?_
      refine z_iload (q := 163) 6 dX13_readTable_161 rfl rfl ?_
      refine z_sub (L' := []) [] rfl ?_
      exact z_goV (q := 166) (av := [(0, 2), (0, x7)]) (rest := []) cb11 (hl0.i 88 (by decide) rfl) z_toa hl0 (u3 c1 c2) mo_X13_wrong np_X13_wrong k1337 k1339 k46 rfl (nle rfl) dX13_readTable_163 rfl
  · refine z_aload_n (q := 145) 0 dX13_readTable_144 rfl rfl ?_
    refine z_iconst (q := 146) dX13_readTable_145 rfl ?_
    refine z_iload (q := 148) 6 dX13_readTable_146 rfl rfl ?_
    refine z_sub (L' := []) [] rfl ?_
    exact z_goV (q := 151) (av := [(0, 1), (0, x7)]) (rest := []) cb11 (hl0.i 88 (by decide) rfl) z_toa hl0 (u4 c1) mo_X13_wrong np_X13_wrong k1337 k1339 k46 rfl (nle rfl) dX13_readTable_148 rfl
theorem b_X13_readTable_246 {D : zD} {d : Nat} {G : zG} {h : zH} {Q : zO → zG → zH → Prop} {s0 : Int} (p1 : ¬ s0 = -1)
    (u1 : Q (.inr s0) G h) :
    z_Y D M_X13_readTable d 246 [] [(2, s0)] G h Q := by
  intro hl0
  exact z_throw p1 dX13_readTable_246 (z_Y.out (by decide) u1 hl0)
theorem b_X13_readTable_308 {D : zD} {d : Nat} {G : zG} {h : zH} {Q : zO → zG → zH → Prop} {x1 x2 x3 x4 x6 x7 : Int} (p1 : z_in x1)
    (u1 : ¬ x1 = 0 → z_Y D M_X13_readTable d 316 [(0, 2, 88), (1, 0, x1), (3, 0, x3), (4, 1, x4), (6, 0, x6), (7, 0, x7)] [] G h Q)
    (u2 : ¬ (¬ x1 = 0) → z_Y D M_X13_readTable d 316 [(0, 2, 88), (1, 0, x1), (3, 0, (x2 + 1)), (4, 1, x4), (6, 0, x6), (7, 0, x7)] [] G h Q) :
    z_Y D M_X13_readTable d 308 [(0, 2, 88), (1, 0, x1), (2, 0, x2), (3, 0, x3), (4, 1, x4), (6, 0, x6), (7, 0, x7)] [] G h Q := by
  intro hl0
  refine z_iload_n (q := 309) 1 dX13_readTable_308 rfl rfl ?_
  refine z_if_ne (q := 312) (t := 316) p1 dX13_readTable_309 (by decide) rfl (fun c1 => ?_) (fun c1 => ?_)
  · refine z_sub (L' := [(0, 2, 88), (1, 0, x1), (3, 0, x3), (4, 1, x4), (6, 0, x6), (7, 0, x7)]) [0, 1, 3, 4, 5, 6] rfl ?_
    exact u1 c1 hl0
  · refine z_iload_n (q := 313) 2 dX13_readTable_312 rfl rfl ?_
    refine z_iconst (q := 314) dX13_readTable_313 rfl ?_
    refine z_iadd (q := 315) dX13_readTable_314 rfl ?_
    refine z_istore_n (q := 316) (L' := [(0, 2, 88), (1, 0, x1), (2, 0, x2), (3, 0, (x2 + 1)), (4, 1, x4), (6, 0, x6), (7, 0, x7)]) dX13_readTable_315 rfl (by decide) rfl ?_
    refine z_sub (L' := [(0, 2, 88), (1, 0, x1), (3, 0, (x2 + 1)), (4, 1, x4), (6, 0, x6), (7, 0, x7)]) [0, 1, 3, 4, 5, 6] rfl ?_
    exact u2 c1 hl0
theorem b_X13_readTable_187 {D : zD} {d : Nat} {G : zG} {h : zH} {Q : zO → zG → zH → Prop} {s0 x1 x2 x3 x6 x7 : Int}
    (u1 : z_Y D M_X13_readTable d 23 [(0, 2, 88), (1, 0, x1), (2, 0, x2), (3, 0, x3), (4, 1, s0), (6, 0, (x6 + 1)), (7, 0, (x7 + 1))] [] G h Q) :
    z_Y D M_X13_readTable d 187 [(0, 2, 88), (1, 0, x1), (2, 0, x2), (3, 0, x3), (6, 0, x6), (7, 0, x7)] [(1, s0)] G h Q := by
  intro hl0
  refine z_lstore (q := 189) (L' := [(0, 2, 88), (1, 0, x1), (2, 0, x2), (3, 0, x3), (4, 1, s0), (6, 0, x6), (7, 0, x7)]) dX13_readTable_187 rfl (by decide) rfl ?_
  refine z_iinc (q := 192) (L' := [(0, 2, 88), (1, 0, x1), (2, 0, x2), (3, 0, x3), (4, 1, s0), (6, 0, (x6 + 1)), (7, 0, x7)]) 5 dX13_readTable_189 rfl rfl (by decide) rfl ?_
  refine z_goto (t := 327) dX13_readTable_192 (by decide) ?_
  refine z_iinc (q := 330) (L' := [(0, 2, 88), (1, 0, x1), (2, 0, x2), (3, 0, x3), (4, 1, s0), (6, 0, (x6 + 1)), (7, 0, (x7 + 1))]) 6 dX13_readTable_327 rfl rfl (by decide) rfl ?_
  refine z_goto (t := 23) dX13_readTable_330 (by decide) ?_
  exact u1 hl0
theorem b_X13_readTable_166 {D : zD} {d : Nat} {G : zG} {h : zH} {Q : zO → zG → zH → Prop} {s0 : Int} (p1 : ¬ s0 = -1)
    (u1 : Q (.inr s0) G h) :
    z_Y D M_X13_readTable d 166 [] [(2, s0)] G h Q := by
  intro hl0
  exact z_throw p1 dX13_readTable_166 (z_Y.out (by decide) u1 hl0)
theorem b_X13_readTable_151 {D : zD} {d : Nat} {G : zG} {h : zH} {Q : zO → zG → zH → Prop} {s0 : Int} (p1 : ¬ s0 = -1)
    (u1 : Q (.inr s0) G h) :
    z_Y D M_X13_readTable d 151 [] [(2, s0)] G h Q := by
  intro hl0
  exact z_throw p1 dX13_readTable_151 (z_Y.out (by decide) u1 hl0)
theorem b_X13_readTable_316 {D : zD} {d : Nat} {G : zG} {h : zH} {Q : zO → zG → zH → Prop} {x1 x3 x4 x6 x7 : Int}
    (u1 : z_Y D M_X13_readTable d 23 [(0, 2, 88), (1, 0, (x1 + 1)), (2, 0, 0), (3, 0, x3), (4, 1, x4), (6, 0, x6), (7, 0, (x7 + 1))] [] G h Q) :
    z_Y D M_X13_readTable d 316 [(0, 2, 88), (1, 0, x1), (3, 0, x3), (4, 1, x4), (6, 0, x6), (7, 0, x7)] [] G h Q := by
  intro hl0
  refine z_iconst (q := 317) dX13_readTable_316 rfl ?_
  refine z_istore_n (q := 318) (L' := [(0, 2, 88), (1, 0, x1), (2, 0, 0), (3, 0, x3), (4, 1, x4), (6, 0, x6), (7, 0, x7)]) dX13_readTable_317 rfl (by decide) rfl ?_
  refine z_iinc (q := 321) (L' := [(0, 2, 88), (1, 0, (x1 + 1)), (2, 0, 0), (3, 0, x3), (4, 1, x4), (6, 0, x6), (7, 0, x7)]) 1 dX13_readTable_318 rfl rfl (by decide) rfl ?_
  refine z_goto (t := 327) dX13_readTable_321 (by decide) ?_
  refine z_iinc (q := 330) (L' := [(0, 2, 88), (1, 0, (x1 + 1)), (2, 0, 0), (3, 0, x3), (4, 1, x4), (6, 0, x6), (7, 0, (x7 + 1))]) 6 dX13_readTable_327 rfl rfl (by decide) rfl ?_
  refine z_goto (t := 23) dX13_readTable_330 (by decide) ?_
  exact u1 hl0
