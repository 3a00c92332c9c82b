theorem b_X11_feed_0 {D : zD} {d : Nat} {G : zG} {h : zH} {Q : zO → zG → zH → Prop} {x1 x2 x3 x4 x5 : Int} (p1 : z_in (h 0 3))
    (u1 : (h 0 3) ≤ 980 → z_Kv D M_X11_tapeInt d [(2, 0), (0, x1)] G h (fun G' h' => z_Y D M_X11_feed d 18 [(0, 2, 0), (2, 0, x2), (3, 0, x3), (4, 0, x4), (5, 0, x5)] [] G' h' Q))
    (u2 : ¬ ((h 0 3) ≤ 980) → Q (.inl (some (0, (-3)))) G h) :
    z_Y D M_X11_feed d 0 [(0, 2, 0), (1, 0, x1), (2, 0, x2), (3, 0, x3), (4, 0, x4), (5, 0, x5)] [] G h Q := by
  intro hl0
  refine z_aload_n (q := 1) 0 dX11_feed_0 rfl rfl ?_
  refine z_gf (q := 4) (ki := 3) (v := (0, (h 0 3))) fX11_25 rfl rfl (hl0.i 0 (by decide) rfl) dX11_feed_1 rfl ?_
  refine z_sipush (q := 7) dX11_feed_4 rfl (by decide) ?_
  refine z_icmp_le (q := 10) (t := 13) p1 ⟨by decide, by decide⟩ dX11_feed_7 (by decide) rfl (fun c1 => ?_) (fun c1 => ?_)
  · refine z_aload_n (q := 14) 0 dX11_feed_13 rfl rfl ?_
    refine z_iload_n (q := 15) 1 dX11_feed_14 rfl rfl ?_
    refine z_sub (L' := [(0, 2, 0), (2, 0, x2), (3, 0, x3), (4, 0, x4), (5, 0, x5)]) [0, 2, 3, 4, 5] rfl ?_
    exact z_goV (q := 18) (av := [(0, x1)]) (rest := []) cb9 (hl0.i 0 (by decide) rfl) z_tov hl0 (u1 c1) mo_X11_tapeInt np_X11_tapeInt k445 k447 k0 rfl (nle rfl) dX11_feed_15 rfl
  · refine z_bipush (q := 12) dX11_feed_10 rfl (by decide) ?_
    exact z_iret rfl dX11_feed_12 ⟨hl0, u2 c1⟩
theorem b_X11_feed_18 {D : zD} {d : Nat} {G : zG} {h : zH} {Q : zO → zG → zH → Prop} {x2 x3 x4 x5 : Int}
    (u1 : z_Kv D M_X11_tapeInt d [(2, 0), (0, x2)] G h (fun G' h' => z_Y D M_X11_feed d 23 [(0, 2, 0), (3, 0, x3), (4, 0, x4), (5, 0, x5)] [] G' h' Q)) :
    z_Y D M_X11_feed d 18 [(0, 2, 0), (2, 0, x2), (3, 0, x3), (4, 0, x4), (5, 0, x5)] [] G h Q := by
  intro hl0
  refine z_aload_n (q := 19) 0 dX11_feed_18 rfl rfl ?_
  refine z_iload_n (q := 20) 1 dX11_feed_19 rfl rfl ?_
  refine z_sub (L' := [(0, 2, 0), (3, 0, x3), (4, 0, x4), (5, 0, x5)]) [0, 2, 3, 4] rfl ?_
  exact z_goV (q := 23) (av := [(0, x2)]) (rest := []) cb9 (hl0.i 0 (by decide) rfl) z_tov hl0 (u1) mo_X11_tapeInt np_X11_tapeInt k445 k447 k0 rfl (nle rfl) dX11_feed_20 rfl
theorem b_X11_feed_23 {D : zD} {d : Nat} {G : zG} {h : zH} {Q : zO → zG → zH → Prop} {x3 x4 x5 : Int}
    (u1 : z_Kv D M_X11_tapeInt d [(2, 0), (0, x3)] G h (fun G' h' => z_Y D M_X11_feed d 28 [(0, 2, 0), (4, 0, x4), (5, 0, x5)] [] G' h' Q)) :
    z_Y D M_X11_feed d 23 [(0, 2, 0), (3, 0, x3), (4, 0, x4), (5, 0, x5)] [] G h Q := by
  intro hl0
  refine z_aload_n (q := 24) 0 dX11_feed_23 rfl rfl ?_
  refine z_iload_n (q := 25) 1 dX11_feed_24 rfl rfl ?_
  refine z_sub (L' := [(0, 2, 0), (4, 0, x4), (5, 0, x5)]) [0, 2, 3] rfl ?_
  exact z_goV (q := 28) (av := [(0, x3)]) (rest := []) cb9 (hl0.i 0 (by decide) rfl) z_tov hl0 (u1) mo_X11_tapeInt np_X11_tapeInt k445 k447 k0 rfl (nle rfl) dX11_feed_25 rfl
theorem b_X11_feed_28 {D : zD} {d : Nat} {G : zG} {h : zH} {Q : zO → zG → zH → Prop} {x4 x5 : Int}
    (u1 : z_Kv D M_X11_tapeInt d [(2, 0), (0, x4)] G h (fun G' h' => z_Y D M_X11_feed d 34 [(0, 2, 0), (5, 0, x5)] [] G' h' Q)) :
    z_Y D M_X11_feed d 28 [(0, 2, 0), (4, 0, x4), (5, 0, x5)] [] G h Q := by
  intro hl0
  refine z_aload_n (q := 29) 0 dX11_feed_28 rfl rfl ?_
  refine z_iload (q := 31) 1 dX11_feed_29 rfl rfl ?_
  refine z_sub (L' := [(0, 2, 0), (5, 0, x5)]) [0, 2] rfl ?_
  exact z_goV (q := 34) (av := [(0, x4)]) (rest := []) cb9 (hl0.i 0 (by decide) rfl) z_tov hl0 (u1) mo_X11_tapeInt np_X11_tapeInt k445 k447 k0 rfl (nle rfl) dX11_feed_31 rfl
theorem b_X11_feed_34 {D : zD} {d : Nat} {G : zG} {h : zH} {Q : zO → zG → zH → Prop} {x5 : Int}
    (u1 : z_Kv D M_X11_tapeInt d [(2, 0), (0, x5)] G h (fun G' h' => z_Y D M_X11_feed d 40 [(0, 2, 0)] [] G' h' Q)) :
    z_Y D M_X11_feed d 34 [(0, 2, 0), (5, 0, x5)] [] G h Q := by
  intro hl0
  refine z_aload_n (q := 35) 0 dX11_feed_34 rfl rfl ?_
  refine z_iload (q := 37) 1 dX11_feed_35 rfl rfl ?_
  refine z_sub (L' := [(0, 2, 0)]) [0] rfl ?_
  exact z_goV (q := 40) (av := [(0, x5)]) (rest := []) cb9 (hl0.i 0 (by decide) rfl) z_tov hl0 (u1) mo_X11_tapeInt np_X11_tapeInt k445 k447 k0 rfl (nle rfl) dX11_feed_37 rfl
theorem b_X11_feed_40 {D : zD} {d : Nat} {G : zG} {h : zH} {Q : zO → zG → zH → Prop}
    (u1 : Q (.inl (some (0, (h 0 3)))) G h) :
    z_Y D M_X11_feed d 40 [(0, 2, 0)] [] G h Q := by
  intro hl0
  refine z_aload_n (q := 41) 0 dX11_feed_40 rfl rfl ?_
  refine z_gf (q := 44) (ki := 3) (v := (0, (h 0 3))) fX11_25 rfl rfl (hl0.i 0 (by decide) rfl) dX11_feed_41 rfl ?_
  exact z_iret rfl dX11_feed_44 ⟨hl0, u1⟩
theorem b_X11_end_0 {D : zD} {d : Nat} {G : zG} {h : zH} {Q : zO → zG → zH → Prop} {x1 : Int} (p1 : z_in x1) (p2 : ¬ (x1 < 0) → z_in (h 0 3))
    (u1 : x1 < 0 → Q (.inl (some (0, (-1)))) G h)
    (u2 : ¬ (x1 < 0) → x1 ≤ (h 0 3) → Q (.inl (some (0, x1))) G (z_wr h 0 3 x1))
    (u3 : ¬ (x1 < 0) → ¬ (x1 ≤ (h 0 3)) → Q (.inl (some (0, (-1)))) G h) :
    z_Y D M_X11_end d 0 [(0, 2, 0), (1, 0, x1)] [] G h Q := by
  intro hl0
  refine z_iload_n (q := 1) 1 dX11_end_0 rfl rfl ?_
  refine z_if_lt (q := 4) (t := 12) p1 dX11_end_1 (by decide) rfl (fun c1 => ?_) (fun c1 => ?_)
  · refine z_iconst (q := 13) dX11_end_12 rfl ?_
    exact z_iret rfl dX11_end_13 ⟨hl0, u1 c1⟩
  · refine z_iload_n (q := 5) 1 dX11_end_4 rfl rfl ?_
    refine z_aload_n (q := 6) 0 dX11_end_5 rfl rfl ?_
    refine z_gf (q := 9) (ki := 3) (v := (0, (h 0 3))) fX11_25 rfl rfl (hl0.i 0 (by decide) rfl) dX11_end_6 rfl ?_
    refine z_icmp_le (q := 12) (t := 14) p1 (p2 c1) dX11_end_9 (by decide) rfl (fun c2 => ?_) (fun c2 => ?_)
    · refine z_aload_n (q := 15) 0 dX11_end_14 rfl rfl ?_
      refine z_iload_n (q := 16) 1 dX11_end_15 rfl rfl ?_
      refine z_pf (q := 19) (ki := 3) fX11_25 rfl (z_sv0 rfl) (hl0.i 0 (by decide) rfl) dX11_end_16 rfl ?_
      have hl1 := hl0.wr (v := x1) (hl0.i 0 (by decide) rfl) (i := 3) (by decide)
      refine z_iload_n (q := 20) 1 dX11_end_19 rfl rfl ?_
      exact z_iret rfl dX11_end_20 ⟨hl1, u2 c1 c2⟩
    · refine z_iconst (q := 13) dX11_end_12 rfl ?_
      exact z_iret rfl dX11_end_13 ⟨hl0, u3 c1 c2⟩
theorem b_X11_fault_0 {D : zD} {d : Nat} {G : zG} {h : zH} {Q : zO → zG → zH → Prop} {x1 : Int} (p1 : z_in x1)
    (u1 : ¬ x1 = 0 → ¬ x1 = 1 → Q (.inl (some (0, (-1)))) G h)
    (u2 : ¬ x1 = 0 → ¬ (¬ x1 = 1) → Q (.inl (some (0, (h 0 5)))) G h)
    (u3 : ¬ (¬ x1 = 0) → Q (.inl (some (0, (h 0 4)))) G h) :
    z_Y D M_X11_fault d 0 [(0, 2, 0), (1, 0, x1)] [] G h Q := by
  intro hl0
  refine z_iload_n (q := 1) 1 dX11_fault_0 rfl rfl ?_
  refine z_if_ne (q := 4) (t := 9) p1 dX11_fault_1 (by decide) rfl (fun c1 => ?_) (fun c1 => ?_)
  · refine z_iload_n (q := 10) 1 dX11_fault_9 rfl rfl ?_
    refine z_iconst (q := 11) dX11_fault_10 rfl ?_
    refine z_icmp_ne (q := 14) (t := 21) p1 ⟨by decide, by decide⟩ dX11_fault_11 (by decide) rfl (fun c2 => ?_) (fun c2 => ?_)
    · refine z_iconst (q := 22) dX11_fault_21 rfl ?_
      exact z_iret rfl dX11_fault_22 ⟨hl0, u1 c1 c2⟩
    · refine z_aload_n (q := 15) 0 dX11_fault_14 rfl rfl ?_
      refine z_gf (q := 18) (ki := 5) (v := (0, (h 0 5))) fX11_32 rfl rfl (hl0.i 0 (by decide) rfl) dX11_fault_15 rfl ?_
      refine z_goto (t := 22) dX11_fault_18 (by decide) ?_
      exact z_iret rfl dX11_fault_22 ⟨hl0, u2 c1 c2⟩
  · refine z_aload_n (q := 5) 0 dX11_fault_4 rfl rfl ?_
    refine z_gf (q := 8) (ki := 4) (v := (0, (h 0 4))) fX11_29 rfl rfl (hl0.i 0 (by decide) rfl) dX11_fault_5 rfl ?_
    exact z_iret rfl dX11_fault_8 ⟨hl0, u3 c1⟩
theorem b_X11_size_0 {D : zD} {d : Nat} {G : zG} {h : zH} {Q : zO → zG → zH → Prop} {x1 x2 : Int} (hd : 4 ≤ d) (p1 : z_in x1) (p2 : 0 ≤ x1 ∧ x1 ≤ 7 → x2 = 0 → 0 ≤ x1) (p3 : 0 ≤ x1 ∧ x1 ≤ 7 → x2 = 0 → x1 < 8) (p4 : 0 ≤ x1 ∧ x1 ≤ 7 → ¬ x2 = 0 → x2 = 1 → 0 ≤ x1) (p5 : 0 ≤ x1 ∧ x1 ≤ 7 → ¬ x2 = 0 → x2 = 1 → x1 < 8) (p6 : 0 ≤ x1 ∧ x1 ≤ 7 → ¬ x2 = 0 → ¬ x2 = 1 → x2 = 2 → 0 ≤ x1) (p7 : 0 ≤ x1 ∧ x1 ≤ 7 → ¬ x2 = 0 → ¬ x2 = 1 → x2 = 2 → x1 < 8) (p8 : 0 ≤ x1 ∧ x1 ≤ 7 → ¬ x2 = 0 → ¬ x2 = 1 → x2 = 2 → okS h (56 + 4 * x1)) (p9 : 0 ≤ x1 ∧ x1 ≤ 7 → ¬ x2 = 0 → ¬ x2 = 1 → x2 = 2 → okC h (56 + 4 * x1)) (p10 : 0 ≤ x1 ∧ x1 ≤ 7 → ¬ x2 = 0 → ¬ x2 = 1 → ¬ x2 = 2 → x2 = 3 → 0 ≤ x1) (p11 : 0 ≤ x1 ∧ x1 ≤ 7 → ¬ x2 = 0 → ¬ x2 = 1 → ¬ x2 = 2 → x2 = 3 → x1 < 8) (p12 : 0 ≤ x1 ∧ x1 ≤ 7 → ¬ x2 = 0 → ¬ x2 = 1 → ¬ x2 = 2 → x2 = 3 → okS h (56 + 4 * x1)) (p13 : 0 ≤ x1 ∧ x1 ≤ 7 → ¬ x2 = 0 → ¬ x2 = 1 → ¬ x2 = 2 → x2 = 3 → okC h (56 + 4 * x1)) (p14 : 0 ≤ x1 ∧ x1 ≤ 7 → ¬ x2 = 0 → ¬ x2 = 1 → ¬ x2 = 2 → ¬ x2 = 3 → x2 = 4 → 0 ≤ x1) (p15 : 0 ≤ x1 ∧ x1 ≤ 7 → ¬ x2 = 0 → ¬ x2 = 1 → ¬ x2 = 2 → ¬ x2 = 3 → x2 = 4 → x1 < 8) (p16 : 0 ≤ x1 ∧ x1 ≤ 7 → ¬ x2 = 0 → ¬ x2 = 1 → ¬ x2 = 2 → ¬ x2 = 3 → x2 = 4 → okS h (56 + 4 * x1)) (p17 : 0 ≤ x1 ∧ x1 ≤ 7 → ¬ x2 = 0 → ¬ x2 = 1 → ¬ x2 = 2 → ¬ x2 = 3 → x2 = 4 → okC h (56 + 4 * x1)) (p18 : 0 ≤ x1 ∧ x1 ≤ 7 → ¬ x2 = 0 → ¬ x2 = 1 → ¬ x2 = 2 → ¬ x2 = 3 → ¬ x2 = 4 → z_in x2)
    (u1 : 0 ≤ x1 ∧ x1 ≤ 7 → x2 = 0 → Q (.inl (some (0, (h (56 + 4 * x1) 1)))) G h)
    (u2 : 0 ≤ x1 ∧ x1 ≤ 7 → ¬ x2 = 0 → x2 = 1 → Q (.inl (some (0, (h (56 + 4 * x1) 2)))) G h)
    (u3 : 0 ≤ x1 ∧ x1 ≤ 7 → ¬ x2 = 0 → ¬ x2 = 1 → x2 = 2 → Q (.inl (some (0, (zct (fun i => h ((56 + 4 * x1) + 1) i = 0) (h (56 + 4 * x1) 1 * h (56 + 4 * x1) 2).toNat)))) G h)
    (u4 : 0 ≤ x1 ∧ x1 ≤ 7 → ¬ x2 = 0 → ¬ x2 = 1 → ¬ x2 = 2 → x2 = 3 → Q (.inl (some (0, (zct (fun i => znum (h ((56 + 4 * x1) + 1) i)) (h (56 + 4 * x1) 1 * h (56 + 4 * x1) 2).toNat)))) G h)
    (u5 : 0 ≤ x1 ∧ x1 ≤ 7 → ¬ x2 = 0 → ¬ x2 = 1 → ¬ x2 = 2 → ¬ x2 = 3 → x2 = 4 → Q (.inl (some (0, (zct (fun i => h ((56 + 4 * x1) + 1) i = -1) (h (56 + 4 * x1) 1 * h (56 + 4 * x1) 2).toNat)))) G h)
    (u6 : 0 ≤ x1 ∧ x1 ≤ 7 → ¬ x2 = 0 → ¬ x2 = 1 → ¬ x2 = 2 → ¬ x2 = 3 → ¬ x2 = 4 → Q (.inl (some (0, (-1)))) G h)
    (u7 : ¬ (0 ≤ x1 ∧ x1 ≤ 7) → Q (.inl (some (0, (-1)))) G h) :
    z_Y D M_X11_size d 0 [(0, 2, 0), (1, 0, x1), (2, 0, x2)] [] G h Q := by
  intro hl0
  refine z_iload_n (q := 1) 1 dX11_size_0 rfl rfl ?_
  have e1 := a_X11_onShelf (D := D) (G := G) (h := h) (d := d - 1) (by omega) x1 p1
  refine z_goS (q := 4) (av := [(0, x1)]) (rest := []) (z_toi) hl0 (z_Ei.K e1 (by omega) ?_) mo_X11_onShelf np_X11_onShelf k461 k462 rfl (nle rfl) dX11_size_1 rfl
  by_cases c1 : 0 ≤ x1 ∧ x1 ≤ 7
  · rw [z_b1 c1]
    refine z_if_ne (q := 7) (t := 9) ⟨by decide, by decide⟩ dX11_size_4 (by decide) rfl (fun _ => ?_) (fun c => absurd c (by decide))
    refine z_iload_n (q := 10) 2 dX11_size_9 rfl rfl ?_
    by_cases c2 : x2 = 0
    · refine z_tswIn (t := 44) 0 c2 ⟨by decide, by decide⟩ dX11_size_10 (by decide) (by decide) rfl (by decide) ?_
      refine z_aload_n (q := 45) 0 dX11_size_44 rfl rfl ?_
      refine z_gf (q := 48) (ki := 0) (v := (2, 1)) fX11_11 rfl (z_ldr rfl (hl0.ref 0 rfl)) (hl0.i 0 (by decide) rfl) dX11_size_45 rfl ?_
      refine z_iload_n (q := 49) 1 dX11_size_48 rfl rfl ?_
      refine z_aale (q := 50) 54 (by decide) (by decide) (hl0.a 1 (by decide) rfl) (p2 c1 c2) (p3 c1 c2) (hl0.tb (p2 c1 c2) (p3 c1 c2)) dX11_size_49 rfl ?_
      refine z_gf (q := 53) (ki := 1) (v := (0, (h (56 + 4 * x1) 1))) fX11_114 rfl rfl (hl0.tbi (p2 c1 c2) (p3 c1 c2)) dX11_size_50 rfl ?_
      exact z_iret rfl dX11_size_53 ⟨hl0, u1 c1 c2⟩
    by_cases c3 : x2 = 1
    · refine z_tswIn (t := 54) 1 c3 ⟨by decide, by decide⟩ dX11_size_10 (by decide) (by decide) rfl (by decide) ?_
      refine z_aload_n (q := 55) 0 dX11_size_54 rfl rfl ?_
      refine z_gf (q := 58) (ki := 0) (v := (2, 1)) fX11_11 rfl (z_ldr rfl (hl0.ref 0 rfl)) (hl0.i 0 (by decide) rfl) dX11_size_55 rfl ?_
      refine z_iload_n (q := 59) 1 dX11_size_58 rfl rfl ?_
      refine z_aale (q := 60) 54 (by decide) (by decide) (hl0.a 1 (by decide) rfl) (p4 c1 c2 c3) (p5 c1 c2 c3) (hl0.tb (p4 c1 c2 c3) (p5 c1 c2 c3)) dX11_size_59 rfl ?_
      refine z_gf (q := 63) (ki := 2) (v := (0, (h (56 + 4 * x1) 2))) fX11_128 rfl rfl (hl0.tbi (p4 c1 c2 c3) (p5 c1 c2 c3)) dX11_size_60 rfl ?_
      exact z_iret rfl dX11_size_63 ⟨hl0, u2 c1 c2 c3⟩
    by_cases c4 : x2 = 2
    · refine z_tswIn (t := 64) 2 c4 ⟨by decide, by decide⟩ dX11_size_10 (by decide) (by decide) rfl (by decide) ?_
      refine z_aload_n (q := 65) 0 dX11_size_64 rfl rfl ?_
      refine z_gf (q := 68) (ki := 0) (v := (2, 1)) fX11_11 rfl (z_ldr rfl (hl0.ref 0 rfl)) (hl0.i 0 (by decide) rfl) dX11_size_65 rfl ?_
      refine z_iload_n (q := 69) 1 dX11_size_68 rfl rfl ?_
      refine z_aale (q := 70) 54 (by decide) (by decide) (hl0.a 1 (by decide) rfl) (p6 c1 c2 c3 c4) (p7 c1 c2 c3 c4) (hl0.tb (p6 c1 c2 c3 c4) (p7 c1 c2 c3 c4)) dX11_size_69 rfl ?_
      have e2 := a_X4_empties (D := D) (G := G) (h := h) (d := d - 1) (by omega) (56 + 4 * x1) (hl0.tbi (p6 c1 c2 c3 c4) (p7 c1 c2 c3 c4)) (p8 c1 c2 c3 c4) (p9 c1 c2 c3 c4)
      refine z_goV (q := 73) (av := []) (rest := []) cb3 (hl0.tbi (p6 c1 c2 c3 c4) (p7 c1 c2 c3 c4)) (z_toi) hl0 (z_Ei.K e2 (by omega) ?_) mo_X4_empties np_X4_empties k670 k671 k672 rfl (nle rfl) dX11_size_70 rfl
      exact z_iret rfl dX11_size_73 ⟨hl0, u3 c1 c2 c3 c4⟩
    by_cases c5 : x2 = 3
    · refine z_tswIn (t := 74) 3 c5 ⟨by decide, by decide⟩ dX11_size_10 (by decide) (by decide) rfl (by decide) ?_
      refine z_aload_n (q := 75) 0 dX11_size_74 rfl rfl ?_
      refine z_gf (q := 78) (ki := 0) (v := (2, 1)) fX11_11 rfl (z_ldr rfl (hl0.ref 0 rfl)) (hl0.i 0 (by decide) rfl) dX11_size_75 rfl ?_
      refine z_iload_n (q := 79) 1 dX11_size_78 rfl rfl ?_
      refine z_aale (q := 80) 54 (by decide) (by decide) (hl0.a 1 (by decide) rfl) (p10 c1 c2 c3 c4 c5) (p11 c1 c2 c3 c4 c5) (hl0.tb (p10 c1 c2 c3 c4 c5) (p11 c1 c2 c3 c4 c5)) dX11_size_79 rfl ?_
      have e3 := a_X4_numbers (D := D) (G := G) (h := h) (d := d - 1) (by omega) (56 + 4 * x1) (hl0.tbi (p10 c1 c2 c3 c4 c5) (p11 c1 c2 c3 c4 c5)) (p12 c1 c2 c3 c4 c5) (p13 c1 c2 c3 c4 c5)
      refine z_goV (q := 83) (av := []) (rest := []) cb3 (hl0.tbi (p10 c1 c2 c3 c4 c5) (p11 c1 c2 c3 c4 c5)) (z_toi) hl0 (z_Ei.K e3 (by omega) ?_) mo_X4_numbers np_X4_numbers k678 k679 k680 rfl (nle rfl) dX11_size_80 rfl
      exact z_iret rfl dX11_size_83 ⟨hl0, u4 c1 c2 c3 c4 c5⟩
    by_cases c6 : x2 = 4
    · refine z_tswIn (t := 84) 4 c6 ⟨by decide, by decide⟩ dX11_size_10 (by decide) (by decide) rfl (by decide) ?_
      refine z_aload_n (q := 85) 0 dX11_size_84 rfl rfl ?_
      refine z_gf (q := 88) (ki := 0) (v := (2, 1)) fX11_11 rfl (z_ldr rfl (hl0.ref 0 rfl)) (hl0.i 0 (by decide) rfl) dX11_size_85 rfl ?_
      refine z_iload_n (q := 89) 1 dX11_size_88 rfl rfl ?_
      refine z_aale (q := 90) 54 (by decide) (by decide) (hl0.a 1 (by decide) rfl) (p14 c1 c2 c3 c4 c5 c6) (p15 c1 c2 c3 c4 c5 c6) (hl0.tb (p14 c1 c2 c3 c4 c5 c6) (p15 c1 c2 c3 c4 c5 c6)) dX11_size_89 rfl ?_
      have e4 := a_X4_anys (D := D) (G := G) (h := h) (d := d - 1) (by omega) (56 + 4 * x1) (hl0.tbi (p14 c1 c2 c3 c4 c5 c6) (p15 c1 c2 c3 c4 c5 c6)) (p16 c1 c2 c3 c4 c5 c6) (p17 c1 c2 c3 c4 c5 c6)
      refine z_goV (q := 93) (av := []) (rest := []) cb3 (hl0.tbi (p14 c1 c2 c3 c4 c5 c6) (p15 c1 c2 c3 c4 c5 c6)) (z_toi) hl0 (z_Ei.K e4 (by omega) ?_) mo_X4_anys np_X4_anys k689 k690 k691 rfl (nle rfl) dX11_size_90 rfl
      exact z_iret rfl dX11_size_93 ⟨hl0, u5 c1 c2 c3 c4 c5 c6⟩
    refine z_tswOut (t := 94) (p18 c1 c2 c3 c4 c5 c6) dX11_size_10 (by omega) (by decide) ?_
    refine z_iconst (q := 95) dX11_size_94 rfl ?_
    exact z_iret rfl dX11_size_95 ⟨hl0, u6 c1 c2 c3 c4 c5 c6⟩
  · rw [z_b0 c1]
    refine z_if_ne (q := 7) (t := 9) ⟨by decide, by decide⟩ dX11_size_4 (by decide) rfl (fun c => absurd c (by decide)) (fun _ => ?_)
    refine z_iconst (q := 8) dX11_size_7 rfl ?_
    exact z_iret rfl dX11_size_8 ⟨hl0, u7 c1⟩
theorem b_X11_cell_0 {D : zD} {d : Nat} {G : zG} {h : zH} {Q : zO → zG → zH → Prop} {x1 x2 x3 : Int} (hd : 2 ≤ d) (p1 : z_in x1) (p2 : 0 ≤ x1 ∧ x1 ≤ 7 → 0 ≤ x1) (p3 : 0 ≤ x1 ∧ x1 ≤ 7 → x1 < 8) (p4 : 0 ≤ x1 ∧ x1 ≤ 7 → z_in x2) (p5 : 0 ≤ x1 ∧ x1 ≤ 7 → z_in x3) (p6 : 0 ≤ x1 ∧ x1 ≤ 7 → z_in (h (56 + 4 * x1) 1)) (p7 : 0 ≤ x1 ∧ x1 ≤ 7 → z_in (h (56 + 4 * x1) 2)) (p8 : 0 ≤ x1 ∧ x1 ≤ 7 → (0 ≤ x2 ∧ x2 < h (56 + 4 * x1) 1) ∧ 0 ≤ x3 ∧ x3 < h (56 + 4 * x1) 2 → 0 ≤ (x2 * (h (56 + 4 * x1) 2) + x3)) (p9 : 0 ≤ x1 ∧ x1 ≤ 7 → (0 ≤ x2 ∧ x2 < h (56 + 4 * x1) 1) ∧ 0 ≤ x3 ∧ x3 < h (56 + 4 * x1) 2 → (x2 * (h (56 + 4 * x1) 2) + x3) < 72)
    (u1 : 0 ≤ x1 ∧ x1 ≤ 7 → (0 ≤ x2 ∧ x2 < h (56 + 4 * x1) 1) ∧ 0 ≤ x3 ∧ x3 < h (56 + 4 * x1) 2 → Q (.inl (some (1, (h ((56 + 4 * x1) + 1) (x2 * (h (56 + 4 * x1) 2) + x3))))) G h)
    (u2 : 0 ≤ x1 ∧ x1 ≤ 7 → ¬ ((0 ≤ x2 ∧ x2 < h (56 + 4 * x1) 1) ∧ 0 ≤ x3 ∧ x3 < h (56 + 4 * x1) 2) → Q (.inl (some (1, (-2)))) G h)
    (u3 : ¬ (0 ≤ x1 ∧ x1 ≤ 7) → Q (.inl (some (1, (-2)))) G h) :
    z_Y D M_X11_cell d 0 [(0, 2, 0), (1, 0, x1), (2, 0, x2), (3, 0, x3)] [] G h Q := by
  intro hl0
  refine z_iload_n (q := 1) 1 dX11_cell_0 rfl rfl ?_
  have e1 := a_X11_onShelf (D := D) (G := G) (h := h) (d := d - 1) (by omega) x1 p1
  refine z_goS (q := 4) (av := [(0, x1)]) (rest := []) (z_toi) hl0 (z_Ei.K e1 (by omega) ?_) mo_X11_onShelf np_X11_onShelf k461 k462 rfl (nle rfl) dX11_cell_1 rfl
  by_cases c1 : 0 ≤ x1 ∧ x1 ≤ 7
  · rw [z_b1 c1]
    refine z_if_eq (q := 7) (t := 21) ⟨by decide, by decide⟩ dX11_cell_4 (by decide) rfl (fun c => absurd c (by decide)) (fun _ => ?_)
    refine z_aload_n (q := 8) 0 dX11_cell_7 rfl rfl ?_
    refine z_gf (q := 11) (ki := 0) (v := (2, 1)) fX11_11 rfl (z_ldr rfl (hl0.ref 0 rfl)) (hl0.i 0 (by decide) rfl) dX11_cell_8 rfl ?_
    refine z_iload_n (q := 12) 1 dX11_cell_11 rfl rfl ?_
    refine z_aale (q := 13) 54 (by decide) (by decide) (hl0.a 1 (by decide) rfl) (p2 c1) (p3 c1) (hl0.tb (p2 c1) (p3 c1)) dX11_cell_12 rfl ?_
    refine z_iload_n (q := 14) 2 dX11_cell_13 rfl rfl ?_
    refine z_iload_n (q := 15) 3 dX11_cell_14 rfl rfl ?_
    have e2 := a_X4_has (D := D) (G := G) (h := h) (d := d - 1) (by omega) (56 + 4 * x1) x2 x3 (hl0.tbi (p2 c1) (p3 c1)) (p4 c1) (p5 c1) (p6 c1) (p7 c1)
    refine z_goV (q := 18) (av := [(0, x2), (0, x3)]) (rest := []) cb3 (hl0.tbi (p2 c1) (p3 c1)) (z_toi) hl0 (z_Ei.K e2 (by omega) ?_) mo_X4_has np_X4_has k698 k699 k700 rfl (nle rfl) dX11_cell_15 rfl
    by_cases c2 : (0 ≤ x2 ∧ x2 < h (56 + 4 * x1) 1) ∧ 0 ≤ x3 ∧ x3 < h (56 + 4 * x1) 2
    · rw [z_b1 c2]
      refine z_if_ne (q := 21) (t := 25) ⟨by decide, by decide⟩ dX11_cell_18 (by decide) rfl (fun _ => ?_) (fun c => absurd c (by decide))
      refine z_aload_n (q := 26) 0 dX11_cell_25 rfl rfl ?_
      refine z_gf (q := 29) (ki := 0) (v := (2, 1)) fX11_11 rfl (z_ldr rfl (hl0.ref 0 rfl)) (hl0.i 0 (by decide) rfl) dX11_cell_26 rfl ?_
      refine z_iload_n (q := 30) 1 dX11_cell_29 rfl rfl ?_
      refine z_aale (q := 31) 54 (by decide) (by decide) (hl0.a 1 (by decide) rfl) (p2 c1) (p3 c1) (hl0.tb (p2 c1) (p3 c1)) dX11_cell_30 rfl ?_
      refine z_iload_n (q := 32) 2 dX11_cell_31 rfl rfl ?_
      refine z_iload_n (q := 33) 3 dX11_cell_32 rfl rfl ?_
      have e3 := a_X4_at (D := D) (G := G) (h := h) (d := d - 1) (by omega) (56 + 4 * x1) x2 x3 (h (56 + 4 * x1) 2) (h ((56 + 4 * x1) + 1) (x2 * (h (56 + 4 * x1) 2) + x3)) (hl0.tbi (p2 c1) (p3 c1)) rfl (p8 c1 c2) (p9 c1 c2) rfl
      refine z_goV (q := 36) (av := [(0, x2), (0, x3)]) (rest := []) cb3 (hl0.tbi (p2 c1) (p3 c1)) (z_tol) hl0 (z_El.K e3 (by omega) ?_) mo_X4_at np_X4_at k703 k704 k705 rfl (nle rfl) dX11_cell_33 rfl
      exact z_lret rfl dX11_cell_36 ⟨hl0, u1 c1 c2⟩
    · rw [z_b0 c2]
      refine z_if_ne (q := 21) (t := 25) ⟨by decide, by decide⟩ dX11_cell_18 (by decide) rfl (fun c => absurd c (by decide)) (fun _ => ?_)
      refine z_ldc2 (q := 24) (n := (-2)) k702 (by decide) dX11_cell_21 rfl ?_
      exact z_lret rfl dX11_cell_24 ⟨hl0, u2 c1 c2⟩
  · rw [z_b0 c1]
    refine z_if_eq (q := 7) (t := 21) ⟨by decide, by decide⟩ dX11_cell_4 (by decide) rfl (fun _ => ?_) (fun c => absurd c (by decide))
    refine z_ldc2 (q := 24) (n := (-2)) k702 (by decide) dX11_cell_21 rfl ?_
    exact z_lret rfl dX11_cell_24 ⟨hl0, u3 c1⟩
theorem b_X11_copy_0 {D : zD} {d : Nat} {G : zG} {h : zH} {Q : zO → zG → zH → Prop} {x1 x2 : Int} (hd : 2 ≤ d) (p1 : z_in x1) (p2 : 0 ≤ x1 ∧ x1 ≤ 7 → z_in x2) (p3 : 0 ≤ x1 ∧ x1 ≤ 7 → 0 ≤ x2 ∧ x2 ≤ 7 → 0 ≤ x2) (p4 : 0 ≤ x1 ∧ x1 ≤ 7 → 0 ≤ x2 ∧ x2 ≤ 7 → x2 < 8) (p5 : 0 ≤ x1 ∧ x1 ≤ 7 → 0 ≤ x2 ∧ x2 ≤ 7 → 0 ≤ x1) (p6 : 0 ≤ x1 ∧ x1 ≤ 7 → 0 ≤ x2 ∧ x2 ≤ 7 → x1 < 8) (p7 : 0 ≤ x1 ∧ x1 ≤ 7 → 0 ≤ x2 ∧ x2 ≤ 7 → 0 ≤ ((h (56 + 4 * x1) 1) * (h (56 + 4 * x1) 2))) (p8 : 0 ≤ x1 ∧ x1 ≤ 7 → 0 ≤ x2 ∧ x2 ≤ 7 → ((h (56 + 4 * x1) 1) * (h (56 + 4 * x1) 2)) ≤ 72)
    (u1 : 0 ≤ x1 ∧ x1 ≤ 7 → 0 ≤ x2 ∧ x2 ≤ 7 → Q (.inl (some (0, (h (56 + 4 * x1) 1)))) G (z_cp (z_wr (z_wr h (56 + 4 * x2) 1 (h (56 + 4 * x1) 1)) (56 + 4 * x2) 2 (h (56 + 4 * x1) 2)) ((56 + 4 * x1) + 1) 0 ((56 + 4 * x2) + 1) 0 ((h (56 + 4 * x1) 1) * (h (56 + 4 * x1) 2))))
    (u2 : 0 ≤ x1 ∧ x1 ≤ 7 → ¬ (0 ≤ x2 ∧ x2 ≤ 7) → Q (.inl (some (0, (-2)))) G h)
    (u3 : ¬ (0 ≤ x1 ∧ x1 ≤ 7) → Q (.inl (some (0, (-2)))) G h) :
    z_Y D M_X11_copy d 0 [(0, 2, 0), (1, 0, x1), (2, 0, x2)] [] G h Q := by
  intro hl0
  refine z_iload_n (q := 1) 1 dX11_copy_0 rfl rfl ?_
  have e1 := a_X11_onShelf (D := D) (G := G) (h := h) (d := d - 1) (by omega) x1 p1
  refine z_goS (q := 4) (av := [(0, x1)]) (rest := []) (z_toi) hl0 (z_Ei.K e1 (by omega) ?_) mo_X11_onShelf np_X11_onShelf k461 k462 rfl (nle rfl) dX11_copy_1 rfl
  by_cases c1 : 0 ≤ x1 ∧ x1 ≤ 7
  · rw [z_b1 c1]
    refine z_if_eq (q := 7) (t := 14) ⟨by decide, by decide⟩ dX11_copy_4 (by decide) rfl (fun c => absurd c (by decide)) (fun _ => ?_)
    refine z_iload_n (q := 8) 2 dX11_copy_7 rfl rfl ?_
    have e2 := a_X11_onShelf (D := D) (G := G) (h := h) (d := d - 1) (by omega) x2 (p2 c1)
    refine z_goS (q := 11) (av := [(0, x2)]) (rest := []) (z_toi) hl0 (z_Ei.K e2 (by omega) ?_) mo_X11_onShelf np_X11_onShelf k461 k462 rfl (nle rfl) dX11_copy_8 rfl
    by_cases c2 : 0 ≤ x2 ∧ x2 ≤ 7
    · rw [z_b1 c2]
      refine z_if_ne (q := 14) (t := 17) ⟨by decide, by decide⟩ dX11_copy_11 (by decide) rfl (fun _ => ?_) (fun c => absurd c (by decide))
      refine z_aload_n (q := 18) 0 dX11_copy_17 rfl rfl ?_
      refine z_gf (q := 21) (ki := 0) (v := (2, 1)) fX11_11 rfl (z_ldr rfl (hl0.ref 0 rfl)) (hl0.i 0 (by decide) rfl) dX11_copy_18 rfl ?_
      refine z_iload_n (q := 22) 2 dX11_copy_21 rfl rfl ?_
      refine z_aale (q := 23) 54 (by decide) (by decide) (hl0.a 1 (by decide) rfl) (p3 c1 c2) (p4 c1 c2) (hl0.tb (p3 c1 c2) (p4 c1 c2)) dX11_copy_22 rfl ?_
      refine z_aload_n (q := 24) 0 dX11_copy_23 rfl rfl ?_
      refine z_gf (q := 27) (ki := 0) (v := (2, 1)) fX11_11 rfl (z_ldr rfl (hl0.ref 0 rfl)) (hl0.i 0 (by decide) rfl) dX11_copy_24 rfl ?_
      refine z_iload_n (q := 28) 1 dX11_copy_27 rfl rfl ?_
      refine z_aale (q := 29) 54 (by decide) (by decide) (hl0.a 1 (by decide) rfl) (p5 c1 c2) (p6 c1 c2) (hl0.tb (p5 c1 c2) (p6 c1 c2)) dX11_copy_28 rfl ?_
      have e3 := a_X4_become (D := D) (G := G) (h := h) (d := d - 1) (by omega) (56 + 4 * x2) (56 + 4 * x1) (h (56 + 4 * x1) 1) (h (56 + 4 * x1) 2) (hl0.tbi (p3 c1 c2) (p4 c1 c2)) (hl0.tbi (p5 c1 c2) (p6 c1 c2)) rfl rfl (p7 c1 c2) (p8 c1 c2)
      refine z_goV (q := 32) (av := [(2, (56 + 4 * x1))]) (rest := []) cb3 (hl0.tbi (p3 c1 c2) (p4 c1 c2)) (z_tov) hl0 (z_Ev.K e3 (by omega) ?_) mo_X4_become np_X4_become k508 k509 k510 rfl (nle rfl) dX11_copy_29 rfl
      have hl1 : lay G (z_cp (z_wr (z_wr h (56 + 4 * x2) 1 (h (56 + 4 * x1) 1)) (56 + 4 * x2) 2 (h (56 + 4 * x1) 2)) ((56 + 4 * x1) + 1) 0 ((56 + 4 * x2) + 1) 0 ((h (56 + 4 * x1) 1) * (h (56 + 4 * x1) 2))) := e3.lay hl0
      refine z_aload_n (q := 33) 0 dX11_copy_32 rfl rfl ?_
      refine z_gf (q := 36) (ki := 0) (v := (2, 1)) fX11_11 rfl (z_ldr rfl (hl1.ref 0 rfl)) (hl1.i 0 (by decide) rfl) dX11_copy_33 rfl ?_
      refine z_iload_n (q := 37) 2 dX11_copy_36 rfl rfl ?_
      refine z_aale (q := 38) 54 (by decide) (by decide) (hl1.a 1 (by decide) rfl) (p3 c1 c2) (p4 c1 c2) (hl1.tb (p3 c1 c2) (p4 c1 c2)) dX11_copy_37 rfl ?_
      refine z_gf (q := 41) (ki := 1) (v := (0, (h (56 + 4 * x1) 1))) fX11_114 rfl (z_ldi rfl ((c_na (z_isne (hl0.tbi (p3 c1 c2) (p4 c1 c2)) (hl0.ti (hl0.tbi (p3 c1 c2) (p4 c1 c2))) (by decide))).trans ((w_nj (by decide)).trans w_s))) (hl0.tbi (p3 c1 c2) (p4 c1 c2)) dX11_copy_38 rfl ?_
      exact z_iret rfl dX11_copy_41 ⟨hl1, u1 c1 c2⟩
    · rw [z_b0 c2]
      refine z_if_ne (q := 14) (t := 17) ⟨by decide, by decide⟩ dX11_copy_11 (by decide) rfl (fun c => absurd c (by decide)) (fun _ => ?_)
      refine z_bipush (q := 16) dX11_copy_14 rfl (by decide) ?_
      exact z_iret rfl dX11_copy_16 ⟨hl0, u2 c1 c2⟩
  · rw [z_b0 c1]
    refine z_if_eq (q := 7) (t := 14) ⟨by decide, by decide⟩ dX11_copy_4 (by decide) rfl (fun _ => ?_) (fun c => absurd c (by decide))
    refine z_bipush (q := 16) dX11_copy_14 rfl (by decide) ?_
    exact z_iret rfl dX11_copy_16 ⟨hl0, u3 c1⟩
theorem b_X11_fits_0 {D : zD} {d : Nat} {G : zG} {h : zH} {Q : zO → zG → zH → Prop} {x1 x2 : Int} (hd : 2 ≤ d) (p1 : z_in x1) (p2 : 0 ≤ x1 ∧ x1 ≤ 7 → z_in x2) (p3 : 0 ≤ x1 ∧ x1 ≤ 7 → 0 ≤ x2 ∧ x2 ≤ 7 → 0 ≤ x1) (p4 : 0 ≤ x1 ∧ x1 ≤ 7 → 0 ≤ x2 ∧ x2 ≤ 7 → x1 < 8) (p5 : 0 ≤ x1 ∧ x1 ≤ 7 → 0 ≤ x2 ∧ x2 ≤ 7 → 0 ≤ x2) (p6 : 0 ≤ x1 ∧ x1 ≤ 7 → 0 ≤ x2 ∧ x2 ≤ 7 → x2 < 8) (p7 : 0 ≤ x1 ∧ x1 ≤ 7 → 0 ≤ x2 ∧ x2 ≤ 7 → okS h (56 + 4 * x1)) (p8 : 0 ≤ x1 ∧ x1 ≤ 7 → 0 ≤ x2 ∧ x2 ≤ 7 → okS h (56 + 4 * x2)) (p9 : 0 ≤ x1 ∧ x1 ≤ 7 → 0 ≤ x2 ∧ x2 ≤ 7 → okC h (56 + 4 * x1)) (p10 : 0 ≤ x1 ∧ x1 ≤ 7 → 0 ≤ x2 ∧ x2 ≤ 7 → okC h (56 + 4 * x2))
    (u1 : 0 ≤ x1 ∧ x1 ≤ 7 → 0 ≤ x2 ∧ x2 ≤ 7 → (h (56 + 4 * x1) 1 = h (56 + 4 * x2) 1 ∧ h (56 + 4 * x1) 2 = h (56 + 4 * x2) 2 ∧ ∀ i : Int, 0 ≤ i → i < h (56 + 4 * x1) 1 * h (56 + 4 * x1) 2 → h ((56 + 4 * x1) + 1) i = h ((56 + 4 * x2) + 1) i ∨ h ((56 + 4 * x1) + 1) i = -1 ∨ h ((56 + 4 * x2) + 1) i = -1) → Q (.inl (some (0, 1))) G h)
    (u2 : 0 ≤ x1 ∧ x1 ≤ 7 → 0 ≤ x2 ∧ x2 ≤ 7 → ¬ ((h (56 + 4 * x1) 1 = h (56 + 4 * x2) 1 ∧ h (56 + 4 * x1) 2 = h (56 + 4 * x2) 2 ∧ ∀ i : Int, 0 ≤ i → i < h (56 + 4 * x1) 1 * h (56 + 4 * x1) 2 → h ((56 + 4 * x1) + 1) i = h ((56 + 4 * x2) + 1) i ∨ h ((56 + 4 * x1) + 1) i = -1 ∨ h ((56 + 4 * x2) + 1) i = -1)) → Q (.inl (some (0, 0))) G h)
    (u3 : 0 ≤ x1 ∧ x1 ≤ 7 → ¬ (0 ≤ x2 ∧ x2 ≤ 7) → Q (.inl (some (0, (-2)))) G h)
    (u4 : ¬ (0 ≤ x1 ∧ x1 ≤ 7) → Q (.inl (some (0, (-2)))) G h) :
    z_Y D M_X11_fits d 0 [(0, 2, 0), (1, 0, x1), (2, 0, x2)] [] G h Q := by
  intro hl0
  refine z_iload_n (q := 1) 1 dX11_fits_0 rfl rfl ?_
  have e1 := a_X11_onShelf (D := D) (G := G) (h := h) (d := d - 1) (by omega) x1 p1
  refine z_goS (q := 4) (av := [(0, x1)]) (rest := []) (z_toi) hl0 (z_Ei.K e1 (by omega) ?_) mo_X11_onShelf np_X11_onShelf k461 k462 rfl (nle rfl) dX11_fits_1 rfl
  by_cases c1 : 0 ≤ x1 ∧ x1 ≤ 7
  · rw [z_b1 c1]
    refine z_if_eq (q := 7) (t := 14) ⟨by decide, by decide⟩ dX11_fits_4 (by decide) rfl (fun c => absurd c (by decide)) (fun _ => ?_)
    refine z_iload_n (q := 8) 2 dX11_fits_7 rfl rfl ?_
    have e2 := a_X11_onShelf (D := D) (G := G) (h := h) (d := d - 1) (by omega) x2 (p2 c1)
    refine z_goS (q := 11) (av := [(0, x2)]) (rest := []) (z_toi) hl0 (z_Ei.K e2 (by omega) ?_) mo_X11_onShelf np_X11_onShelf k461 k462 rfl (nle rfl) dX11_fits_8 rfl
    by_cases c2 : 0 ≤ x2 ∧ x2 ≤ 7
    · rw [z_b1 c2]
      refine z_if_ne (q := 14) (t := 17) ⟨by decide, by decide⟩ dX11_fits_11 (by decide) rfl (fun _ => ?_) (fun c => absurd c (by decide))
      refine z_aload_n (q := 18) 0 dX11_fits_17 rfl rfl ?_
      refine z_gf (q := 21) (ki := 0) (v := (2, 1)) fX11_11 rfl (z_ldr rfl (hl0.ref 0 rfl)) (hl0.i 0 (by decide) rfl) dX11_fits_18 rfl ?_
      refine z_iload_n (q := 22) 1 dX11_fits_21 rfl rfl ?_
      refine z_aale (q := 23) 54 (by decide) (by decide) (hl0.a 1 (by decide) rfl) (p3 c1 c2) (p4 c1 c2) (hl0.tb (p3 c1 c2) (p4 c1 c2)) dX11_fits_22 rfl ?_
      refine z_aload_n (q := 24) 0 dX11_fits_23 rfl rfl ?_
      refine z_gf (q := 27) (ki := 0) (v := (2, 1)) fX11_11 rfl (z_ldr rfl (hl0.ref 0 rfl)) (hl0.i 0 (by decide) rfl) dX11_fits_24 rfl ?_
      refine z_iload_n (q := 28) 2 dX11_fits_27 rfl rfl ?_
      refine z_aale (q := 29) 54 (by decide) (by decide) (hl0.a 1 (by decide) rfl) (p5 c1 c2) (p6 c1 c2) (hl0.tb (p5 c1 c2) (p6 c1 c2)) dX11_fits_28 rfl ?_
      have e3 := a_X4_isLike (D := D) (G := G) (h := h) (d := d - 1) (by omega) (56 + 4 * x1) (56 + 4 * x2) (hl0.tbi (p3 c1 c2) (p4 c1 c2)) (hl0.tbi (p5 c1 c2) (p6 c1 c2)) (p7 c1 c2) (p8 c1 c2) (p9 c1 c2) (p10 c1 c2)
      refine z_goV (q := 32) (av := [(2, (56 + 4 * x2))]) (rest := []) cb3 (hl0.tbi (p3 c1 c2) (p4 c1 c2)) (z_toi) hl0 (z_Ei.K e3 (by omega) ?_) mo_X4_isLike np_X4_isLike k715 k716 k717 rfl (nle rfl) dX11_fits_29 rfl
      by_cases c3 : (h (56 + 4 * x1) 1 = h (56 + 4 * x2) 1 ∧ h (56 + 4 * x1) 2 = h (56 + 4 * x2) 2 ∧ ∀ i : Int, 0 ≤ i → i < h (56 + 4 * x1) 1 * h (56 + 4 * x1) 2 → h ((56 + 4 * x1) + 1) i = h ((56 + 4 * x2) + 1) i ∨ h ((56 + 4 * x1) + 1) i = -1 ∨ h ((56 + 4 * x2) + 1) i = -1)
      · rw [z_b1 c3]
        refine z_if_eq (q := 35) (t := 39) ⟨by decide, by decide⟩ dX11_fits_32 (by decide) rfl (fun c => absurd c (by decide)) (fun _ => ?_)
        refine z_iconst (q := 36) dX11_fits_35 rfl ?_
        refine z_goto (t := 40) dX11_fits_36 (by decide) ?_
        exact z_iret rfl dX11_fits_40 ⟨hl0, u1 c1 c2 c3⟩
      · rw [z_b0 c3]
        refine z_if_eq (q := 35) (t := 39) ⟨by decide, by decide⟩ dX11_fits_32 (by decide) rfl (fun _ => ?_) (fun c => absurd c (by decide))
        refine z_iconst (q := 40) dX11_fits_39 rfl ?_
        exact z_iret rfl dX11_fits_40 ⟨hl0, u2 c1 c2 c3⟩
    · rw [z_b0 c2]
      refine z_if_ne (q := 14) (t := 17) ⟨by decide, by decide⟩ dX11_fits_11 (by decide) rfl (fun c => absurd c (by decide)) (fun _ => ?_)
      refine z_bipush (q := 16) dX11_fits_14 rfl (by decide) ?_
      exact z_iret rfl dX11_fits_16 ⟨hl0, u3 c1 c2⟩
  · rw [z_b0 c1]
    refine z_if_eq (q := 7) (t := 14) ⟨by decide, by decide⟩ dX11_fits_4 (by decide) rfl (fun _ => ?_) (fun c => absurd c (by decide))
    refine z_bipush (q := 16) dX11_fits_14 rfl (by decide) ?_
    exact z_iret rfl dX11_fits_16 ⟨hl0, u4 c1⟩
theorem b_X11_step_0 {D : zD} {d : Nat} {G : zG} {h : zH} {Q : zO → zG → zH → Prop} {x1 x2 x3 x4 : Int} (hd : 2 ≤ d) (p1 : z_in x1) (p2 : 0 ≤ x1 ∧ x1 ≤ 7 → z_in x2) (p3 : 0 ≤ x1 ∧ x1 ≤ 7 → ¬ (x2 < 1) → x2 ≤ 14 → 0 ≤ x1) (p4 : 0 ≤ x1 ∧ x1 ≤ 7 → ¬ (x2 < 1) → x2 ≤ 14 → x1 < 8)
    (u1 : 0 ≤ x1 ∧ x1 ≤ 7 → x2 < 1 → Q (.inl (some (0, (-2)))) G h)
    (u2 : 0 ≤ x1 ∧ x1 ≤ 7 → ¬ (x2 < 1) → x2 ≤ 14 → z_Ki D M_X3_make d [(2, 12), (2, (56 + 4 * x1)), (2, 29), (0, x2), (0, x3), (0, x4)] G h (fun r G' h' => z_Y D M_X11_step d 42 [(0, 2, 0), (1, 0, x1)] [(0, r)] G' h' Q))
    (u3 : 0 ≤ x1 ∧ x1 ≤ 7 → ¬ (x2 < 1) → ¬ (x2 ≤ 14) → Q (.inl (some (0, (-2)))) G h)
    (u4 : ¬ (0 ≤ x1 ∧ x1 ≤ 7) → Q (.inl (some (0, (-2)))) G h) :
    z_Y D M_X11_step d 0 [(0, 2, 0), (1, 0, x1), (2, 0, x2), (3, 0, x3), (4, 0, x4)] [] G h Q := by
  intro hl0
  refine z_iload_n (q := 1) 1 dX11_step_0 rfl rfl ?_
  have e1 := a_X11_onShelf (D := D) (G := G) (h := h) (d := d - 1) (by omega) x1 p1
  refine z_goS (q := 4) (av := [(0, x1)]) (rest := []) (z_toi) hl0 (z_Ei.K e1 (by omega) ?_) mo_X11_onShelf np_X11_onShelf k461 k462 rfl (nle rfl) dX11_step_1 rfl
  by_cases c1 : 0 ≤ x1 ∧ x1 ≤ 7
  · rw [z_b1 c1]
    refine z_if_eq (q := 7) (t := 18) ⟨by decide, by decide⟩ dX11_step_4 (by decide) rfl (fun c => absurd c (by decide)) (fun _ => ?_)
    refine z_iload_n (q := 8) 2 dX11_step_7 rfl rfl ?_
    refine z_iconst (q := 9) dX11_step_8 rfl ?_
    refine z_icmp_lt (q := 12) (t := 18) (p2 c1) ⟨by decide, by decide⟩ dX11_step_9 (by decide) rfl (fun c2 => ?_) (fun c2 => ?_)
    · refine z_bipush (q := 20) dX11_step_18 rfl (by decide) ?_
      exact z_iret rfl dX11_step_20 ⟨hl0, u1 c1 c2⟩
    · refine z_iload_n (q := 13) 2 dX11_step_12 rfl rfl ?_
      refine z_bipush (q := 15) dX11_step_13 rfl (by decide) ?_
      refine z_icmp_le (q := 18) (t := 21) (p2 c1) ⟨by decide, by decide⟩ dX11_step_15 (by decide) rfl (fun c3 => ?_) (fun c3 => ?_)
      · refine z_aload_n (q := 22) 0 dX11_step_21 rfl rfl ?_
        refine z_gf (q := 25) (ki := 8) (v := (2, 12)) fX11_52 rfl (z_ldr rfl (hl0.ref 17 rfl)) (hl0.i 0 (by decide) rfl) dX11_step_22 rfl ?_
        refine z_aload_n (q := 26) 0 dX11_step_25 rfl rfl ?_
        refine z_gf (q := 29) (ki := 0) (v := (2, 1)) fX11_11 rfl (z_ldr rfl (hl0.ref 0 rfl)) (hl0.i 0 (by decide) rfl) dX11_step_26 rfl ?_
        refine z_iload_n (q := 30) 1 dX11_step_29 rfl rfl ?_
        refine z_aale (q := 31) 54 (by decide) (by decide) (hl0.a 1 (by decide) rfl) (p3 c1 c2 c3) (p4 c1 c2 c3) (hl0.tb (p3 c1 c2 c3) (p4 c1 c2 c3)) dX11_step_30 rfl ?_
        refine z_aload_n (q := 32) 0 dX11_step_31 rfl rfl ?_
        refine z_gf (q := 35) (ki := 11) (v := (2, 29)) fX11_69 rfl (z_ldr rfl (hl0.ref 27 rfl)) (hl0.i 0 (by decide) rfl) dX11_step_32 rfl ?_
        refine z_iload_n (q := 36) 2 dX11_step_35 rfl rfl ?_
        refine z_iload_n (q := 37) 3 dX11_step_36 rfl rfl ?_
        refine z_iload (q := 39) 4 dX11_step_37 rfl rfl ?_
        refine z_sub (L' := [(0, 2, 0), (1, 0, x1)]) [0, 1] rfl ?_
        exact z_goV (q := 42) (av := [(2, (56 + 4 * x1)), (2, 29), (0, x2), (0, x3), (0, x4)]) (rest := []) cb2 (hl0.i 12 (by decide) rfl) z_toi hl0 (u2 c1 c2 c3) mo_X3_make np_X3_make k723 k724 k725 rfl (nle rfl) dX11_step_39 rfl
      · refine z_bipush (q := 20) dX11_step_18 rfl (by decide) ?_
        exact z_iret rfl dX11_step_20 ⟨hl0, u3 c1 c2 c3⟩
  · rw [z_b0 c1]
    refine z_if_eq (q := 7) (t := 18) ⟨by decide, by decide⟩ dX11_step_4 (by decide) rfl (fun _ => ?_) (fun c => absurd c (by decide))
    refine z_bipush (q := 20) dX11_step_18 rfl (by decide) ?_
    exact z_iret rfl dX11_step_20 ⟨hl0, u4 c1⟩
theorem b_X11_step_42 {D : zD} {d : Nat} {G : zG} {h : zH} {Q : zO → zG → zH → Prop} {s0 x1 : Int} (hd : 2 ≤ d) (p1 : z_in s0) (p2 : ¬ s0 = 0 → 0 ≤ x1) (p3 : ¬ s0 = 0 → x1 < 8) (p4 : ¬ s0 = 0 → 0 ≤ ((h 29 1) * (h 29 2))) (p5 : ¬ s0 = 0 → ((h 29 1) * (h 29 2)) ≤ 72)
    (u1 : ¬ s0 = 0 → Q (.inl (some (0, (h 29 1)))) G (z_cp (z_wr (z_wr h (56 + 4 * x1) 1 (h 29 1)) (56 + 4 * x1) 2 (h 29 2)) 30 0 ((56 + 4 * x1) + 1) 0 ((h 29 1) * (h 29 2))))
    (u2 : ¬ (¬ s0 = 0) → Q (.inl (some (0, (-1)))) G h) :
    z_Y D M_X11_step d 42 [(0, 2, 0), (1, 0, x1)] [(0, s0)] G h Q := by
  intro hl0
  refine z_if_ne (q := 45) (t := 47) p1 dX11_step_42 (by decide) rfl (fun c1 => ?_) (fun c1 => ?_)
  · refine z_aload_n (q := 48) 0 dX11_step_47 rfl rfl ?_
    refine z_gf (q := 51) (ki := 0) (v := (2, 1)) fX11_11 rfl (z_ldr rfl (hl0.ref 0 rfl)) (hl0.i 0 (by decide) rfl) dX11_step_48 rfl ?_
    refine z_iload_n (q := 52) 1 dX11_step_51 rfl rfl ?_
    refine z_aale (q := 53) 54 (by decide) (by decide) (hl0.a 1 (by decide) rfl) (p2 c1) (p3 c1) (hl0.tb (p2 c1) (p3 c1)) dX11_step_52 rfl ?_
    refine z_aload_n (q := 54) 0 dX11_step_53 rfl rfl ?_
    refine z_gf (q := 57) (ki := 11) (v := (2, 29)) fX11_69 rfl (z_ldr rfl (hl0.ref 27 rfl)) (hl0.i 0 (by decide) rfl) dX11_step_54 rfl ?_
    have e1 := a_X4_become (D := D) (G := G) (h := h) (d := d - 1) (by omega) (56 + 4 * x1) 29 (h 29 1) (h 29 2) (hl0.tbi (p2 c1) (p3 c1)) (hl0.i 29 (by decide) rfl) rfl rfl (p4 c1) (p5 c1)
    refine z_goV (q := 60) (av := [(2, 29)]) (rest := []) cb3 (hl0.tbi (p2 c1) (p3 c1)) (z_tov) hl0 (z_Ev.K e1 (by omega) ?_) mo_X4_become np_X4_become k508 k509 k510 rfl (nle rfl) dX11_step_57 rfl
    have hl1 : lay G (z_cp (z_wr (z_wr h (56 + 4 * x1) 1 (h 29 1)) (56 + 4 * x1) 2 (h 29 2)) 30 0 ((56 + 4 * x1) + 1) 0 ((h 29 1) * (h 29 2))) := e1.lay hl0
    refine z_aload_n (q := 61) 0 dX11_step_60 rfl rfl ?_
    refine z_gf (q := 64) (ki := 0) (v := (2, 1)) fX11_11 rfl (z_ldr rfl (hl1.ref 0 rfl)) (hl1.i 0 (by decide) rfl) dX11_step_61 rfl ?_
    refine z_iload_n (q := 65) 1 dX11_step_64 rfl rfl ?_
    refine z_aale (q := 66) 54 (by decide) (by decide) (hl1.a 1 (by decide) rfl) (p2 c1) (p3 c1) (hl1.tb (p2 c1) (p3 c1)) dX11_step_65 rfl ?_
    refine z_gf (q := 69) (ki := 1) (v := (0, (h 29 1))) fX11_114 rfl (z_ldi rfl ((c_na (z_isne (hl0.tbi (p2 c1) (p3 c1)) (hl0.ti (hl0.tbi (p2 c1) (p3 c1))) (by decide))).trans ((w_nj (by decide)).trans w_s))) (hl0.tbi (p2 c1) (p3 c1)) dX11_step_66 rfl ?_
    exact z_iret rfl dX11_step_69 ⟨hl1, u1 c1⟩
  · refine z_iconst (q := 46) dX11_step_45 rfl ?_
    exact z_iret rfl dX11_step_46 ⟨hl0, u2 c1⟩
theorem b_X11_walk_0 {D : zD} {d : Nat} {G : zG} {h : zH} {Q : zO → zG → zH → Prop} {x1 x2 x3 : Int} (hd : 2 ≤ d) (p1 : z_in x1) (p2 : 0 ≤ x1 ∧ x1 ≤ 7 → z_in x2) (p3 : 0 ≤ x1 ∧ x1 ≤ 7 → 0 ≤ x2 ∧ x2 ≤ 7 → z_in x3) (p4 : 0 ≤ x1 ∧ x1 ≤ 7 → 0 ≤ x2 ∧ x2 ≤ 7 → 0 ≤ x3 ∧ x3 ≤ 7 → 0 ≤ x1) (p5 : 0 ≤ x1 ∧ x1 ≤ 7 → 0 ≤ x2 ∧ x2 ≤ 7 → 0 ≤ x3 ∧ x3 ≤ 7 → x1 < 8) (p6 : 0 ≤ x1 ∧ x1 ≤ 7 → 0 ≤ x2 ∧ x2 ≤ 7 → 0 ≤ x3 ∧ x3 ≤ 7 → 0 ≤ x2) (p7 : 0 ≤ x1 ∧ x1 ≤ 7 → 0 ≤ x2 ∧ x2 ≤ 7 → 0 ≤ x3 ∧ x3 ≤ 7 → x2 < 8)
    (u1 : 0 ≤ x1 ∧ x1 ≤ 7 → 0 ≤ x2 ∧ x2 ≤ 7 → 0 ≤ x3 ∧ x3 ≤ 7 → z_Ki D M_X8_go d [(2, 19), (2, (58 + 4 * x1)), (2, (56 + 4 * x2))] G h (fun r G' h' => z_Y D M_X11_walk d 43 [(0, 2, 0), (3, 0, x3)] [(0, r)] G' h' Q))
    (u2 : 0 ≤ x1 ∧ x1 ≤ 7 → 0 ≤ x2 ∧ x2 ≤ 7 → ¬ (0 ≤ x3 ∧ x3 ≤ 7) → Q (.inl (some (0, (-2)))) G h)
    (u3 : 0 ≤ x1 ∧ x1 ≤ 7 → ¬ (0 ≤ x2 ∧ x2 ≤ 7) → Q (.inl (some (0, (-2)))) G h)
    (u4 : ¬ (0 ≤ x1 ∧ x1 ≤ 7) → Q (.inl (some (0, (-2)))) G h) :
    z_Y D M_X11_walk d 0 [(0, 2, 0), (1, 0, x1), (2, 0, x2), (3, 0, x3)] [] G h Q := by
  intro hl0
  refine z_iload_n (q := 1) 1 dX11_walk_0 rfl rfl ?_
  have e1 := a_X11_onShelf (D := D) (G := G) (h := h) (d := d - 1) (by omega) x1 p1
  refine z_goS (q := 4) (av := [(0, x1)]) (rest := []) (z_toi) hl0 (z_Ei.K e1 (by omega) ?_) mo_X11_onShelf np_X11_onShelf k461 k462 rfl (nle rfl) dX11_walk_1 rfl
  by_cases c1 : 0 ≤ x1 ∧ x1 ≤ 7
  · rw [z_b1 c1]
    refine z_if_eq (q := 7) (t := 21) ⟨by decide, by decide⟩ dX11_walk_4 (by decide) rfl (fun c => absurd c (by decide)) (fun _ => ?_)
    refine z_iload_n (q := 8) 2 dX11_walk_7 rfl rfl ?_
    have e2 := a_X11_onShelf (D := D) (G := G) (h := h) (d := d - 1) (by omega) x2 (p2 c1)
    refine z_goS (q := 11) (av := [(0, x2)]) (rest := []) (z_toi) hl0 (z_Ei.K e2 (by omega) ?_) mo_X11_onShelf np_X11_onShelf k461 k462 rfl (nle rfl) dX11_walk_8 rfl
    by_cases c2 : 0 ≤ x2 ∧ x2 ≤ 7
    · rw [z_b1 c2]
      refine z_if_eq (q := 14) (t := 21) ⟨by decide, by decide⟩ dX11_walk_11 (by decide) rfl (fun c => absurd c (by decide)) (fun _ => ?_)
      refine z_iload_n (q := 15) 3 dX11_walk_14 rfl rfl ?_
      have e3 := a_X11_onShelf (D := D) (G := G) (h := h) (d := d - 1) (by omega) x3 (p3 c1 c2)
      refine z_goS (q := 18) (av := [(0, x3)]) (rest := []) (z_toi) hl0 (z_Ei.K e3 (by omega) ?_) mo_X11_onShelf np_X11_onShelf k461 k462 rfl (nle rfl) dX11_walk_15 rfl
      by_cases c3 : 0 ≤ x3 ∧ x3 ≤ 7
      · rw [z_b1 c3]
        refine z_if_ne (q := 21) (t := 24) ⟨by decide, by decide⟩ dX11_walk_18 (by decide) rfl (fun _ => ?_) (fun c => absurd c (by decide))
        refine z_aload_n (q := 25) 0 dX11_walk_24 rfl rfl ?_
        refine z_gf (q := 28) (ki := 9) (v := (2, 19)) fX11_61 rfl (z_ldr rfl (hl0.ref 21 rfl)) (hl0.i 0 (by decide) rfl) dX11_walk_25 rfl ?_
        refine z_aload_n (q := 29) 0 dX11_walk_28 rfl rfl ?_
        refine z_gf (q := 32) (ki := 1) (v := (2, 2)) fX11_17 rfl (z_ldr rfl (hl0.ref 1 rfl)) (hl0.i 0 (by decide) rfl) dX11_walk_29 rfl ?_
        refine z_iload_n (q := 33) 1 dX11_walk_32 rfl rfl ?_
        refine z_aale (q := 34) 55 (by decide) (by decide) (hl0.a 2 (by decide) rfl) (p4 c1 c2 c3) (p5 c1 c2 c3) (hl0.wy (p4 c1 c2 c3) (p5 c1 c2 c3)) dX11_walk_33 rfl ?_
        refine z_aload_n (q := 35) 0 dX11_walk_34 rfl rfl ?_
        refine z_gf (q := 38) (ki := 0) (v := (2, 1)) fX11_11 rfl (z_ldr rfl (hl0.ref 0 rfl)) (hl0.i 0 (by decide) rfl) dX11_walk_35 rfl ?_
        refine z_iload_n (q := 39) 2 dX11_walk_38 rfl rfl ?_
        refine z_aale (q := 40) 54 (by decide) (by decide) (hl0.a 1 (by decide) rfl) (p6 c1 c2 c3) (p7 c1 c2 c3) (hl0.tb (p6 c1 c2 c3) (p7 c1 c2 c3)) dX11_walk_39 rfl ?_
        refine z_sub (L' := [(0, 2, 0), (3, 0, x3)]) [0, 3] rfl ?_
        exact z_goV (q := 43) (av := [(2, (58 + 4 * x1)), (2, (56 + 4 * x2))]) (rest := []) cb6 (hl0.i 19 (by decide) rfl) z_toi hl0 (u1 c1 c2 c3) mo_X8_go np_X8_go k848 k849 k850 rfl (nle rfl) dX11_walk_40 rfl
      · rw [z_b0 c3]
        refine z_if_ne (q := 21) (t := 24) ⟨by decide, by decide⟩ dX11_walk_18 (by decide) rfl (fun c => absurd c (by decide)) (fun _ => ?_)
        refine z_bipush (q := 23) dX11_walk_21 rfl (by decide) ?_
        exact z_iret rfl dX11_walk_23 ⟨hl0, u2 c1 c2 c3⟩
    · rw [z_b0 c2]
      refine z_if_eq (q := 14) (t := 21) ⟨by decide, by decide⟩ dX11_walk_11 (by decide) rfl (fun _ => ?_) (fun c => absurd c (by decide))
      refine z_bipush (q := 23) dX11_walk_21 rfl (by decide) ?_
      exact z_iret rfl dX11_walk_23 ⟨hl0, u3 c1 c2⟩
  · rw [z_b0 c1]
    refine z_if_eq (q := 7) (t := 21) ⟨by decide, by decide⟩ dX11_walk_4 (by decide) rfl (fun _ => ?_) (fun c => absurd c (by decide))
    refine z_bipush (q := 23) dX11_walk_21 rfl (by decide) ?_
    exact z_iret rfl dX11_walk_23 ⟨hl0, u4 c1⟩
theorem b_X11_walk_43 {D : zD} {d : Nat} {G : zG} {h : zH} {Q : zO → zG → zH → Prop} {s0 x3 : Int} (hd : 2 ≤ d) (p1 : z_in s0) (p2 : s0 = (-1) → 0 ≤ x3) (p3 : s0 = (-1) → x3 < 8) (p4 : s0 = (-1) → z_is G (h 19 2) 3) (p5 : s0 = (-1) → 0 ≤ ((h (h 19 2) 1) * (h (h 19 2) 2))) (p6 : s0 = (-1) → ((h (h 19 2) 1) * (h (h 19 2) 2)) ≤ 72)
    (u1 : s0 = (-1) → Q (.inl (some (0, (h (h 19 2) 1)))) G (z_cp (z_wr (z_wr h (56 + 4 * x3) 1 (h (h 19 2) 1)) (56 + 4 * x3) 2 (h (h 19 2) 2)) ((h 19 2) + 1) 0 ((56 + 4 * x3) + 1) 0 ((h (h 19 2) 1) * (h (h 19 2) 2))))
    (u2 : ¬ (s0 = (-1)) → Q (.inl (some (0, ((-10) - s0)))) G h) :
    z_Y D M_X11_walk d 43 [(0, 2, 0), (3, 0, x3)] [(0, s0)] G h Q := by
  intro hl0
  refine z_istore (q := 45) (L' := [(0, 2, 0), (3, 0, x3), (4, 0, s0)]) dX11_walk_43 rfl (by decide) rfl ?_
  refine z_iload (q := 47) 2 dX11_walk_45 rfl rfl ?_
  refine z_iconst (q := 48) dX11_walk_47 rfl ?_
  refine z_icmp_eq (q := 51) (t := 57) p1 ⟨by decide, by decide⟩ dX11_walk_48 (by decide) rfl (fun c1 => ?_) (fun c1 => ?_)
  · refine z_aload_n (q := 58) 0 dX11_walk_57 rfl rfl ?_
    refine z_gf (q := 61) (ki := 0) (v := (2, 1)) fX11_11 rfl (z_ldr rfl (hl0.ref 0 rfl)) (hl0.i 0 (by decide) rfl) dX11_walk_58 rfl ?_
    refine z_iload_n (q := 62) 1 dX11_walk_61 rfl rfl ?_
    refine z_aale (q := 63) 54 (by decide) (by decide) (hl0.a 1 (by decide) rfl) (p2 c1) (p3 c1) (hl0.tb (p2 c1) (p3 c1)) dX11_walk_62 rfl ?_
    refine z_aload_n (q := 64) 0 dX11_walk_63 rfl rfl ?_
    refine z_gf (q := 67) (ki := 9) (v := (2, 19)) fX11_61 rfl (z_ldr rfl (hl0.ref 21 rfl)) (hl0.i 0 (by decide) rfl) dX11_walk_64 rfl ?_
    refine z_gf (q := 70) (ki := 2) (v := (2, (h 19 2))) fX11_162 rfl rfl (hl0.i 19 (by decide) rfl) dX11_walk_67 rfl ?_
    have e1 := a_X4_become (D := D) (G := G) (h := h) (d := d - 1) (by omega) (56 + 4 * x3) (h 19 2) (h (h 19 2) 1) (h (h 19 2) 2) (hl0.tbi (p2 c1) (p3 c1)) (p4 c1) rfl rfl (p5 c1) (p6 c1)
    refine z_goV (q := 73) (av := [(2, (h 19 2))]) (rest := []) cb3 (hl0.tbi (p2 c1) (p3 c1)) (z_tov) hl0 (z_Ev.K e1 (by omega) ?_) mo_X4_become np_X4_become k508 k509 k510 rfl (nle rfl) dX11_walk_70 rfl
    have hl1 : lay G (z_cp (z_wr (z_wr h (56 + 4 * x3) 1 (h (h 19 2) 1)) (56 + 4 * x3) 2 (h (h 19 2) 2)) ((h 19 2) + 1) 0 ((56 + 4 * x3) + 1) 0 ((h (h 19 2) 1) * (h (h 19 2) 2))) := e1.lay hl0
    refine z_aload_n (q := 74) 0 dX11_walk_73 rfl rfl ?_
    refine z_gf (q := 77) (ki := 0) (v := (2, 1)) fX11_11 rfl (z_ldr rfl (hl1.ref 0 rfl)) (hl1.i 0 (by decide) rfl) dX11_walk_74 rfl ?_
    refine z_iload_n (q := 78) 1 dX11_walk_77 rfl rfl ?_
    refine z_aale (q := 79) 54 (by decide) (by decide) (hl1.a 1 (by decide) rfl) (p2 c1) (p3 c1) (hl1.tb (p2 c1) (p3 c1)) dX11_walk_78 rfl ?_
    refine z_gf (q := 82) (ki := 1) (v := (0, (h (h 19 2) 1))) fX11_114 rfl (z_ldi rfl ((c_na (z_isne (hl0.tbi (p2 c1) (p3 c1)) (hl0.ti (hl0.tbi (p2 c1) (p3 c1))) (by decide))).trans ((w_nj (by decide)).trans w_s))) (hl0.tbi (p2 c1) (p3 c1)) dX11_walk_79 rfl ?_
    exact z_iret rfl dX11_walk_82 ⟨hl1, u1 c1⟩
  · refine z_bipush (q := 53) dX11_walk_51 rfl (by decide) ?_
    refine z_iload (q := 55) 2 dX11_walk_53 rfl rfl ?_
    refine z_isub (q := 56) dX11_walk_55 rfl ?_
    exact z_iret rfl dX11_walk_56 ⟨hl0, u2 c1⟩
theorem b_X11_steps_0 {D : zD} {d : Nat} {G : zG} {h : zH} {Q : zO → zG → zH → Prop} {x1 : Int} (hd : 2 ≤ d) (p1 : z_in x1) (p2 : 0 ≤ x1 ∧ x1 ≤ 7 → 0 ≤ x1) (p3 : 0 ≤ x1 ∧ x1 ≤ 7 → x1 < 8)
    (u1 : 0 ≤ x1 ∧ x1 ≤ 7 → Q (.inl (some (0, (h (58 + 4 * x1) 1)))) G h)
    (u2 : ¬ (0 ≤ x1 ∧ x1 ≤ 7) → Q (.inl (some (0, (-2)))) G h) :
    z_Y D M_X11_steps d 0 [(0, 2, 0), (1, 0, x1)] [] G h Q := by
  intro hl0
  refine z_iload_n (q := 1) 1 dX11_steps_0 rfl rfl ?_
  have e1 := a_X11_onShelf (D := D) (G := G) (h := h) (d := d - 1) (by omega) x1 p1
  refine z_goS (q := 4) (av := [(0, x1)]) (rest := []) (z_toi) hl0 (z_Ei.K e1 (by omega) ?_) mo_X11_onShelf np_X11_onShelf k461 k462 rfl (nle rfl) dX11_steps_1 rfl
  by_cases c1 : 0 ≤ x1 ∧ x1 ≤ 7
  · rw [z_b1 c1]
    refine z_if_eq (q := 7) (t := 19) ⟨by decide, by decide⟩ dX11_steps_4 (by decide) rfl (fun c => absurd c (by decide)) (fun _ => ?_)
    refine z_aload_n (q := 8) 0 dX11_steps_7 rfl rfl ?_
    refine z_gf (q := 11) (ki := 1) (v := (2, 2)) fX11_17 rfl (z_ldr rfl (hl0.ref 1 rfl)) (hl0.i 0 (by decide) rfl) dX11_steps_8 rfl ?_
    refine z_iload_n (q := 12) 1 dX11_steps_11 rfl rfl ?_
    refine z_aale (q := 13) 55 (by decide) (by decide) (hl0.a 2 (by decide) rfl) (p2 c1) (p3 c1) (hl0.wy (p2 c1) (p3 c1)) dX11_steps_12 rfl ?_
    refine z_gf (q := 16) (ki := 1) (v := (0, (h (58 + 4 * x1) 1))) fX11_125 rfl rfl (hl0.wyi (p2 c1) (p3 c1)) dX11_steps_13 rfl ?_
    refine z_goto (t := 21) dX11_steps_16 (by decide) ?_
    exact z_iret rfl dX11_steps_21 ⟨hl0, u1 c1⟩
  · rw [z_b0 c1]
    refine z_if_eq (q := 7) (t := 19) ⟨by decide, by decide⟩ dX11_steps_4 (by decide) rfl (fun _ => ?_) (fun c => absurd c (by decide))
    refine z_bipush (q := 21) dX11_steps_19 rfl (by decide) ?_
    exact z_iret rfl dX11_steps_21 ⟨hl0, u2 c1⟩
theorem b_X11_stepAt_0 {D : zD} {d : Nat} {G : zG} {h : zH} {Q : zO → zG → zH → Prop} {x1 x2 x3 : Int} (hd : 2 ≤ d) (p1 : z_in x1) (p2 : 0 ≤ x1 ∧ x1 ≤ 7 → z_in x2) (p3 : 0 ≤ x1 ∧ x1 ≤ 7 → ¬ (x2 < 0) → 0 ≤ x1) (p4 : 0 ≤ x1 ∧ x1 ≤ 7 → ¬ (x2 < 0) → x1 < 8) (p5 : 0 ≤ x1 ∧ x1 ≤ 7 → ¬ (x2 < 0) → z_in (h (58 + 4 * x1) 1))
    (u1 : 0 ≤ x1 ∧ x1 ≤ 7 → x2 < 0 → Q (.inl (some (0, (-1)))) G h)
    (u2 : 0 ≤ x1 ∧ x1 ≤ 7 → ¬ (x2 < 0) → x2 < (h (58 + 4 * x1) 1) → z_Ki D M_X9_codeAt d [(2, (58 + 4 * x1)), (0, x2)] G h (fun r G' h' => z_Y D M_X11_stepAt d 36 [(3, 0, x3)] [(0, r)] G' h' Q))
    (u3 : 0 ≤ x1 ∧ x1 ≤ 7 → ¬ (x2 < 0) → ¬ (x2 < (h (58 + 4 * x1) 1)) → Q (.inl (some (0, (-1)))) G h)
    (u4 : ¬ (0 ≤ x1 ∧ x1 ≤ 7) → Q (.inl (some (0, (-1)))) G h) :
    z_Y D M_X11_stepAt d 0 [(0, 2, 0), (1, 0, x1), (2, 0, x2), (3, 0, x3)] [] G h Q := by
  intro hl0
  refine z_iload_n (q := 1) 1 dX11_stepAt_0 rfl rfl ?_
  have e1 := a_X11_onShelf (D := D) (G := G) (h := h) (d := d - 1) (by omega) x1 p1
  refine z_goS (q := 4) (av := [(0, x1)]) (rest := []) (z_toi) hl0 (z_Ei.K e1 (by omega) ?_) mo_X11_onShelf np_X11_onShelf k461 k462 rfl (nle rfl) dX11_stepAt_1 rfl
  by_cases c1 : 0 ≤ x1 ∧ x1 ≤ 7
  · rw [z_b1 c1]
    refine z_if_eq (q := 7) (t := 24) ⟨by decide, by decide⟩ dX11_stepAt_4 (by decide) rfl (fun c => absurd c (by decide)) (fun _ => ?_)
    refine z_iload_n (q := 8) 2 dX11_stepAt_7 rfl rfl ?_
    refine z_if_lt (q := 11) (t := 24) (p2 c1) dX11_stepAt_8 (by decide) rfl (fun c2 => ?_) (fun c2 => ?_)
    · refine z_iconst (q := 25) dX11_stepAt_24 rfl ?_
      exact z_iret rfl dX11_stepAt_25 ⟨hl0, u1 c1 c2⟩
    · refine z_iload_n (q := 12) 2 dX11_stepAt_11 rfl rfl ?_
      refine z_aload_n (q := 13) 0 dX11_stepAt_12 rfl rfl ?_
      refine z_gf (q := 16) (ki := 1) (v := (2, 2)) fX11_17 rfl (z_ldr rfl (hl0.ref 1 rfl)) (hl0.i 0 (by decide) rfl) dX11_stepAt_13 rfl ?_
      refine z_iload_n (q := 17) 1 dX11_stepAt_16 rfl rfl ?_
      refine z_aale (q := 18) 55 (by decide) (by decide) (hl0.a 2 (by decide) rfl) (p3 c1 c2) (p4 c1 c2) (hl0.wy (p3 c1 c2) (p4 c1 c2)) dX11_stepAt_17 rfl ?_
      refine z_gf (q := 21) (ki := 1) (v := (0, (h (58 + 4 * x1) 1))) fX11_125 rfl rfl (hl0.wyi (p3 c1 c2) (p4 c1 c2)) dX11_stepAt_18 rfl ?_
      refine z_icmp_lt (q := 24) (t := 26) (p2 c1) (p5 c1 c2) dX11_stepAt_21 (by decide) rfl (fun c3 => ?_) (fun c3 => ?_)
      · refine z_aload_n (q := 27) 0 dX11_stepAt_26 rfl rfl ?_
        refine z_gf (q := 30) (ki := 1) (v := (2, 2)) fX11_17 rfl (z_ldr rfl (hl0.ref 1 rfl)) (hl0.i 0 (by decide) rfl) dX11_stepAt_27 rfl ?_
        refine z_iload_n (q := 31) 1 dX11_stepAt_30 rfl rfl ?_
        refine z_aale (q := 32) 55 (by decide) (by decide) (hl0.a 2 (by decide) rfl) (p3 c1 c2) (p4 c1 c2) (hl0.wy (p3 c1 c2) (p4 c1 c2)) dX11_stepAt_31 rfl ?_
        refine z_iload_n (q := 33) 2 dX11_stepAt_32 rfl rfl ?_
        refine z_sub (L' := [(3, 0, x3)]) [3] rfl ?_
        exact z_goV (q := 36) (av := [(0, x2)]) (rest := []) cb7 (hl0.wyi (p3 c1 c2) (p4 c1 c2)) z_toi hl0 (u2 c1 c2 c3) mo_X9_codeAt np_X9_codeAt k873 k621 k622 rfl (nle rfl) dX11_stepAt_33 rfl
      · refine z_iconst (q := 25) dX11_stepAt_24 rfl ?_
        exact z_iret rfl dX11_stepAt_25 ⟨hl0, u3 c1 c2 c3⟩
  · rw [z_b0 c1]
    refine z_if_eq (q := 7) (t := 24) ⟨by decide, by decide⟩ dX11_stepAt_4 (by decide) rfl (fun _ => ?_) (fun c => absurd c (by decide))
    refine z_iconst (q := 25) dX11_stepAt_24 rfl ?_
    exact z_iret rfl dX11_stepAt_25 ⟨hl0, u4 c1⟩
theorem b_X11_stepAt_36 {D : zD} {d : Nat} {G : zG} {h : zH} {Q : zO → zG → zH → Prop} {s0 x3 : Int} (hd : 2 ≤ d) (p1 : x3 = 0 → z_in s0) (p2 : ¬ x3 = 0 → x3 = 1 → z_in s0) (p3 : ¬ x3 = 0 → ¬ x3 = 1 → ¬ x3 = 2 → z_in x3)
    (u1 : x3 = 0 → Q (.inl (some (0, (s0 / 64)))) G h)
    (u2 : ¬ x3 = 0 → x3 = 1 → Q (.inl (some (0, (s0 / 8 % 8)))) G h)
    (u3 : ¬ x3 = 0 → ¬ x3 = 1 → x3 = 2 → Q (.inl (some (0, (s0 % 8)))) G h)
    (u4 : ¬ x3 = 0 → ¬ x3 = 1 → ¬ x3 = 2 → Q (.inl (some (0, (-1)))) G h) :
    z_Y D M_X11_stepAt d 36 [(3, 0, x3)] [(0, s0)] G h Q := by
  intro hl0
  refine z_istore (q := 38) (L' := [(3, 0, x3), (4, 0, s0)]) dX11_stepAt_36 rfl (by decide) rfl ?_
  refine z_iload_n (q := 39) 0 dX11_stepAt_38 rfl rfl ?_
  by_cases c1 : x3 = 0
  · refine z_tswIn (t := 64) 0 c1 ⟨by decide, by decide⟩ dX11_stepAt_39 (by decide) (by decide) rfl (by decide) ?_
    refine z_iload (q := 66) 1 dX11_stepAt_64 rfl rfl ?_
    have e1 := a_X0_number (D := D) (G := G) (h := h) (d := d - 1) (by omega) s0 (p1 c1)
    refine z_goS (q := 69) (av := [(0, s0)]) (rest := []) (z_toi) hl0 (z_Ei.K e1 (by omega) ?_) mo_X0_number np_X0_number k874 k856 rfl (nle rfl) dX11_stepAt_66 rfl
    exact z_iret rfl dX11_stepAt_69 ⟨hl0, u1 c1⟩
  by_cases c2 : x3 = 1
  · refine z_tswIn (t := 70) 1 c2 ⟨by decide, by decide⟩ dX11_stepAt_39 (by decide) (by decide) rfl (by decide) ?_
    refine z_iload (q := 72) 1 dX11_stepAt_70 rfl rfl ?_
    have e2 := a_X0_a (D := D) (G := G) (h := h) (d := d - 1) (by omega) s0 (p2 c1 c2)
    refine z_goS (q := 75) (av := [(0, s0)]) (rest := []) (z_toi) hl0 (z_Ei.K e2 (by omega) ?_) mo_X0_a np_X0_a k875 k859 rfl (nle rfl) dX11_stepAt_72 rfl
    exact z_iret rfl dX11_stepAt_75 ⟨hl0, u2 c1 c2⟩
  by_cases c3 : x3 = 2
  · refine z_tswIn (t := 76) 2 c3 ⟨by decide, by decide⟩ dX11_stepAt_39 (by decide) (by decide) rfl (by decide) ?_
    refine z_iload (q := 78) 1 dX11_stepAt_76 rfl rfl ?_
    have e3 := a_X0_b (D := D) (G := G) (h := h) (d := d - 1) (by omega) s0
    refine z_goS (q := 81) (av := [(0, s0)]) (rest := []) (z_toi) hl0 (z_Ei.K e3 (by omega) ?_) mo_X0_b np_X0_b k876 k862 rfl (nle rfl) dX11_stepAt_78 rfl
    exact z_iret rfl dX11_stepAt_81 ⟨hl0, u3 c1 c2 c3⟩
  refine z_tswOut (t := 82) (p3 c1 c2 c3) dX11_stepAt_39 (by omega) (by decide) ?_
  refine z_iconst (q := 83) dX11_stepAt_82 rfl ?_
  exact z_iret rfl dX11_stepAt_83 ⟨hl0, u4 c1 c2 c3⟩
theorem b_X11_chain_0 {D : zD} {d : Nat} {G : zG} {h : zH} {Q : zO → zG → zH → Prop} {x1 x2 x3 : Int} (hd : 2 ≤ d) (p1 : z_in x1) (p2 : 0 ≤ x1 ∧ x1 ≤ 7 → z_in x2) (p3 : 0 ≤ x1 ∧ x1 ≤ 7 → 0 ≤ x2 ∧ x2 ≤ 7 → z_in x3) (p4 : 0 ≤ x1 ∧ x1 ≤ 7 → 0 ≤ x2 ∧ x2 ≤ 7 → 0 ≤ x3 ∧ x3 ≤ 7 → 0 ≤ x1) (p5 : 0 ≤ x1 ∧ x1 ≤ 7 → 0 ≤ x2 ∧ x2 ≤ 7 → 0 ≤ x3 ∧ x3 ≤ 7 → x1 < 8) (p6 : 0 ≤ x1 ∧ x1 ≤ 7 → 0 ≤ x2 ∧ x2 ≤ 7 → 0 ≤ x3 ∧ x3 ≤ 7 → 0 ≤ x2) (p7 : 0 ≤ x1 ∧ x1 ≤ 7 → 0 ≤ x2 ∧ x2 ≤ 7 → 0 ≤ x3 ∧ x3 ≤ 7 → x2 < 8) (p8 : 0 ≤ x1 ∧ x1 ≤ 7 → 0 ≤ x2 ∧ x2 ≤ 7 → 0 ≤ x3 ∧ x3 ≤ 7 → z_in ((h (58 + 4 * x1) 1) + (h (58 + 4 * x2) 1)))
    (u1 : 0 ≤ x1 ∧ x1 ≤ 7 → 0 ≤ x2 ∧ x2 ≤ 7 → 0 ≤ x3 ∧ x3 ≤ 7 → ((h (58 + 4 * x1) 1) + (h (58 + 4 * x2) 1)) ≤ 12 → z_Kv D M_X9_become d [(2, 31), (2, (58 + 4 * x1))] G h (fun G' h' => z_Y D M_X11_chain d 64 [(0, 2, 0), (2, 0, x2), (3, 0, x3)] [] G' h' Q))
    (u2 : 0 ≤ x1 ∧ x1 ≤ 7 → 0 ≤ x2 ∧ x2 ≤ 7 → 0 ≤ x3 ∧ x3 ≤ 7 → ¬ (((h (58 + 4 * x1) 1) + (h (58 + 4 * x2) 1)) ≤ 12) → Q (.inl (some (0, (-3)))) G h)
    (u3 : 0 ≤ x1 ∧ x1 ≤ 7 → 0 ≤ x2 ∧ x2 ≤ 7 → ¬ (0 ≤ x3 ∧ x3 ≤ 7) → Q (.inl (some (0, (-2)))) G h)
    (u4 : 0 ≤ x1 ∧ x1 ≤ 7 → ¬ (0 ≤ x2 ∧ x2 ≤ 7) → Q (.inl (some (0, (-2)))) G h)
    (u5 : ¬ (0 ≤ x1 ∧ x1 ≤ 7) → Q (.inl (some (0, (-2)))) G h) :
    z_Y D M_X11_chain d 0 [(0, 2, 0), (1, 0, x1), (2, 0, x2), (3, 0, x3)] [] G h Q := by
  intro hl0
  refine z_iload_n (q := 1) 1 dX11_chain_0 rfl rfl ?_
  have e1 := a_X11_onShelf (D := D) (G := G) (h := h) (d := d - 1) (by omega) x1 p1
  refine z_goS (q := 4) (av := [(0, x1)]) (rest := []) (z_toi) hl0 (z_Ei.K e1 (by omega) ?_) mo_X11_onShelf np_X11_onShelf k461 k462 rfl (nle rfl) dX11_chain_1 rfl
  by_cases c1 : 0 ≤ x1 ∧ x1 ≤ 7
  · rw [z_b1 c1]
    refine z_if_eq (q := 7) (t := 21) ⟨by decide, by decide⟩ dX11_chain_4 (by decide) rfl (fun c => absurd c (by decide)) (fun _ => ?_)
    refine z_iload_n (q := 8) 2 dX11_chain_7 rfl rfl ?_
    have e2 := a_X11_onShelf (D := D) (G := G) (h := h) (d := d - 1) (by omega) x2 (p2 c1)
    refine z_goS (q := 11) (av := [(0, x2)]) (rest := []) (z_toi) hl0 (z_Ei.K e2 (by omega) ?_) mo_X11_onShelf np_X11_onShelf k461 k462 rfl (nle rfl) dX11_chain_8 rfl
    by_cases c2 : 0 ≤ x2 ∧ x2 ≤ 7
    · rw [z_b1 c2]
      refine z_if_eq (q := 14) (t := 21) ⟨by decide, by decide⟩ dX11_chain_11 (by decide) rfl (fun c => absurd c (by decide)) (fun _ => ?_)
      refine z_iload_n (q := 15) 3 dX11_chain_14 rfl rfl ?_
      have e3 := a_X11_onShelf (D := D) (G := G) (h := h) (d := d - 1) (by omega) x3 (p3 c1 c2)
      refine z_goS (q := 18) (av := [(0, x3)]) (rest := []) (z_toi) hl0 (z_Ei.K e3 (by omega) ?_) mo_X11_onShelf np_X11_onShelf k461 k462 rfl (nle rfl) dX11_chain_15 rfl
      by_cases c3 : 0 ≤ x3 ∧ x3 ≤ 7
      · rw [z_b1 c3]
        refine z_if_ne (q := 21) (t := 24) ⟨by decide, by decide⟩ dX11_chain_18 (by decide) rfl (fun _ => ?_) (fun c => absurd c (by decide))
        refine z_aload_n (q := 25) 0 dX11_chain_24 rfl rfl ?_
        refine z_gf (q := 28) (ki := 1) (v := (2, 2)) fX11_17 rfl (z_ldr rfl (hl0.ref 1 rfl)) (hl0.i 0 (by decide) rfl) dX11_chain_25 rfl ?_
        refine z_iload_n (q := 29) 1 dX11_chain_28 rfl rfl ?_
        refine z_aale (q := 30) 55 (by decide) (by decide) (hl0.a 2 (by decide) rfl) (p4 c1 c2 c3) (p5 c1 c2 c3) (hl0.wy (p4 c1 c2 c3) (p5 c1 c2 c3)) dX11_chain_29 rfl ?_
        refine z_gf (q := 33) (ki := 1) (v := (0, (h (58 + 4 * x1) 1))) fX11_125 rfl rfl (hl0.wyi (p4 c1 c2 c3) (p5 c1 c2 c3)) dX11_chain_30 rfl ?_
        refine z_aload_n (q := 34) 0 dX11_chain_33 rfl rfl ?_
        refine z_gf (q := 37) (ki := 1) (v := (2, 2)) fX11_17 rfl (z_ldr rfl (hl0.ref 1 rfl)) (hl0.i 0 (by decide) rfl) dX11_chain_34 rfl ?_
        refine z_iload_n (q := 38) 2 dX11_chain_37 rfl rfl ?_
        refine z_aale (q := 39) 55 (by decide) (by decide) (hl0.a 2 (by decide) rfl) (p6 c1 c2 c3) (p7 c1 c2 c3) (hl0.wy (p6 c1 c2 c3) (p7 c1 c2 c3)) dX11_chain_38 rfl ?_
        refine z_gf (q := 42) (ki := 1) (v := (0, (h (58 + 4 * x2) 1))) fX11_125 rfl rfl (hl0.wyi (p6 c1 c2 c3) (p7 c1 c2 c3)) dX11_chain_39 rfl ?_
        refine z_iadd (q := 43) dX11_chain_42 rfl ?_
        refine z_bipush (q := 45) dX11_chain_43 rfl (by decide) ?_
        refine z_icmp_le (q := 48) (t := 51) (p8 c1 c2 c3) ⟨by decide, by decide⟩ dX11_chain_45 (by decide) rfl (fun c4 => ?_) (fun c4 => ?_)
        · refine z_aload_n (q := 52) 0 dX11_chain_51 rfl rfl ?_
          refine z_gf (q := 55) (ki := 12) (v := (2, 31)) fX11_74 rfl (z_ldr rfl (hl0.ref 29 rfl)) (hl0.i 0 (by decide) rfl) dX11_chain_52 rfl ?_
          refine z_aload_n (q := 56) 0 dX11_chain_55 rfl rfl ?_
          refine z_gf (q := 59) (ki := 1) (v := (2, 2)) fX11_17 rfl (z_ldr rfl (hl0.ref 1 rfl)) (hl0.i 0 (by decide) rfl) dX11_chain_56 rfl ?_
          refine z_iload_n (q := 60) 1 dX11_chain_59 rfl rfl ?_
          refine z_aale (q := 61) 55 (by decide) (by decide) (hl0.a 2 (by decide) rfl) (p4 c1 c2 c3) (p5 c1 c2 c3) (hl0.wy (p4 c1 c2 c3) (p5 c1 c2 c3)) dX11_chain_60 rfl ?_
          refine z_sub (L' := [(0, 2, 0), (2, 0, x2), (3, 0, x3)]) [0, 2, 3] rfl ?_
          exact z_goV (q := 64) (av := [(2, (58 + 4 * x1))]) (rest := []) cb7 (hl0.i 31 (by decide) rfl) z_tov hl0 (u1 c1 c2 c3 c4) mo_X9_become np_X9_become k657 k658 k659 rfl (nle rfl) dX11_chain_61 rfl
        · refine z_bipush (q := 50) dX11_chain_48 rfl (by decide) ?_
          exact z_iret rfl dX11_chain_50 ⟨hl0, u2 c1 c2 c3 c4⟩
      · rw [z_b0 c3]
        refine z_if_ne (q := 21) (t := 24) ⟨by decide, by decide⟩ dX11_chain_18 (by decide) rfl (fun c => absurd c (by decide)) (fun _ => ?_)
        refine z_bipush (q := 23) dX11_chain_21 rfl (by decide) ?_
        exact z_iret rfl dX11_chain_23 ⟨hl0, u3 c1 c2 c3⟩
    · rw [z_b0 c2]
      refine z_if_eq (q := 14) (t := 21) ⟨by decide, by decide⟩ dX11_chain_11 (by decide) rfl (fun _ => ?_) (fun c => absurd c (by decide))
      refine z_bipush (q := 23) dX11_chain_21 rfl (by decide) ?_
      exact z_iret rfl dX11_chain_23 ⟨hl0, u4 c1 c2⟩
  · rw [z_b0 c1]
    refine z_if_eq (q := 7) (t := 21) ⟨by decide, by decide⟩ dX11_chain_4 (by decide) rfl (fun _ => ?_) (fun c => absurd c (by decide))
    refine z_bipush (q := 23) dX11_chain_21 rfl (by decide) ?_
    exact z_iret rfl dX11_chain_23 ⟨hl0, u5 c1⟩
theorem b_X11_chain_64 {D : zD} {d : Nat} {G : zG} {h : zH} {Q : zO → zG → zH → Prop} {x2 x3 : Int} (p1 : 0 ≤ x2) (p2 : x2 < 8)
    (u1 : z_Kv D M_X9_addAll d [(2, 31), (2, (58 + 4 * x2))] G h (fun G' h' => z_Y D M_X11_chain d 77 [(0, 2, 0), (3, 0, x3)] [] G' h' Q)) :
    z_Y D M_X11_chain d 64 [(0, 2, 0), (2, 0, x2), (3, 0, x3)] [] G h Q := by
  intro hl0
  refine z_aload_n (q := 65) 0 dX11_chain_64 rfl rfl ?_
  refine z_gf (q := 68) (ki := 12) (v := (2, 31)) fX11_74 rfl (z_ldr rfl (hl0.ref 29 rfl)) (hl0.i 0 (by decide) rfl) dX11_chain_65 rfl ?_
  refine z_aload_n (q := 69) 0 dX11_chain_68 rfl rfl ?_
  refine z_gf (q := 72) (ki := 1) (v := (2, 2)) fX11_17 rfl (z_ldr rfl (hl0.ref 1 rfl)) (hl0.i 0 (by decide) rfl) dX11_chain_69 rfl ?_
  refine z_iload_n (q := 73) 1 dX11_chain_72 rfl rfl ?_
  refine z_aale (q := 74) 55 (by decide) (by decide) (hl0.a 2 (by decide) rfl) p1 p2 (hl0.wy p1 p2) dX11_chain_73 rfl ?_
  refine z_sub (L' := [(0, 2, 0), (3, 0, x3)]) [0, 2] rfl ?_
  exact z_goV (q := 77) (av := [(2, (58 + 4 * x2))]) (rest := []) cb7 (hl0.i 31 (by decide) rfl) z_tov hl0 (u1) mo_X9_addAll np_X9_addAll k881 k882 k883 rfl (nle rfl) dX11_chain_74 rfl
theorem b_X11_chain_77 {D : zD} {d : Nat} {G : zG} {h : zH} {Q : zO → zG → zH → Prop} {x3 : Int} (p1 : 0 ≤ x3) (p2 : x3 < 8)
    (u1 : z_Kv D M_X9_become d [(2, (58 + 4 * x3)), (2, 31)] G h (fun G' h' => z_Y D M_X11_chain d 90 [(0, 2, 0), (3, 0, x3)] [] G' h' Q)) :
    z_Y D M_X11_chain d 77 [(0, 2, 0), (3, 0, x3)] [] G h Q := by
  intro hl0
  refine z_aload_n (q := 78) 0 dX11_chain_77 rfl rfl ?_
  refine z_gf (q := 81) (ki := 1) (v := (2, 2)) fX11_17 rfl (z_ldr rfl (hl0.ref 1 rfl)) (hl0.i 0 (by decide) rfl) dX11_chain_78 rfl ?_
  refine z_iload_n (q := 82) 1 dX11_chain_81 rfl rfl ?_
  refine z_aale (q := 83) 55 (by decide) (by decide) (hl0.a 2 (by decide) rfl) p1 p2 (hl0.wy p1 p2) dX11_chain_82 rfl ?_
  refine z_aload_n (q := 84) 0 dX11_chain_83 rfl rfl ?_
  refine z_gf (q := 87) (ki := 12) (v := (2, 31)) fX11_74 rfl (z_ldr rfl (hl0.ref 29 rfl)) (hl0.i 0 (by decide) rfl) dX11_chain_84 rfl ?_
  exact z_goV (q := 90) (av := [(2, 31)]) (rest := []) cb7 (hl0.wyi p1 p2) z_tov hl0 (u1) mo_X9_become np_X9_become k657 k658 k659 rfl (nle rfl) dX11_chain_87 rfl
theorem b_X11_chain_90 {D : zD} {d : Nat} {G : zG} {h : zH} {Q : zO → zG → zH → Prop} {x3 : Int} (p1 : 0 ≤ x3) (p2 : x3 < 8)
    (u1 : Q (.inl (some (0, (h (58 + 4 * x3) 1)))) G h) :
    z_Y D M_X11_chain d 90 [(0, 2, 0), (3, 0, x3)] [] G h Q := by
  intro hl0
  refine z_aload_n (q := 91) 0 dX11_chain_90 rfl rfl ?_
  refine z_gf (q := 94) (ki := 1) (v := (2, 2)) fX11_17 rfl (z_ldr rfl (hl0.ref 1 rfl)) (hl0.i 0 (by decide) rfl) dX11_chain_91 rfl ?_
  refine z_iload_n (q := 95) 1 dX11_chain_94 rfl rfl ?_
  refine z_aale (q := 96) 55 (by decide) (by decide) (hl0.a 2 (by decide) rfl) p1 p2 (hl0.wy p1 p2) dX11_chain_95 rfl ?_
  refine z_gf (q := 99) (ki := 1) (v := (0, (h (58 + 4 * x3) 1))) fX11_125 rfl rfl (hl0.wyi p1 p2) dX11_chain_96 rfl ?_
  exact z_iret rfl dX11_chain_99 ⟨hl0, u1⟩
theorem b_X11_find_0 {D : zD} {d : Nat} {G : zG} {h : zH} {Q : zO → zG → zH → Prop} {x1 x2 x3 x4 x5 : Int} (hd : 2 ≤ d) (p1 : z_in x1) (p2 : 0 ≤ x1 ∧ x1 ≤ 7 → z_in x2) (p3 : 0 ≤ x1 ∧ x1 ≤ 7 → 0 ≤ x2 ∧ x2 ≤ 7 → z_in x5) (p4 : 0 ≤ x1 ∧ x1 ≤ 7 → 0 ≤ x2 ∧ x2 ≤ 7 → ¬ (x5 < 0) → x5 ≤ 3 → z_in x3) (p5 : 0 ≤ x1 ∧ x1 ≤ 7 → 0 ≤ x2 ∧ x2 ≤ 7 → ¬ (x5 < 0) → x5 ≤ 3 → ¬ (¬ x3 = (-1)) → z_in x4) (p6 : 0 ≤ x1 ∧ x1 ≤ 7 → 0 ≤ x2 ∧ x2 ≤ 7 → ¬ (x5 < 0) → x5 ≤ 3 → ¬ (¬ x3 = (-1)) → ¬ (¬ x4 = (-1)) → 0 ≤ x1) (p7 : 0 ≤ x1 ∧ x1 ≤ 7 → 0 ≤ x2 ∧ x2 ≤ 7 → ¬ (x5 < 0) → x5 ≤ 3 → ¬ (¬ x3 = (-1)) → ¬ (¬ x4 = (-1)) → x1 < 8) (p8 : 0 ≤ x1 ∧ x1 ≤ 7 → 0 ≤ x2 ∧ x2 ≤ 7 → ¬ (x5 < 0) → x5 ≤ 3 → ¬ (¬ x3 = (-1)) → ¬ (¬ x4 = (-1)) → 0 ≤ x2) (p9 : 0 ≤ x1 ∧ x1 ≤ 7 → 0 ≤ x2 ∧ x2 ≤ 7 → ¬ (x5 < 0) → x5 ≤ 3 → ¬ (¬ x3 = (-1)) → ¬ (¬ x4 = (-1)) → x2 < 8)
    (u1 : 0 ≤ x1 ∧ x1 ≤ 7 → 0 ≤ x2 ∧ x2 ≤ 7 → x5 < 0 → Q (.inl (some (0, (-2)))) G h)
    (u2 : 0 ≤ x1 ∧ x1 ≤ 7 → 0 ≤ x2 ∧ x2 ≤ 7 → ¬ (x5 < 0) → x5 ≤ 3 → ¬ x3 = (-1) → z_Y D M_X11_find d 63 [(0, 2, 0), (1, 0, x1), (2, 0, x2), (3, 0, x3), (4, 0, x4), (5, 0, x5)] [] G h Q)
    (u3 : 0 ≤ x1 ∧ x1 ≤ 7 → 0 ≤ x2 ∧ x2 ≤ 7 → ¬ (x5 < 0) → x5 ≤ 3 → ¬ (¬ x3 = (-1)) → ¬ x4 = (-1) → z_Y D M_X11_find d 63 [(0, 2, 0), (1, 0, x1), (2, 0, x2), (3, 0, x3), (4, 0, x4), (5, 0, x5)] [] G h Q)
    (u4 : 0 ≤ x1 ∧ x1 ≤ 7 → 0 ≤ x2 ∧ x2 ≤ 7 → ¬ (x5 < 0) → x5 ≤ 3 → ¬ (¬ x3 = (-1)) → ¬ (¬ x4 = (-1)) → z_Ki D M_X1_seek d [(2, 33), (2, (56 + 4 * x1)), (2, (56 + 4 * x2)), (2, (-1)), (2, (-1)), (0, x5)] G h (fun r G' h' => z_Y D M_X11_find d 62 [] [(0, r)] G' h' Q))
    (u5 : 0 ≤ x1 ∧ x1 ≤ 7 → 0 ≤ x2 ∧ x2 ≤ 7 → ¬ (x5 < 0) → ¬ (x5 ≤ 3) → Q (.inl (some (0, (-2)))) G h)
    (u6 : 0 ≤ x1 ∧ x1 ≤ 7 → ¬ (0 ≤ x2 ∧ x2 ≤ 7) → Q (.inl (some (0, (-2)))) G h)
    (u7 : ¬ (0 ≤ x1 ∧ x1 ≤ 7) → Q (.inl (some (0, (-2)))) G h) :
    z_Y D M_X11_find d 0 [(0, 2, 0), (1, 0, x1), (2, 0, x2), (3, 0, x3), (4, 0, x4), (5, 0, x5)] [] G h Q := by
  intro hl0
  refine z_iload_n (q := 1) 1 dX11_find_0 rfl rfl ?_
  have e1 := a_X11_onShelf (D := D) (G := G) (h := h) (d := d - 1) (by omega) x1 p1
  refine z_goS (q := 4) (av := [(0, x1)]) (rest := []) (z_toi) hl0 (z_Ei.K e1 (by omega) ?_) mo_X11_onShelf np_X11_onShelf k461 k462 rfl (nle rfl) dX11_find_1 rfl
  by_cases c1 : 0 ≤ x1 ∧ x1 ≤ 7
  · rw [z_b1 c1]
    refine z_if_eq (q := 7) (t := 25) ⟨by decide, by decide⟩ dX11_find_4 (by decide) rfl (fun c => absurd c (by decide)) (fun _ => ?_)
    refine z_iload_n (q := 8) 2 dX11_find_7 rfl rfl ?_
    have e2 := a_X11_onShelf (D := D) (G := G) (h := h) (d := d - 1) (by omega) x2 (p2 c1)
    refine z_goS (q := 11) (av := [(0, x2)]) (rest := []) (z_toi) hl0 (z_Ei.K e2 (by omega) ?_) mo_X11_onShelf np_X11_onShelf k461 k462 rfl (nle rfl) dX11_find_8 rfl
    by_cases c2 : 0 ≤ x2 ∧ x2 ≤ 7
    · rw [z_b1 c2]
      refine z_if_eq (q := 14) (t := 25) ⟨by decide, by decide⟩ dX11_find_11 (by decide) rfl (fun c => absurd c (by decide)) (fun _ => ?_)
      refine z_iload (q := 16) 5 dX11_find_14 rfl rfl ?_
      refine z_if_lt (q := 19) (t := 25) (p3 c1 c2) dX11_find_16 (by decide) rfl (fun c3 => ?_) (fun c3 => ?_)
      · refine z_bipush (q := 27) dX11_find_25 rfl (by decide) ?_
        exact z_iret rfl dX11_find_27 ⟨hl0, u1 c1 c2 c3⟩
      · refine z_iload (q := 21) 5 dX11_find_19 rfl rfl ?_
        refine z_iconst (q := 22) dX11_find_21 rfl ?_
        refine z_icmp_le (q := 25) (t := 28) (p3 c1 c2) ⟨by decide, by decide⟩ dX11_find_22 (by decide) rfl (fun c4 => ?_) (fun c4 => ?_)
        · refine z_iload_n (q := 29) 3 dX11_find_28 rfl rfl ?_
          refine z_iconst (q := 30) dX11_find_29 rfl ?_
          refine z_icmp_ne (q := 33) (t := 63) (p4 c1 c2 c3 c4) ⟨by decide, by decide⟩ dX11_find_30 (by decide) rfl (fun c5 => ?_) (fun c5 => ?_)
          · exact u2 c1 c2 c3 c4 c5 hl0
          · refine z_iload (q := 35) 4 dX11_find_33 rfl rfl ?_
            refine z_iconst (q := 36) dX11_find_35 rfl ?_
            refine z_icmp_ne (q := 39) (t := 63) (p5 c1 c2 c3 c4 c5) ⟨by decide, by decide⟩ dX11_find_36 (by decide) rfl (fun c6 => ?_) (fun c6 => ?_)
            · exact u3 c1 c2 c3 c4 c5 c6 hl0
            · refine z_aload_n (q := 40) 0 dX11_find_39 rfl rfl ?_
              refine z_gf (q := 43) (ki := 13) (v := (2, 33)) fX11_81 rfl (z_ldr rfl (hl0.ref 48 rfl)) (hl0.i 0 (by decide) rfl) dX11_find_40 rfl ?_
              refine z_aload_n (q := 44) 0 dX11_find_43 rfl rfl ?_
              refine z_gf (q := 47) (ki := 0) (v := (2, 1)) fX11_11 rfl (z_ldr rfl (hl0.ref 0 rfl)) (hl0.i 0 (by decide) rfl) dX11_find_44 rfl ?_
              refine z_iload_n (q := 48) 1 dX11_find_47 rfl rfl ?_
              refine z_aale (q := 49) 54 (by decide) (by decide) (hl0.a 1 (by decide) rfl) (p6 c1 c2 c3 c4 c5 c6) (p7 c1 c2 c3 c4 c5 c6) (hl0.tb (p6 c1 c2 c3 c4 c5 c6) (p7 c1 c2 c3 c4 c5 c6)) dX11_find_48 rfl ?_
              refine z_aload_n (q := 50) 0 dX11_find_49 rfl rfl ?_
              refine z_gf (q := 53) (ki := 0) (v := (2, 1)) fX11_11 rfl (z_ldr rfl (hl0.ref 0 rfl)) (hl0.i 0 (by decide) rfl) dX11_find_50 rfl ?_
              refine z_iload_n (q := 54) 2 dX11_find_53 rfl rfl ?_
              refine z_aale (q := 55) 54 (by decide) (by decide) (hl0.a 1 (by decide) rfl) (p8 c1 c2 c3 c4 c5 c6) (p9 c1 c2 c3 c4 c5 c6) (hl0.tb (p8 c1 c2 c3 c4 c5 c6) (p9 c1 c2 c3 c4 c5 c6)) dX11_find_54 rfl ?_
              refine z_null (q := 56) dX11_find_55 rfl ?_
              refine z_null (q := 57) dX11_find_56 rfl ?_
              refine z_iload (q := 59) 5 dX11_find_57 rfl rfl ?_
              refine z_sub (L' := []) [] rfl ?_
              exact z_goV (q := 62) (av := [(2, (56 + 4 * x1)), (2, (56 + 4 * x2)), (2, (-1)), (2, (-1)), (0, x5)]) (rest := []) cb0 (hl0.i 33 (by decide) rfl) z_toi hl0 (u4 c1 c2 c3 c4 c5 c6) mo_X1_seek np_X1_seek k891 k892 k893 rfl (nle rfl) dX11_find_59 rfl
        · refine z_bipush (q := 27) dX11_find_25 rfl (by decide) ?_
          exact z_iret rfl dX11_find_27 ⟨hl0, u5 c1 c2 c3 c4⟩
    · rw [z_b0 c2]
      refine z_if_eq (q := 14) (t := 25) ⟨by decide, by decide⟩ dX11_find_11 (by decide) rfl (fun _ => ?_) (fun c => absurd c (by decide))
      refine z_bipush (q := 27) dX11_find_25 rfl (by decide) ?_
      exact z_iret rfl dX11_find_27 ⟨hl0, u6 c1 c2⟩
  · rw [z_b0 c1]
    refine z_if_eq (q := 7) (t := 25) ⟨by decide, by decide⟩ dX11_find_4 (by decide) rfl (fun _ => ?_) (fun c => absurd c (by decide))
    refine z_bipush (q := 27) dX11_find_25 rfl (by decide) ?_
    exact z_iret rfl dX11_find_27 ⟨hl0, u7 c1⟩
theorem b_X11_find_63 {D : zD} {d : Nat} {G : zG} {h : zH} {Q : zO → zG → zH → Prop} {x1 x2 x3 x4 x5 : Int} (hd : 2 ≤ d) (p1 : z_in x3) (p2 : 0 ≤ x3 ∧ x3 ≤ 7 → z_in x4) (p3 : 0 ≤ x3 ∧ x3 ≤ 7 → 0 ≤ x4 ∧ x4 ≤ 7 → 0 ≤ x1) (p4 : 0 ≤ x3 ∧ x3 ≤ 7 → 0 ≤ x4 ∧ x4 ≤ 7 → x1 < 8) (p5 : 0 ≤ x3 ∧ x3 ≤ 7 → 0 ≤ x4 ∧ x4 ≤ 7 → 0 ≤ x2) (p6 : 0 ≤ x3 ∧ x3 ≤ 7 → 0 ≤ x4 ∧ x4 ≤ 7 → x2 < 8) (p7 : 0 ≤ x3 ∧ x3 ≤ 7 → 0 ≤ x4 ∧ x4 ≤ 7 → 0 ≤ x3) (p8 : 0 ≤ x3 ∧ x3 ≤ 7 → 0 ≤ x4 ∧ x4 ≤ 7 → x3 < 8) (p9 : 0 ≤ x3 ∧ x3 ≤ 7 → 0 ≤ x4 ∧ x4 ≤ 7 → 0 ≤ x4) (p10 : 0 ≤ x3 ∧ x3 ≤ 7 → 0 ≤ x4 ∧ x4 ≤ 7 → x4 < 8)
    (u1 : 0 ≤ x3 ∧ x3 ≤ 7 → 0 ≤ x4 ∧ x4 ≤ 7 → z_Ki D M_X1_seek d [(2, 33), (2, (56 + 4 * x1)), (2, (56 + 4 * x2)), (2, (56 + 4 * x3)), (2, (56 + 4 * x4)), (0, x5)] G h (fun r G' h' => z_Y D M_X11_find d 115 [] [(0, r)] G' h' Q))
    (u2 : 0 ≤ x3 ∧ x3 ≤ 7 → ¬ (0 ≤ x4 ∧ x4 ≤ 7) → Q (.inl (some (0, (-2)))) G h)
    (u3 : ¬ (0 ≤ x3 ∧ x3 ≤ 7) → Q (.inl (some (0, (-2)))) G h) :
    z_Y D M_X11_find d 63 [(0, 2, 0), (1, 0, x1), (2, 0, x2), (3, 0, x3), (4, 0, x4), (5, 0, x5)] [] G h Q := by
  intro hl0
  refine z_iload_n (q := 64) 3 dX11_find_63 rfl rfl ?_
  have e1 := a_X11_onShelf (D := D) (G := G) (h := h) (d := d - 1) (by omega) x3 p1
  refine z_goS (q := 67) (av := [(0, x3)]) (rest := []) (z_toi) hl0 (z_Ei.K e1 (by omega) ?_) mo_X11_onShelf np_X11_onShelf k461 k462 rfl (nle rfl) dX11_find_64 rfl
  by_cases c1 : 0 ≤ x3 ∧ x3 ≤ 7
  · rw [z_b1 c1]
    refine z_if_eq (q := 70) (t := 78) ⟨by decide, by decide⟩ dX11_find_67 (by decide) rfl (fun c => absurd c (by decide)) (fun _ => ?_)
    refine z_iload (q := 72) 4 dX11_find_70 rfl rfl ?_
    have e2 := a_X11_onShelf (D := D) (G := G) (h := h) (d := d - 1) (by omega) x4 (p2 c1)
    refine z_goS (q := 75) (av := [(0, x4)]) (rest := []) (z_toi) hl0 (z_Ei.K e2 (by omega) ?_) mo_X11_onShelf np_X11_onShelf k461 k462 rfl (nle rfl) dX11_find_72 rfl
    by_cases c2 : 0 ≤ x4 ∧ x4 ≤ 7
    · rw [z_b1 c2]
      refine z_if_ne (q := 78) (t := 81) ⟨by decide, by decide⟩ dX11_find_75 (by decide) rfl (fun _ => ?_) (fun c => absurd c (by decide))
      refine z_aload_n (q := 82) 0 dX11_find_81 rfl rfl ?_
      refine z_gf (q := 85) (ki := 13) (v := (2, 33)) fX11_81 rfl (z_ldr rfl (hl0.ref 48 rfl)) (hl0.i 0 (by decide) rfl) dX11_find_82 rfl ?_
      refine z_aload_n (q := 86) 0 dX11_find_85 rfl rfl ?_
      refine z_gf (q := 89) (ki := 0) (v := (2, 1)) fX11_11 rfl (z_ldr rfl (hl0.ref 0 rfl)) (hl0.i 0 (by decide) rfl) dX11_find_86 rfl ?_
      refine z_iload_n (q := 90) 1 dX11_find_89 rfl rfl ?_
      refine z_aale (q := 91) 54 (by decide) (by decide) (hl0.a 1 (by decide) rfl) (p3 c1 c2) (p4 c1 c2) (hl0.tb (p3 c1 c2) (p4 c1 c2)) dX11_find_90 rfl ?_
      refine z_aload_n (q := 92) 0 dX11_find_91 rfl rfl ?_
      refine z_gf (q := 95) (ki := 0) (v := (2, 1)) fX11_11 rfl (z_ldr rfl (hl0.ref 0 rfl)) (hl0.i 0 (by decide) rfl) dX11_find_92 rfl ?_
      refine z_iload_n (q := 96) 2 dX11_find_95 rfl rfl ?_
      refine z_aale (q := 97) 54 (by decide) (by decide) (hl0.a 1 (by decide) rfl) (p5 c1 c2) (p6 c1 c2) (hl0.tb (p5 c1 c2) (p6 c1 c2)) dX11_find_96 rfl ?_
      refine z_aload_n (q := 98) 0 dX11_find_97 rfl rfl ?_
      refine z_gf (q := 101) (ki := 0) (v := (2, 1)) fX11_11 rfl (z_ldr rfl (hl0.ref 0 rfl)) (hl0.i 0 (by decide) rfl) dX11_find_98 rfl ?_
      refine z_iload_n (q := 102) 3 dX11_find_101 rfl rfl ?_
      refine z_aale (q := 103) 54 (by decide) (by decide) (hl0.a 1 (by decide) rfl) (p7 c1 c2) (p8 c1 c2) (hl0.tb (p7 c1 c2) (p8 c1 c2)) dX11_find_102 rfl ?_
      refine z_aload_n (q := 104) 0 dX11_find_103 rfl rfl ?_
      refine z_gf (q := 107) (ki := 0) (v := (2, 1)) fX11_11 rfl (z_ldr rfl (hl0.ref 0 rfl)) (hl0.i 0 (by decide) rfl) dX11_find_104 rfl ?_
      refine z_iload (q := 109) 4 dX11_find_107 rfl rfl ?_
      refine z_aale (q := 110) 54 (by decide) (by decide) (hl0.a 1 (by decide) rfl) (p9 c1 c2) (p10 c1 c2) (hl0.tb (p9 c1 c2) (p10 c1 c2)) dX11_find_109 rfl ?_
      refine z_iload (q := 112) 5 dX11_find_110 rfl rfl ?_
      refine z_sub (L' := []) [] rfl ?_
      exact z_goV (q := 115) (av := [(2, (56 + 4 * x1)), (2, (56 + 4 * x2)), (2, (56 + 4 * x3)), (2, (56 + 4 * x4)), (0, x5)]) (rest := []) cb0 (hl0.i 33 (by decide) rfl) z_toi hl0 (u1 c1 c2) mo_X1_seek np_X1_seek k891 k892 k893 rfl (nle rfl) dX11_find_112 rfl
    · rw [z_b0 c2]
      refine z_if_ne (q := 78) (t := 81) ⟨by decide, by decide⟩ dX11_find_75 (by decide) rfl (fun c => absurd c (by decide)) (fun _ => ?_)
      refine z_bipush (q := 80) dX11_find_78 rfl (by decide) ?_
      exact z_iret rfl dX11_find_80 ⟨hl0, u2 c1 c2⟩
  · rw [z_b0 c1]
    refine z_if_eq (q := 70) (t := 78) ⟨by decide, by decide⟩ dX11_find_67 (by decide) rfl (fun _ => ?_) (fun c => absurd c (by decide))
    refine z_bipush (q := 80) dX11_find_78 rfl (by decide) ?_
    exact z_iret rfl dX11_find_80 ⟨hl0, u3 c1⟩
theorem b_X11_find_62 {D : zD} {d : Nat} {G : zG} {h : zH} {Q : zO → zG → zH → Prop} {s0 : Int}
    (u1 : Q (.inl (some (0, s0))) G h) :
    z_Y D M_X11_find d 62 [] [(0, s0)] G h Q := by
  intro hl0
  exact z_iret rfl dX11_find_62 ⟨hl0, u1⟩
theorem b_X11_find_115 {D : zD} {d : Nat} {G : zG} {h : zH} {Q : zO → zG → zH → Prop} {s0 : Int}
    (u1 : Q (.inl (some (0, s0))) G h) :
    z_Y D M_X11_find d 115 [] [(0, s0)] G h Q := by
  intro hl0
  exact z_iret rfl dX11_find_115 ⟨hl0, u1⟩
theorem b_X11_found_0 {D : zD} {d : Nat} {G : zG} {h : zH} {Q : zO → zG → zH → Prop} {x1 : Int} (p1 : ¬ x1 = 0 → ¬ x1 = 1 → ¬ x1 = 2 → z_in x1)
    (u1 : x1 = 0 → Q (.inl (some (0, (h 33 16)))) G h)
    (u2 : ¬ x1 = 0 → x1 = 1 → Q (.inl (some (0, (h 33 14)))) G h)
    (u3 : ¬ x1 = 0 → ¬ x1 = 1 → x1 = 2 → Q (.inl (some (0, (h 33 15)))) G h)
    (u4 : ¬ x1 = 0 → ¬ x1 = 1 → ¬ x1 = 2 → Q (.inl (some (0, (-1)))) G h) :
    z_Y D M_X11_found d 0 [(0, 2, 0), (1, 0, x1)] [] G h Q := by
  intro hl0
  refine z_iload_n (q := 1) 1 dX11_found_0 rfl rfl ?_
  by_cases c1 : x1 = 0
  · refine z_tswIn (t := 28) 0 c1 ⟨by decide, by decide⟩ dX11_found_1 (by decide) (by decide) rfl (by decide) ?_
    refine z_aload_n (q := 29) 0 dX11_found_28 rfl rfl ?_
    refine z_gf (q := 32) (ki := 13) (v := (2, 33)) fX11_81 rfl (z_ldr rfl (hl0.ref 48 rfl)) (hl0.i 0 (by decide) rfl) dX11_found_29 rfl ?_
    refine z_gf (q := 35) (ki := 16) (v := (0, (h 33 16))) fX11_187 rfl rfl (hl0.i 33 (by decide) rfl) dX11_found_32 rfl ?_
    exact z_iret rfl dX11_found_35 ⟨hl0, u1 c1⟩
  by_cases c2 : x1 = 1
  · refine z_tswIn (t := 36) 1 c2 ⟨by decide, by decide⟩ dX11_found_1 (by decide) (by decide) rfl (by decide) ?_
    refine z_aload_n (q := 37) 0 dX11_found_36 rfl rfl ?_
    refine z_gf (q := 40) (ki := 13) (v := (2, 33)) fX11_81 rfl (z_ldr rfl (hl0.ref 48 rfl)) (hl0.i 0 (by decide) rfl) dX11_found_37 rfl ?_
    refine z_gf (q := 43) (ki := 14) (v := (0, (h 33 14))) fX11_190 rfl rfl (hl0.i 33 (by decide) rfl) dX11_found_40 rfl ?_
    exact z_iret rfl dX11_found_43 ⟨hl0, u2 c1 c2⟩
  by_cases c3 : x1 = 2
  · refine z_tswIn (t := 44) 2 c3 ⟨by decide, by decide⟩ dX11_found_1 (by decide) (by decide) rfl (by decide) ?_
    refine z_aload_n (q := 45) 0 dX11_found_44 rfl rfl ?_
    refine z_gf (q := 48) (ki := 13) (v := (2, 33)) fX11_81 rfl (z_ldr rfl (hl0.ref 48 rfl)) (hl0.i 0 (by decide) rfl) dX11_found_45 rfl ?_
    refine z_gf (q := 51) (ki := 15) (v := (0, (h 33 15))) fX11_193 rfl rfl (hl0.i 33 (by decide) rfl) dX11_found_48 rfl ?_
    exact z_iret rfl dX11_found_51 ⟨hl0, u3 c1 c2 c3⟩
  refine z_tswOut (t := 52) (p1 c1 c2 c3) dX11_found_1 (by omega) (by decide) ?_
  refine z_iconst (q := 53) dX11_found_52 rfl ?_
  exact z_iret rfl dX11_found_53 ⟨hl0, u4 c1 c2 c3⟩
theorem b_X11_take_0 {D : zD} {d : Nat} {G : zG} {h : zH} {Q : zO → zG → zH → Prop} {x1 x2 : Int} (hd : 2 ≤ d) (p1 : z_in x2) (p2 : 0 ≤ x2 ∧ x2 ≤ 7 → z_in x1) (p3 : 0 ≤ x2 ∧ x2 ≤ 7 → ¬ (x1 < 0) → z_in (h 51 0)) (p4 : 0 ≤ x2 ∧ x2 ≤ 7 → ¬ (x1 < 0) → x1 < (h 51 0) → 0 ≤ x2) (p5 : 0 ≤ x2 ∧ x2 ≤ 7 → ¬ (x1 < 0) → x1 < (h 51 0) → x2 < 8)
    (u1 : 0 ≤ x2 ∧ x2 ≤ 7 → x1 < 0 → Q (.inl (some (0, (-1)))) G h)
    (u2 : 0 ≤ x2 ∧ x2 ≤ 7 → ¬ (x1 < 0) → x1 < (h 51 0) → z_Kv D M_X7_write d [(2, 51), (0, x1), (2, (58 + 4 * x2))] G h (fun G' h' => z_Y D M_X11_take d 47 [(0, 2, 0), (2, 0, x2)] [] G' h' Q))
    (u3 : 0 ≤ x2 ∧ x2 ≤ 7 → ¬ (x1 < 0) → ¬ (x1 < (h 51 0)) → Q (.inl (some (0, (-1)))) G h)
    (u4 : ¬ (0 ≤ x2 ∧ x2 ≤ 7) → Q (.inl (some (0, (-2)))) G h) :
    z_Y D M_X11_take d 0 [(0, 2, 0), (1, 0, x1), (2, 0, x2)] [] G h Q := by
  intro hl0
  refine z_iload_n (q := 1) 2 dX11_take_0 rfl rfl ?_
  have e1 := a_X11_onShelf (D := D) (G := G) (h := h) (d := d - 1) (by omega) x2 p1
  refine z_goS (q := 4) (av := [(0, x2)]) (rest := []) (z_toi) hl0 (z_Ei.K e1 (by omega) ?_) mo_X11_onShelf np_X11_onShelf k461 k462 rfl (nle rfl) dX11_take_1 rfl
  by_cases c1 : 0 ≤ x2 ∧ x2 ≤ 7
  · rw [z_b1 c1]
    refine z_if_ne (q := 7) (t := 10) ⟨by decide, by decide⟩ dX11_take_4 (by decide) rfl (fun _ => ?_) (fun c => absurd c (by decide))
    refine z_iload_n (q := 11) 1 dX11_take_10 rfl rfl ?_
    refine z_if_lt (q := 14) (t := 28) (p2 c1) dX11_take_11 (by decide) rfl (fun c2 => ?_) (fun c2 => ?_)
    · refine z_iconst (q := 29) dX11_take_28 rfl ?_
      exact z_iret rfl dX11_take_29 ⟨hl0, u1 c1 c2⟩
    · refine z_iload_n (q := 15) 1 dX11_take_14 rfl rfl ?_
      refine z_aload_n (q := 16) 0 dX11_take_15 rfl rfl ?_
      refine z_gf (q := 19) (ki := 13) (v := (2, 33)) fX11_81 rfl (z_ldr rfl (hl0.ref 48 rfl)) (hl0.i 0 (by decide) rfl) dX11_take_16 rfl ?_
      refine z_gf (q := 22) (ki := 13) (v := (2, 51)) fX11_196 rfl (z_ldr rfl (hl0.ref 46 rfl)) (hl0.i 33 (by decide) rfl) dX11_take_19 rfl ?_
      refine z_gf (q := 25) (ki := 0) (v := (0, (h 51 0))) fX11_200 rfl rfl (hl0.i 51 (by decide) rfl) dX11_take_22 rfl ?_
      refine z_icmp_lt (q := 28) (t := 30) (p2 c1) (p3 c1 c2) dX11_take_25 (by decide) rfl (fun c3 => ?_) (fun c3 => ?_)
      · refine z_aload_n (q := 31) 0 dX11_take_30 rfl rfl ?_
        refine z_gf (q := 34) (ki := 13) (v := (2, 33)) fX11_81 rfl (z_ldr rfl (hl0.ref 48 rfl)) (hl0.i 0 (by decide) rfl) dX11_take_31 rfl ?_
        refine z_gf (q := 37) (ki := 13) (v := (2, 51)) fX11_196 rfl (z_ldr rfl (hl0.ref 46 rfl)) (hl0.i 33 (by decide) rfl) dX11_take_34 rfl ?_
        refine z_iload_n (q := 38) 1 dX11_take_37 rfl rfl ?_
        refine z_aload_n (q := 39) 0 dX11_take_38 rfl rfl ?_
        refine z_gf (q := 42) (ki := 1) (v := (2, 2)) fX11_17 rfl (z_ldr rfl (hl0.ref 1 rfl)) (hl0.i 0 (by decide) rfl) dX11_take_39 rfl ?_
        refine z_iload_n (q := 43) 2 dX11_take_42 rfl rfl ?_
        refine z_aale (q := 44) 55 (by decide) (by decide) (hl0.a 2 (by decide) rfl) (p4 c1 c2 c3) (p5 c1 c2 c3) (hl0.wy (p4 c1 c2 c3) (p5 c1 c2 c3)) dX11_take_43 rfl ?_
        refine z_sub (L' := [(0, 2, 0), (2, 0, x2)]) [0, 2] rfl ?_
        exact z_goV (q := 47) (av := [(0, x1), (2, (58 + 4 * x2))]) (rest := []) cb5 (hl0.i 51 (by decide) rfl) z_tov hl0 (u2 c1 c2 c3) mo_X7_write np_X7_write k1054 k1055 k1056 rfl (nle rfl) dX11_take_44 rfl
      · refine z_iconst (q := 29) dX11_take_28 rfl ?_
        exact z_iret rfl dX11_take_29 ⟨hl0, u3 c1 c2 c3⟩
  · rw [z_b0 c1]
    refine z_if_ne (q := 7) (t := 10) ⟨by decide, by decide⟩ dX11_take_4 (by decide) rfl (fun c => absurd c (by decide)) (fun _ => ?_)
    refine z_bipush (q := 9) dX11_take_7 rfl (by decide) ?_
    exact z_iret rfl dX11_take_9 ⟨hl0, u4 c1⟩
theorem b_X11_take_47 {D : zD} {d : Nat} {G : zG} {h : zH} {Q : zO → zG → zH → Prop} {x2 : Int} (p1 : 0 ≤ x2) (p2 : x2 < 8)
    (u1 : Q (.inl (some (0, (h (58 + 4 * x2) 1)))) G h) :
    z_Y D M_X11_take d 47 [(0, 2, 0), (2, 0, x2)] [] G h Q := by
  intro hl0
  refine z_aload_n (q := 48) 0 dX11_take_47 rfl rfl ?_
  refine z_gf (q := 51) (ki := 1) (v := (2, 2)) fX11_17 rfl (z_ldr rfl (hl0.ref 1 rfl)) (hl0.i 0 (by decide) rfl) dX11_take_48 rfl ?_
  refine z_iload_n (q := 52) 1 dX11_take_51 rfl rfl ?_
  refine z_aale (q := 53) 55 (by decide) (by decide) (hl0.a 2 (by decide) rfl) p1 p2 (hl0.wy p1 p2) dX11_take_52 rfl ?_
  refine z_gf (q := 56) (ki := 1) (v := (0, (h (58 + 4 * x2) 1))) fX11_125 rfl rfl (hl0.wyi p1 p2) dX11_take_53 rfl ?_
  exact z_iret rfl dX11_take_56 ⟨hl0, u1⟩
theorem b_X11_part_0 {D : zD} {d : Nat} {G : zG} {h : zH} {Q : zO → zG → zH → Prop} {x1 x2 x3 x4 x5 : Int} (hd : 2 ≤ d) (p1 : z_in x1) (p2 : 0 ≤ x1 ∧ x1 ≤ 7 → z_in x2) (p3 : 0 ≤ x1 ∧ x1 ≤ 7 → 0 ≤ x2 ∧ x2 ≤ 7 → z_in x5) (p4 : 0 ≤ x1 ∧ x1 ≤ 7 → 0 ≤ x2 ∧ x2 ≤ 7 → 0 ≤ x5 ∧ x5 ≤ 7 → z_in x3) (p5 : 0 ≤ x1 ∧ x1 ≤ 7 → 0 ≤ x2 ∧ x2 ≤ 7 → 0 ≤ x5 ∧ x5 ≤ 7 → ¬ (x3 < 1) → ¬ (3 < x3) → z_in x4)
    (u1 : 0 ≤ x1 ∧ x1 ≤ 7 → 0 ≤ x2 ∧ x2 ≤ 7 → 0 ≤ x5 ∧ x5 ≤ 7 → x3 < 1 → Q (.inl (some (0, (-2)))) G h)
    (u2 : 0 ≤ x1 ∧ x1 ≤ 7 → 0 ≤ x2 ∧ x2 ≤ 7 → 0 ≤ x5 ∧ x5 ≤ 7 → ¬ (x3 < 1) → 3 < x3 → Q (.inl (some (0, (-2)))) G h)
    (u3 : 0 ≤ x1 ∧ x1 ≤ 7 → 0 ≤ x2 ∧ x2 ≤ 7 → 0 ≤ x5 ∧ x5 ≤ 7 → ¬ (x3 < 1) → ¬ (3 < x3) → x4 < 1 → Q (.inl (some (0, (-2)))) G h)
    (u4 : 0 ≤ x1 ∧ x1 ≤ 7 → 0 ≤ x2 ∧ x2 ≤ 7 → 0 ≤ x5 ∧ x5 ≤ 7 → ¬ (x3 < 1) → ¬ (3 < x3) → ¬ (x4 < 1) → x4 ≤ 2 → z_Y D M_X11_part d 56 [(0, 2, 0), (1, 0, x1), (2, 0, x2), (3, 0, x3), (4, 0, x4), (5, 0, x5), (6, 0, 0), (7, 0, 1)] [] G h Q)
    (u5 : 0 ≤ x1 ∧ x1 ≤ 7 → 0 ≤ x2 ∧ x2 ≤ 7 → 0 ≤ x5 ∧ x5 ≤ 7 → ¬ (x3 < 1) → ¬ (3 < x3) → ¬ (x4 < 1) → ¬ (x4 ≤ 2) → Q (.inl (some (0, (-2)))) G h)
    (u6 : 0 ≤ x1 ∧ x1 ≤ 7 → 0 ≤ x2 ∧ x2 ≤ 7 → ¬ (0 ≤ x5 ∧ x5 ≤ 7) → Q (.inl (some (0, (-2)))) G h)
    (u7 : 0 ≤ x1 ∧ x1 ≤ 7 → ¬ (0 ≤ x2 ∧ x2 ≤ 7) → Q (.inl (some (0, (-2)))) G h)
    (u8 : ¬ (0 ≤ x1 ∧ x1 ≤ 7) → Q (.inl (some (0, (-2)))) G h) :
    z_Y D M_X11_part d 0 [(0, 2, 0), (1, 0, x1), (2, 0, x2), (3, 0, x3), (4, 0, x4), (5, 0, x5)] [] G h Q := by
  intro hl0
  refine z_iload_n (q := 1) 1 dX11_part_0 rfl rfl ?_
  have e1 := a_X11_onShelf (D := D) (G := G) (h := h) (d := d - 1) (by omega) x1 p1
  refine z_goS (q := 4) (av := [(0, x1)]) (rest := []) (z_toi) hl0 (z_Ei.K e1 (by omega) ?_) mo_X11_onShelf np_X11_onShelf k461 k462 rfl (nle rfl) dX11_part_1 rfl
  by_cases c1 : 0 ≤ x1 ∧ x1 ≤ 7
  · rw [z_b1 c1]
    refine z_if_eq (q := 7) (t := 22) ⟨by decide, by decide⟩ dX11_part_4 (by decide) rfl (fun c => absurd c (by decide)) (fun _ => ?_)
    refine z_iload_n (q := 8) 2 dX11_part_7 rfl rfl ?_
    have e2 := a_X11_onShelf (D := D) (G := G) (h := h) (d := d - 1) (by omega) x2 (p2 c1)
    refine z_goS (q := 11) (av := [(0, x2)]) (rest := []) (z_toi) hl0 (z_Ei.K e2 (by omega) ?_) mo_X11_onShelf np_X11_onShelf k461 k462 rfl (nle rfl) dX11_part_8 rfl
    by_cases c2 : 0 ≤ x2 ∧ x2 ≤ 7
    · rw [z_b1 c2]
      refine z_if_eq (q := 14) (t := 22) ⟨by decide, by decide⟩ dX11_part_11 (by decide) rfl (fun c => absurd c (by decide)) (fun _ => ?_)
      refine z_iload (q := 16) 5 dX11_part_14 rfl rfl ?_
      have e3 := a_X11_onShelf (D := D) (G := G) (h := h) (d := d - 1) (by omega) x5 (p3 c1 c2)
      refine z_goS (q := 19) (av := [(0, x5)]) (rest := []) (z_toi) hl0 (z_Ei.K e3 (by omega) ?_) mo_X11_onShelf np_X11_onShelf k461 k462 rfl (nle rfl) dX11_part_16 rfl
      by_cases c3 : 0 ≤ x5 ∧ x5 ≤ 7
      · rw [z_b1 c3]
        refine z_if_ne (q := 22) (t := 25) ⟨by decide, by decide⟩ dX11_part_19 (by decide) rfl (fun _ => ?_) (fun c => absurd c (by decide))
        refine z_iload_n (q := 26) 3 dX11_part_25 rfl rfl ?_
        refine z_iconst (q := 27) dX11_part_26 rfl ?_
        refine z_icmp_lt (q := 30) (t := 47) (p4 c1 c2 c3) ⟨by decide, by decide⟩ dX11_part_27 (by decide) rfl (fun c4 => ?_) (fun c4 => ?_)
        · refine z_bipush (q := 49) dX11_part_47 rfl (by decide) ?_
          exact z_iret rfl dX11_part_49 ⟨hl0, u1 c1 c2 c3 c4⟩
        · refine z_iload_n (q := 31) 3 dX11_part_30 rfl rfl ?_
          refine z_iconst (q := 32) dX11_part_31 rfl ?_
          refine z_icmp_gt (q := 35) (t := 47) (p4 c1 c2 c3) ⟨by decide, by decide⟩ dX11_part_32 (by decide) rfl (fun c5 => ?_) (fun c5 => ?_)
          · refine z_bipush (q := 49) dX11_part_47 rfl (by decide) ?_
            exact z_iret rfl dX11_part_49 ⟨hl0, u2 c1 c2 c3 c4 c5⟩
          · refine z_iload (q := 37) 4 dX11_part_35 rfl rfl ?_
            refine z_iconst (q := 38) dX11_part_37 rfl ?_
            refine z_icmp_lt (q := 41) (t := 47) (p5 c1 c2 c3 c4 c5) ⟨by decide, by decide⟩ dX11_part_38 (by decide) rfl (fun c6 => ?_) (fun c6 => ?_)
            · refine z_bipush (q := 49) dX11_part_47 rfl (by decide) ?_
              exact z_iret rfl dX11_part_49 ⟨hl0, u3 c1 c2 c3 c4 c5 c6⟩
            · refine z_iload (q := 43) 4 dX11_part_41 rfl rfl ?_
              refine z_iconst (q := 44) dX11_part_43 rfl ?_
              refine z_icmp_le (q := 47) (t := 50) (p5 c1 c2 c3 c4 c5) ⟨by decide, by decide⟩ dX11_part_44 (by decide) rfl (fun c7 => ?_) (fun c7 => ?_)
              · refine z_iconst (q := 51) dX11_part_50 rfl ?_
                refine z_istore (q := 53) (L' := [(0, 2, 0), (1, 0, x1), (2, 0, x2), (3, 0, x3), (4, 0, x4), (5, 0, x5), (6, 0, 0)]) dX11_part_51 rfl (by decide) rfl ?_
                refine z_iconst (q := 54) dX11_part_53 rfl ?_
                refine z_istore (q := 56) (L' := [(0, 2, 0), (1, 0, x1), (2, 0, x2), (3, 0, x3), (4, 0, x4), (5, 0, x5), (6, 0, 0), (7, 0, 1)]) dX11_part_54 rfl (by decide) rfl ?_
                exact u4 c1 c2 c3 c4 c5 c6 c7 hl0
              · refine z_bipush (q := 49) dX11_part_47 rfl (by decide) ?_
                exact z_iret rfl dX11_part_49 ⟨hl0, u5 c1 c2 c3 c4 c5 c6 c7⟩
      · rw [z_b0 c3]
        refine z_if_ne (q := 22) (t := 25) ⟨by decide, by decide⟩ dX11_part_19 (by decide) rfl (fun c => absurd c (by decide)) (fun _ => ?_)
        refine z_bipush (q := 24) dX11_part_22 rfl (by decide) ?_
        exact z_iret rfl dX11_part_24 ⟨hl0, u6 c1 c2 c3⟩
    · rw [z_b0 c2]
      refine z_if_eq (q := 14) (t := 22) ⟨by decide, by decide⟩ dX11_part_11 (by decide) rfl (fun _ => ?_) (fun c => absurd c (by decide))
      refine z_bipush (q := 24) dX11_part_22 rfl (by decide) ?_
      exact z_iret rfl dX11_part_24 ⟨hl0, u7 c1 c2⟩
  · rw [z_b0 c1]
    refine z_if_eq (q := 7) (t := 22) ⟨by decide, by decide⟩ dX11_part_4 (by decide) rfl (fun _ => ?_) (fun c => absurd c (by decide))
    refine z_bipush (q := 24) dX11_part_22 rfl (by decide) ?_
    exact z_iret rfl dX11_part_24 ⟨hl0, u8 c1⟩
theorem b_X11_part_56 {D : zD} {d : Nat} {G : zG} {h : zH} {Q : zO → zG → zH → Prop} {x1 x2 x3 x4 x5 x6 x7 : Int} (p1 : z_in x7) (p2 : z_in x4)
    (u1 : x4 < x7 → Q (.inl (some (0, (-1)))) G h)
    (u2 : ¬ (x4 < x7) → z_Ki D M_X11_listedTables d [(0, (x7 * x3))] G h (fun r G' h' => z_Y D M_X11_part d 70 [(0, 2, 0), (1, 0, x1), (2, 0, x2), (3, 0, x3), (4, 0, x4), (5, 0, x5), (6, 0, x6), (7, 0, x7)] [(0, r)] G' h' Q)) :
    z_Y D M_X11_part d 56 [(0, 2, 0), (1, 0, x1), (2, 0, x2), (3, 0, x3), (4, 0, x4), (5, 0, x5), (6, 0, x6), (7, 0, x7)] [] G h Q := by
  intro hl0
  refine z_iload (q := 58) 7 dX11_part_56 rfl rfl ?_
  refine z_iload (q := 60) 4 dX11_part_58 rfl rfl ?_
  refine z_icmp_gt (q := 63) (t := 153) p1 p2 dX11_part_60 (by decide) rfl (fun c1 => ?_) (fun c1 => ?_)
  · refine z_iconst (q := 154) dX11_part_153 rfl ?_
    exact z_iret rfl dX11_part_154 ⟨hl0, u1 c1⟩
  · refine z_iload (q := 65) 7 dX11_part_63 rfl rfl ?_
    refine z_iload_n (q := 66) 3 dX11_part_65 rfl rfl ?_
    refine z_imul (q := 67) dX11_part_66 rfl ?_
    exact z_goS (q := 70) (av := [(0, (x7 * x3))]) (rest := []) z_toi hl0 (u2 c1) mo_X11_listedTables np_X11_listedTables k1064 k1065 rfl (nle rfl) dX11_part_67 rfl
theorem b_X11_part_70 {D : zD} {d : Nat} {G : zG} {h : zH} {Q : zO → zG → zH → Prop} {s0 x1 x2 x3 x4 x5 x6 x7 : Int}
    (u1 : z_Y D M_X11_part d 75 [(0, 2, 0), (1, 0, x1), (2, 0, x2), (3, 0, x3), (4, 0, x4), (5, 0, x5), (6, 0, x6), (7, 0, x7), (8, 0, s0), (9, 0, 0)] [] G h Q) :
    z_Y D M_X11_part d 70 [(0, 2, 0), (1, 0, x1), (2, 0, x2), (3, 0, x3), (4, 0, x4), (5, 0, x5), (6, 0, x6), (7, 0, x7)] [(0, s0)] G h Q := by
  intro hl0
  refine z_istore (q := 72) (L' := [(0, 2, 0), (1, 0, x1), (2, 0, x2), (3, 0, x3), (4, 0, x4), (5, 0, x5), (6, 0, x6), (7, 0, x7), (8, 0, s0)]) dX11_part_70 rfl (by decide) rfl ?_
  refine z_iconst (q := 73) dX11_part_72 rfl ?_
  refine z_istore (q := 75) (L' := [(0, 2, 0), (1, 0, x1), (2, 0, x2), (3, 0, x3), (4, 0, x4), (5, 0, x5), (6, 0, x6), (7, 0, x7), (8, 0, s0), (9, 0, 0)]) dX11_part_73 rfl (by decide) rfl ?_
  exact u1 hl0
theorem b_X11_part_75 {D : zD} {d : Nat} {G : zG} {h : zH} {Q : zO → zG → zH → Prop} {x1 x2 x3 x4 x5 x6 x7 x8 x9 : Int} (p1 : z_in x9) (p2 : z_in x8) (p3 : ¬ (x8 ≤ x9) → z_in x6)
    (u1 : x8 ≤ x9 → z_Y D M_X11_part d 56 [(0, 2, 0), (1, 0, x1), (2, 0, x2), (3, 0, x3), (4, 0, x4), (5, 0, x5), (6, 0, x6), (7, 0, (x7 + 1))] [] G h Q)
    (u2 : ¬ (x8 ≤ x9) → ¬ x6 = 1000 → z_Kv D M_X11_writeListed d [(2, 0), (0, x7), (0, x3), (0, x9)] G h (fun G' h' => z_Y D M_X11_part d 105 [(0, 2, 0), (1, 0, x1), (2, 0, x2), (3, 0, x3), (4, 0, x4), (5, 0, x5), (6, 0, (x6 + 1)), (7, 0, x7), (8, 0, x8), (9, 0, x9)] [] G' h' Q))
    (u3 : ¬ (x8 ≤ x9) → ¬ (¬ x6 = 1000) → Q (.inl (some (0, (-3)))) G h) :
    z_Y D M_X11_part d 75 [(0, 2, 0), (1, 0, x1), (2, 0, x2), (3, 0, x3), (4, 0, x4), (5, 0, x5), (6, 0, x6), (7, 0, x7), (8, 0, x8), (9, 0, x9)] [] G h Q := by
  intro hl0
  refine z_iload (q := 77) 9 dX11_part_75 rfl rfl ?_
  refine z_iload (q := 79) 8 dX11_part_77 rfl rfl ?_
  refine z_icmp_ge (q := 82) (t := 147) p1 p2 dX11_part_79 (by decide) rfl (fun c1 => ?_) (fun c1 => ?_)
  · refine z_iinc (q := 150) (L' := [(0, 2, 0), (1, 0, x1), (2, 0, x2), (3, 0, x3), (4, 0, x4), (5, 0, x5), (6, 0, x6), (7, 0, (x7 + 1)), (8, 0, x8), (9, 0, x9)]) 7 dX11_part_147 rfl rfl (by decide) rfl ?_
    refine z_goto (t := 56) dX11_part_150 (by decide) ?_
    refine z_sub (L' := [(0, 2, 0), (1, 0, x1), (2, 0, x2), (3, 0, x3), (4, 0, x4), (5, 0, x5), (6, 0, x6), (7, 0, (x7 + 1))]) [0, 1, 2, 3, 4, 5, 6, 7] rfl ?_
    exact u1 c1 hl0
  · refine z_iload (q := 84) 6 dX11_part_82 rfl rfl ?_
    refine z_sipush (q := 87) dX11_part_84 rfl (by decide) ?_
    refine z_icmp_ne (q := 90) (t := 93) (p3 c1) ⟨by decide, by decide⟩ dX11_part_87 (by decide) rfl (fun c2 => ?_) (fun c2 => ?_)
    · refine z_iinc (q := 96) (L' := [(0, 2, 0), (1, 0, x1), (2, 0, x2), (3, 0, x3), (4, 0, x4), (5, 0, x5), (6, 0, (x6 + 1)), (7, 0, x7), (8, 0, x8), (9, 0, x9)]) 6 dX11_part_93 rfl rfl (by decide) rfl ?_
      refine z_aload_n (q := 97) 0 dX11_part_96 rfl rfl ?_
      refine z_iload (q := 99) 7 dX11_part_97 rfl rfl ?_
      refine z_iload_n (q := 100) 3 dX11_part_99 rfl rfl ?_
      refine z_iload (q := 102) 9 dX11_part_100 rfl rfl ?_
      exact z_goV (q := 105) (av := [(0, x7), (0, x3), (0, x9)]) (rest := []) cb9 (hl0.i 0 (by decide) rfl) z_tov hl0 (u2 c1 c2) mo_X11_writeListed np_X11_writeListed k1067 k1069 k37 rfl (nle rfl) dX11_part_102 rfl
    · refine z_bipush (q := 92) dX11_part_90 rfl (by decide) ?_
      exact z_iret rfl dX11_part_92 ⟨hl0, u3 c1 c2⟩
theorem b_X11_part_105 {D : zD} {d : Nat} {G : zG} {h : zH} {Q : zO → zG → zH → Prop} {x1 x2 x3 x4 x5 x6 x7 x8 x9 : Int} (p1 : 0 ≤ x1) (p2 : x1 < 8) (p3 : 0 ≤ x2) (p4 : x2 < 8)
    (u1 : z_Ki D M_X11_partOnSpare d [(2, 0), (2, (58 + 4 * x1)), (2, (58 + 4 * x2))] G h (fun r G' h' => z_Y D M_X11_part d 121 [(0, 2, 0), (1, 0, x1), (2, 0, x2), (3, 0, x3), (4, 0, x4), (5, 0, x5), (6, 0, x6), (7, 0, x7), (8, 0, x8), (9, 0, x9)] [(0, r)] G' h' Q)) :
    z_Y D M_X11_part d 105 [(0, 2, 0), (1, 0, x1), (2, 0, x2), (3, 0, x3), (4, 0, x4), (5, 0, x5), (6, 0, x6), (7, 0, x7), (8, 0, x8), (9, 0, x9)] [] G h Q := by
  intro hl0
  refine z_aload_n (q := 106) 0 dX11_part_105 rfl rfl ?_
  refine z_aload_n (q := 107) 0 dX11_part_106 rfl rfl ?_
  refine z_gf (q := 110) (ki := 1) (v := (2, 2)) fX11_17 rfl (z_ldr rfl (hl0.ref 1 rfl)) (hl0.i 0 (by decide) rfl) dX11_part_107 rfl ?_
  refine z_iload_n (q := 111) 1 dX11_part_110 rfl rfl ?_
  refine z_aale (q := 112) 55 (by decide) (by decide) (hl0.a 2 (by decide) rfl) p1 p2 (hl0.wy p1 p2) dX11_part_111 rfl ?_
  refine z_aload_n (q := 113) 0 dX11_part_112 rfl rfl ?_
  refine z_gf (q := 116) (ki := 1) (v := (2, 2)) fX11_17 rfl (z_ldr rfl (hl0.ref 1 rfl)) (hl0.i 0 (by decide) rfl) dX11_part_113 rfl ?_
  refine z_iload_n (q := 117) 2 dX11_part_116 rfl rfl ?_
  refine z_aale (q := 118) 55 (by decide) (by decide) (hl0.a 2 (by decide) rfl) p3 p4 (hl0.wy p3 p4) dX11_part_117 rfl ?_
  exact z_goV (q := 121) (av := [(2, (58 + 4 * x1)), (2, (58 + 4 * x2))]) (rest := []) cb9 (hl0.i 0 (by decide) rfl) z_toi hl0 (u1) mo_X11_partOnSpare np_X11_partOnSpare k1075 k1077 k38 rfl (nle rfl) dX11_part_118 rfl
theorem b_X11_part_121 {D : zD} {d : Nat} {G : zG} {h : zH} {Q : zO → zG → zH → Prop} {s0 x1 x2 x3 x4 x5 x6 x7 x8 x9 : Int} (hd : 2 ≤ d) (p1 : z_in s0) (p2 : ¬ (s0 = 0) → 0 ≤ x5) (p3 : ¬ (s0 = 0) → x5 < 8) (p4 : ¬ (s0 = 0) → 0 ≤ ((h 29 1) * (h 29 2))) (p5 : ¬ (s0 = 0) → ((h 29 1) * (h 29 2)) ≤ 72)
    (u1 : s0 = 0 → z_Y D M_X11_part d 75 [(0, 2, 0), (1, 0, x1), (2, 0, x2), (3, 0, x3), (4, 0, x4), (5, 0, x5), (6, 0, x6), (7, 0, x7), (8, 0, x8), (9, 0, (x9 + 1))] [] G h Q)
    (u2 : ¬ (s0 = 0) → Q (.inl (some (0, x6))) G (z_cp (z_wr (z_wr h (56 + 4 * x5) 1 (h 29 1)) (56 + 4 * x5) 2 (h 29 2)) 30 0 ((56 + 4 * x5) + 1) 0 ((h 29 1) * (h 29 2)))) :
    z_Y D M_X11_part d 121 [(0, 2, 0), (1, 0, x1), (2, 0, x2), (3, 0, x3), (4, 0, x4), (5, 0, x5), (6, 0, x6), (7, 0, x7), (8, 0, x8), (9, 0, x9)] [(0, s0)] G h Q := by
  intro hl0
  refine z_if_eq (q := 124) (t := 141) p1 dX11_part_121 (by decide) rfl (fun c1 => ?_) (fun c1 => ?_)
  · refine z_iinc (q := 144) (L' := [(0, 2, 0), (1, 0, x1), (2, 0, x2), (3, 0, x3), (4, 0, x4), (5, 0, x5), (6, 0, x6), (7, 0, x7), (8, 0, x8), (9, 0, (x9 + 1))]) 9 dX11_part_141 rfl rfl (by decide) rfl ?_
    refine z_goto (t := 75) dX11_part_144 (by decide) ?_
    exact u1 c1 hl0
  · refine z_aload_n (q := 125) 0 dX11_part_124 rfl rfl ?_
    refine z_gf (q := 128) (ki := 0) (v := (2, 1)) fX11_11 rfl (z_ldr rfl (hl0.ref 0 rfl)) (hl0.i 0 (by decide) rfl) dX11_part_125 rfl ?_
    refine z_iload (q := 130) 5 dX11_part_128 rfl rfl ?_
    refine z_aale (q := 131) 54 (by decide) (by decide) (hl0.a 1 (by decide) rfl) (p2 c1) (p3 c1) (hl0.tb (p2 c1) (p3 c1)) dX11_part_130 rfl ?_
    refine z_aload_n (q := 132) 0 dX11_part_131 rfl rfl ?_
    refine z_gf (q := 135) (ki := 11) (v := (2, 29)) fX11_69 rfl (z_ldr rfl (hl0.ref 27 rfl)) (hl0.i 0 (by decide) rfl) dX11_part_132 rfl ?_
    have e1 := a_X4_become (D := D) (G := G) (h := h) (d := d - 1) (by omega) (56 + 4 * x5) 29 (h 29 1) (h 29 2) (hl0.tbi (p2 c1) (p3 c1)) (hl0.i 29 (by decide) rfl) rfl rfl (p4 c1) (p5 c1)
    refine z_goV (q := 138) (av := [(2, 29)]) (rest := []) cb3 (hl0.tbi (p2 c1) (p3 c1)) (z_tov) hl0 (z_Ev.K e1 (by omega) ?_) mo_X4_become np_X4_become k508 k509 k510 rfl (nle rfl) dX11_part_135 rfl
    have hl1 : lay G (z_cp (z_wr (z_wr h (56 + 4 * x5) 1 (h 29 1)) (56 + 4 * x5) 2 (h 29 2)) 30 0 ((56 + 4 * x5) + 1) 0 ((h 29 1) * (h 29 2))) := e1.lay hl0
    refine z_iload (q := 140) 6 dX11_part_138 rfl rfl ?_
    exact z_iret rfl dX11_part_140 ⟨hl1, u2 c1⟩
theorem b_X11_count_0 {D : zD} {d : Nat} {G : zG} {h : zH} {Q : zO → zG → zH → Prop} {x1 : Int} (p1 : z_in x1)
    (u1 : ¬ x1 = 0 → ¬ x1 = 1 → Q (.inl (some (0, (-1)))) G h)
    (u2 : ¬ x1 = 0 → ¬ (¬ x1 = 1) → z_Ki D M_X11_stepsOfAllWays d [(2, 0)] G h (fun r G' h' => z_Y D M_X11_count d 18 [] [(0, r)] G' h' Q))
    (u3 : ¬ (¬ x1 = 0) → Q (.inl (some (0, (h 0 3)))) G h) :
    z_Y D M_X11_count d 0 [(0, 2, 0), (1, 0, x1)] [] G h Q := by
  intro hl0
  refine z_iload_n (q := 1) 1 dX11_count_0 rfl rfl ?_
  refine z_if_ne (q := 4) (t := 9) p1 dX11_count_1 (by decide) rfl (fun c1 => ?_) (fun c1 => ?_)
  · refine z_iload_n (q := 10) 1 dX11_count_9 rfl rfl ?_
    refine z_iconst (q := 11) dX11_count_10 rfl ?_
    refine z_icmp_ne (q := 14) (t := 21) p1 ⟨by decide, by decide⟩ dX11_count_11 (by decide) rfl (fun c2 => ?_) (fun c2 => ?_)
    · refine z_iconst (q := 22) dX11_count_21 rfl ?_
      exact z_iret rfl dX11_count_22 ⟨hl0, u1 c1 c2⟩
    · refine z_aload_n (q := 15) 0 dX11_count_14 rfl rfl ?_
      refine z_sub (L' := []) [] rfl ?_
      exact z_goV (q := 18) (av := []) (rest := []) cb9 (hl0.i 0 (by decide) rfl) z_toi hl0 (u2 c1 c2) mo_X11_stepsOfAllWays np_X11_stepsOfAllWays k1087 k1089 k39 rfl (nle rfl) dX11_count_15 rfl
  · refine z_aload_n (q := 5) 0 dX11_count_4 rfl rfl ?_
    refine z_gf (q := 8) (ki := 3) (v := (0, (h 0 3))) fX11_25 rfl rfl (hl0.i 0 (by decide) rfl) dX11_count_5 rfl ?_
    exact z_iret rfl dX11_count_8 ⟨hl0, u3 c1⟩
theorem b_X11_count_18 {D : zD} {d : Nat} {G : zG} {h : zH} {Q : zO → zG → zH → Prop} {s0 : Int}
    (u1 : Q (.inl (some (0, s0))) G h) :
    z_Y D M_X11_count d 18 [] [(0, s0)] G h Q := by
  intro hl0
  refine z_goto (t := 22) dX11_count_18 (by decide) ?_
  exact z_iret rfl dX11_count_22 ⟨hl0, u1⟩
theorem b_X11_tapeInt_0 {D : zD} {d : Nat} {G : zG} {h : zH} {Q : zO → zG → zH → Prop} {x1 : Int}
    (u1 : z_Y D M_X11_tapeInt d 3 [(0, 2, 0), (1, 0, x1), (2, 0, 24)] [] G h Q) :
    z_Y D M_X11_tapeInt d 0 [(0, 2, 0), (1, 0, x1)] [] G h Q := by
  intro hl0
  refine z_bipush (q := 2) dX11_tapeInt_0 rfl (by decide) ?_
  refine z_istore_n (q := 3) (L' := [(0, 2, 0), (1, 0, x1), (2, 0, 24)]) dX11_tapeInt_2 rfl (by decide) rfl ?_
  exact u1 hl0
theorem b_X11_tapeInt_3 {D : zD} {d : Nat} {G : zG} {h : zH} {Q : zO → zG → zH → Prop} {x1 x2 : Int} (p1 : z_in x2) (p2 : ¬ (x2 < 0) → z_in (h 0 3)) (p3 : ¬ (x2 < 0) → ¬ (1000 ≤ (h 0 3)) → 0 ≤ (h 0 3)) (p4 : ¬ (x2 < 0) → ¬ (1000 ≤ (h 0 3)) → (h 0 3) < 1000)
    (u1 : x2 < 0 → Q (.inl none) G h)
    (u2 : ¬ (x2 < 0) → 1000 ≤ (h 0 3) → Q (.inl none) G h)
    (u3 : ¬ (x2 < 0) → ¬ (1000 ≤ (h 0 3)) → z_Y D M_X11_tapeInt d 3 [(0, 2, 0), (1, 0, x1), (2, 0, (x2 + (-8)))] [] G (z_wr (z_wr h 3 (h 0 3) (w8 (z_ishr x1 x2))) 0 3 ((h 0 3) + 1)) Q) :
    z_Y D M_X11_tapeInt d 3 [(0, 2, 0), (1, 0, x1), (2, 0, x2)] [] G h Q := by
  intro hl0
  refine z_iload_n (q := 4) 2 dX11_tapeInt_3 rfl rfl ?_
  refine z_if_lt (q := 7) (t := 46) p1 dX11_tapeInt_4 (by decide) rfl (fun c1 => ?_) (fun c1 => ?_)
  · exact z_vret rfl dX11_tapeInt_46 ⟨hl0, u1 c1⟩
  · refine z_aload_n (q := 8) 0 dX11_tapeInt_7 rfl rfl ?_
    refine z_gf (q := 11) (ki := 3) (v := (0, (h 0 3))) fX11_25 rfl rfl (hl0.i 0 (by decide) rfl) dX11_tapeInt_8 rfl ?_
    refine z_sipush (q := 14) dX11_tapeInt_11 rfl (by decide) ?_
    refine z_icmp_ge (q := 17) (t := 46) (p2 c1) ⟨by decide, by decide⟩ dX11_tapeInt_14 (by decide) rfl (fun c2 => ?_) (fun c2 => ?_)
    · exact z_vret rfl dX11_tapeInt_46 ⟨hl0, u2 c1 c2⟩
    · refine z_aload_n (q := 18) 0 dX11_tapeInt_17 rfl rfl ?_
      refine z_gf (q := 21) (ki := 2) (v := (2, 3)) fX11_21 rfl (z_ldr rfl (hl0.ref 2 rfl)) (hl0.i 0 (by decide) rfl) dX11_tapeInt_18 rfl ?_
      refine z_aload_n (q := 22) 0 dX11_tapeInt_21 rfl rfl ?_
      refine z_gf (q := 25) (ki := 3) (v := (0, (h 0 3))) fX11_25 rfl rfl (hl0.i 0 (by decide) rfl) dX11_tapeInt_22 rfl ?_
      refine z_iload_n (q := 26) 1 dX11_tapeInt_25 rfl rfl ?_
      refine z_iload_n (q := 27) 2 dX11_tapeInt_26 rfl rfl ?_
      refine z_r_ishr (q := 28) dX11_tapeInt_27 rfl ?_
      refine z_i2b (q := 29) dX11_tapeInt_28 rfl ?_
      refine z_bsn (q := 30) (hl0.i 3 (by decide) rfl) (hl0.n 3 (by decide) rfl) (p3 c1 c2) (p4 c1 c2) dX11_tapeInt_29 rfl ?_
      have hl1 := hl0.wr (v := (w8 (z_ishr x1 x2))) (hl0.i 3 (by decide) rfl) (i := (h 0 3)) rfl
      refine z_aload_n (q := 31) 0 dX11_tapeInt_30 rfl rfl ?_
      refine z_dup (q := 32) (by decide) dX11_tapeInt_31 rfl ?_
      refine z_gf (q := 35) (ki := 3) (v := (0, (h 0 3))) fX11_25 rfl (z_ldi rfl (w_na (by decide))) (hl1.i 0 (by decide) rfl) dX11_tapeInt_32 rfl ?_
      refine z_iconst (q := 36) dX11_tapeInt_35 rfl ?_
      refine z_iadd (q := 37) dX11_tapeInt_36 rfl ?_
      refine z_pf (q := 40) (ki := 3) fX11_25 rfl (z_sv0 rfl) (hl1.i 0 (by decide) rfl) dX11_tapeInt_37 rfl ?_
      have hl2 := hl1.wr (v := ((h 0 3) + 1)) (hl1.i 0 (by decide) rfl) (i := 3) (by decide)
      refine z_iinc (q := 43) (L' := [(0, 2, 0), (1, 0, x1), (2, 0, (x2 + (-8)))]) 2 dX11_tapeInt_40 rfl rfl (by decide) rfl ?_
      refine z_goto (t := 3) dX11_tapeInt_43 (by decide) ?_
      exact u3 c1 c2 hl2
theorem b_X11_stepsOfAllWays_0 {D : zD} {d : Nat} {G : zG} {h : zH} {Q : zO → zG → zH → Prop}
    (u1 : z_Y D M_X11_stepsOfAllWays d 4 [(0, 2, 0), (1, 0, 0), (2, 0, 0)] [] G h Q) :
    z_Y D M_X11_stepsOfAllWays d 0 [(0, 2, 0)] [] G h Q := by
  intro hl0
  refine z_iconst (q := 1) dX11_stepsOfAllWays_0 rfl ?_
  refine z_istore_n (q := 2) (L' := [(0, 2, 0), (1, 0, 0)]) dX11_stepsOfAllWays_1 rfl (by decide) rfl ?_
  refine z_iconst (q := 3) dX11_stepsOfAllWays_2 rfl ?_
  refine z_istore_n (q := 4) (L' := [(0, 2, 0), (1, 0, 0), (2, 0, 0)]) dX11_stepsOfAllWays_3 rfl (by decide) rfl ?_
  exact u1 hl0
theorem b_X11_stepsOfAllWays_4 {D : zD} {d : Nat} {G : zG} {h : zH} {Q : zO → zG → zH → Prop} {x1 x2 : Int} (p1 : z_in x2) (p2 : ¬ (8 ≤ x2) → 0 ≤ x2) (p3 : ¬ (8 ≤ x2) → x2 < 8)
    (u1 : 8 ≤ x2 → Q (.inl (some (0, x1))) G h)
    (u2 : ¬ (8 ≤ x2) → z_Y D M_X11_stepsOfAllWays d 4 [(0, 2, 0), (1, 0, (x1 + (h (58 + 4 * x2) 1))), (2, 0, (x2 + 1))] [] G h Q) :
    z_Y D M_X11_stepsOfAllWays d 4 [(0, 2, 0), (1, 0, x1), (2, 0, x2)] [] G h Q := by
  intro hl0
  refine z_iload_n (q := 5) 2 dX11_stepsOfAllWays_4 rfl rfl ?_
  refine z_bipush (q := 7) dX11_stepsOfAllWays_5 rfl (by decide) ?_
  refine z_icmp_ge (q := 10) (t := 28) p1 ⟨by decide, by decide⟩ dX11_stepsOfAllWays_7 (by decide) rfl (fun c1 => ?_) (fun c1 => ?_)
  · refine z_iload_n (q := 29) 1 dX11_stepsOfAllWays_28 rfl rfl ?_
    exact z_iret rfl dX11_stepsOfAllWays_29 ⟨hl0, u1 c1⟩
  · refine z_iload_n (q := 11) 1 dX11_stepsOfAllWays_10 rfl rfl ?_
    refine z_aload_n (q := 12) 0 dX11_stepsOfAllWays_11 rfl rfl ?_
    refine z_gf (q := 15) (ki := 1) (v := (2, 2)) fX11_17 rfl (z_ldr rfl (hl0.ref 1 rfl)) (hl0.i 0 (by decide) rfl) dX11_stepsOfAllWays_12 rfl ?_
    refine z_iload_n (q := 16) 2 dX11_stepsOfAllWays_15 rfl rfl ?_
    refine z_aale (q := 17) 55 (by decide) (by decide) (hl0.a 2 (by decide) rfl) (p2 c1) (p3 c1) (hl0.wy (p2 c1) (p3 c1)) dX11_stepsOfAllWays_16 rfl ?_
    refine z_gf (q := 20) (ki := 1) (v := (0, (h (58 + 4 * x2) 1))) fX11_125 rfl rfl (hl0.wyi (p2 c1) (p3 c1)) dX11_stepsOfAllWays_17 rfl ?_
    refine z_iadd (q := 21) dX11_stepsOfAllWays_20 rfl ?_
    refine z_istore_n (q := 22) (L' := [(0, 2, 0), (1, 0, (x1 + (h (58 + 4 * x2) 1))), (2, 0, x2)]) dX11_stepsOfAllWays_21 rfl (by decide) rfl ?_
    refine z_iinc (q := 25) (L' := [(0, 2, 0), (1, 0, (x1 + (h (58 + 4 * x2) 1))), (2, 0, (x2 + 1))]) 2 dX11_stepsOfAllWays_22 rfl rfl (by decide) rfl ?_
    refine z_goto (t := 4) dX11_stepsOfAllWays_25 (by decide) ?_
    exact u2 c1 hl0
theorem b_X11_listedTables_0 {D : zD} {d : Nat} {G : zG} {h : zH} {Q : zO → zG → zH → Prop} {x0 : Int}
    (u1 : z_Y D M_X11_listedTables d 4 [(0, 0, x0), (1, 0, 1), (2, 0, 0)] [] G h Q) :
    z_Y D M_X11_listedTables d 0 [(0, 0, x0)] [] G h Q := by
  intro hl0
  refine z_iconst (q := 1) dX11_listedTables_0 rfl ?_
  refine z_istore_n (q := 2) (L' := [(0, 0, x0), (1, 0, 1)]) dX11_listedTables_1 rfl (by decide) rfl ?_
  refine z_iconst (q := 3) dX11_listedTables_2 rfl ?_
  refine z_istore_n (q := 4) (L' := [(0, 0, x0), (1, 0, 1), (2, 0, 0)]) dX11_listedTables_3 rfl (by decide) rfl ?_
  exact u1 hl0
theorem b_X11_listedTables_4 {D : zD} {d : Nat} {G : zG} {h : zH} {Q : zO → zG → zH → Prop} {x0 x1 x2 : Int} (p1 : z_in x2) (p2 : z_in x0)
    (u1 : x0 ≤ x2 → Q (.inl (some (0, x1))) G h)
    (u2 : ¬ (x0 ≤ x2) → z_Y D M_X11_listedTables d 4 [(0, 0, x0), (1, 0, (x1 * 6)), (2, 0, (x2 + 1))] [] G h Q) :
    z_Y D M_X11_listedTables d 4 [(0, 0, x0), (1, 0, x1), (2, 0, x2)] [] G h Q := by
  intro hl0
  refine z_iload_n (q := 5) 2 dX11_listedTables_4 rfl rfl ?_
  refine z_iload_n (q := 6) 0 dX11_listedTables_5 rfl rfl ?_
  refine z_icmp_ge (q := 9) (t := 20) p1 p2 dX11_listedTables_6 (by decide) rfl (fun c1 => ?_) (fun c1 => ?_)
  · refine z_iload_n (q := 21) 1 dX11_listedTables_20 rfl rfl ?_
    exact z_iret rfl dX11_listedTables_21 ⟨hl0, u1 c1⟩
  · refine z_iload_n (q := 10) 1 dX11_listedTables_9 rfl rfl ?_
    refine z_bipush (q := 12) dX11_listedTables_10 rfl (by decide) ?_
    refine z_imul (q := 13) dX11_listedTables_12 rfl ?_
    refine z_istore_n (q := 14) (L' := [(0, 0, x0), (1, 0, (x1 * 6)), (2, 0, x2)]) dX11_listedTables_13 rfl (by decide) rfl ?_
    refine z_iinc (q := 17) (L' := [(0, 0, x0), (1, 0, (x1 * 6)), (2, 0, (x2 + 1))]) 2 dX11_listedTables_14 rfl rfl (by decide) rfl ?_
    refine z_goto (t := 4) dX11_listedTables_17 (by decide) ?_
    exact u2 c1 hl0
theorem b_X11_writeListed_0 {D : zD} {d : Nat} {G : zG} {h : zH} {Q : zO → zG → zH → Prop} {x1 x2 x3 : Int} (hd : 2 ≤ d) (p1 : z_in x1) (p2 : z_in x2)
    (u1 : (1 ≤ x1 ∧ x1 ≤ 12) ∧ 1 ≤ x2 ∧ x2 ≤ 6 → z_Y D M_X11_writeListed d 18 [(0, 2, 0), (2, 0, x2), (4, 0, x3), (5, 0, (x1 - 1))] [] G (z_wr (z_wr h 29 1 x1) 29 2 x2) Q)
    (u2 : ¬ ((1 ≤ x1 ∧ x1 ≤ 12) ∧ 1 ≤ x2 ∧ x2 ≤ 6) → z_Y D M_X11_writeListed d 18 [(0, 2, 0), (2, 0, x2), (4, 0, x3), (5, 0, (x1 - 1))] [] G h Q) :
    z_Y D M_X11_writeListed d 0 [(0, 2, 0), (1, 0, x1), (2, 0, x2), (3, 0, x3)] [] G h Q := by
  intro hl0
  refine z_aload_n (q := 1) 0 dX11_writeListed_0 rfl rfl ?_
  refine z_gf (q := 4) (ki := 11) (v := (2, 29)) fX11_69 rfl (z_ldr rfl (hl0.ref 27 rfl)) (hl0.i 0 (by decide) rfl) dX11_writeListed_1 rfl ?_
  refine z_iload_n (q := 5) 1 dX11_writeListed_4 rfl rfl ?_
  refine z_iload_n (q := 6) 2 dX11_writeListed_5 rfl rfl ?_
  by_cases c1 : (1 ≤ x1 ∧ x1 ≤ 12) ∧ 1 ≤ x2 ∧ x2 ≤ 6
  · have e1 := a_X4_shape1 (D := D) (G := G) (h := h) (d := d - 1) (by omega) 29 x1 x2 (hl0.i 29 (by decide) rfl) p1 p2 c1
    refine z_goV (q := 9) (av := [(0, x1), (0, x2)]) (rest := []) cb3 (hl0.i 29 (by decide) rfl) (z_toi) hl0 (z_Ei.K e1 (by omega) ?_) mo_X4_shape np_X4_shape k1071 k505 k506 rfl (nle rfl) dX11_writeListed_6 rfl
    have hl1 : lay G (z_wr (z_wr h 29 1 x1) 29 2 x2) := e1.lay hl0
    refine z_pop (q := 10) (by decide) dX11_writeListed_9 rfl ?_
    refine z_iload_n (q := 11) 3 dX11_writeListed_10 rfl rfl ?_
    refine z_istore (q := 13) (L' := [(0, 2, 0), (1, 0, x1), (2, 0, x2), (3, 0, x3), (4, 0, x3)]) dX11_writeListed_11 rfl (by decide) rfl ?_
    refine z_iload_n (q := 14) 1 dX11_writeListed_13 rfl rfl ?_
    refine z_iconst (q := 15) dX11_writeListed_14 rfl ?_
    refine z_isub (q := 16) dX11_writeListed_15 rfl ?_
    refine z_istore (q := 18) (L' := [(0, 2, 0), (1, 0, x1), (2, 0, x2), (3, 0, x3), (4, 0, x3), (5, 0, (x1 - 1))]) dX11_writeListed_16 rfl (by decide) rfl ?_
    refine z_sub (L' := [(0, 2, 0), (2, 0, x2), (4, 0, x3), (5, 0, (x1 - 1))]) [0, 2, 4, 5] rfl ?_
    exact u1 c1 hl1
  · have e2 := a_X4_shape0 (D := D) (G := G) (h := h) (d := d - 1) (by omega) 29 x1 x2 (hl0.i 29 (by decide) rfl) p1 p2 c1
    refine z_goV (q := 9) (av := [(0, x1), (0, x2)]) (rest := []) cb3 (hl0.i 29 (by decide) rfl) (z_toi) hl0 (z_Ei.K e2 (by omega) ?_) mo_X4_shape np_X4_shape k1071 k505 k506 rfl (nle rfl) dX11_writeListed_6 rfl
    refine z_pop (q := 10) (by decide) dX11_writeListed_9 rfl ?_
    refine z_iload_n (q := 11) 3 dX11_writeListed_10 rfl rfl ?_
    refine z_istore (q := 13) (L' := [(0, 2, 0), (1, 0, x1), (2, 0, x2), (3, 0, x3), (4, 0, x3)]) dX11_writeListed_11 rfl (by decide) rfl ?_
    refine z_iload_n (q := 14) 1 dX11_writeListed_13 rfl rfl ?_
    refine z_iconst (q := 15) dX11_writeListed_14 rfl ?_
    refine z_isub (q := 16) dX11_writeListed_15 rfl ?_
    refine z_istore (q := 18) (L' := [(0, 2, 0), (1, 0, x1), (2, 0, x2), (3, 0, x3), (4, 0, x3), (5, 0, (x1 - 1))]) dX11_writeListed_16 rfl (by decide) rfl ?_
    refine z_sub (L' := [(0, 2, 0), (2, 0, x2), (4, 0, x3), (5, 0, (x1 - 1))]) [0, 2, 4, 5] rfl ?_
    exact u2 c1 hl0
theorem b_X11_writeListed_18 {D : zD} {d : Nat} {G : zG} {h : zH} {Q : zO → zG → zH → Prop} {x2 x4 x5 : Int} (p1 : z_in x5)
    (u1 : x5 < 0 → Q (.inl none) G h)
    (u2 : ¬ (x5 < 0) → z_Y D M_X11_writeListed d 28 [(0, 2, 0), (2, 0, x2), (4, 0, x4), (5, 0, x5), (6, 0, (x2 - 1))] [] G h Q) :
    z_Y D M_X11_writeListed d 18 [(0, 2, 0), (2, 0, x2), (4, 0, x4), (5, 0, x5)] [] G h Q := by
  intro hl0
  refine z_iload (q := 20) 3 dX11_writeListed_18 rfl rfl ?_
  refine z_if_lt (q := 23) (t := 72) p1 dX11_writeListed_20 (by decide) rfl (fun c1 => ?_) (fun c1 => ?_)
  · exact z_vret rfl dX11_writeListed_72 ⟨hl0, u1 c1⟩
  · refine z_iload_n (q := 24) 1 dX11_writeListed_23 rfl rfl ?_
    refine z_iconst (q := 25) dX11_writeListed_24 rfl ?_
    refine z_isub (q := 26) dX11_writeListed_25 rfl ?_
    refine z_istore (q := 28) (L' := [(0, 2, 0), (2, 0, x2), (4, 0, x4), (5, 0, x5), (6, 0, (x2 - 1))]) dX11_writeListed_26 rfl (by decide) rfl ?_
    exact u2 c1 hl0
theorem b_X11_writeListed_28 {D : zD} {d : Nat} {G : zG} {h : zH} {Q : zO → zG → zH → Prop} {x2 x4 x5 x6 : Int} (hd : 2 ≤ d) (p1 : z_in x6) (p2 : ¬ (x6 < 0) → 0 ≤ (z_irem x4 6)) (p3 : ¬ (x6 < 0) → (z_irem x4 6) < 6) (p4 : ¬ (x6 < 0) → 0 ≤ (x5 * (h 29 2) + x6)) (p5 : ¬ (x6 < 0) → (x5 * (h 29 2) + x6) < 72)
    (u1 : x6 < 0 → z_Y D M_X11_writeListed d 18 [(0, 2, 0), (2, 0, x2), (4, 0, x4), (5, 0, (x5 + (-1)))] [] G h Q)
    (u2 : ¬ (x6 < 0) → z_Y D M_X11_writeListed d 28 [(0, 2, 0), (2, 0, x2), (4, 0, (z_idiv x4 6)), (5, 0, x5), (6, 0, (x6 + (-1)))] [] G (z_wr h 30 (x5 * (h 29 2) + x6) ((z_list [0, 97, 98, 6368610, 49, 50]) (z_irem x4 6))) Q) :
    z_Y D M_X11_writeListed d 28 [(0, 2, 0), (2, 0, x2), (4, 0, x4), (5, 0, x5), (6, 0, x6)] [] G h Q := by
  intro hl0
  refine z_iload (q := 30) 4 dX11_writeListed_28 rfl rfl ?_
  refine z_if_lt (q := 33) (t := 66) p1 dX11_writeListed_30 (by decide) rfl (fun c1 => ?_) (fun c1 => ?_)
  · refine z_iinc (q := 69) (L' := [(0, 2, 0), (2, 0, x2), (4, 0, x4), (5, 0, (x5 + (-1))), (6, 0, x6)]) 3 dX11_writeListed_66 rfl rfl (by decide) rfl ?_
    refine z_goto (t := 18) dX11_writeListed_69 (by decide) ?_
    refine z_sub (L' := [(0, 2, 0), (2, 0, x2), (4, 0, x4), (5, 0, (x5 + (-1)))]) [0, 1, 2, 3] rfl ?_
    exact u1 c1 hl0
  · refine z_aload_n (q := 34) 0 dX11_writeListed_33 rfl rfl ?_
    refine z_gf (q := 37) (ki := 11) (v := (2, 29)) fX11_69 rfl (z_ldr rfl (hl0.ref 27 rfl)) (hl0.i 0 (by decide) rfl) dX11_writeListed_34 rfl ?_
    refine z_iload (q := 39) 3 dX11_writeListed_37 rfl rfl ?_
    refine z_iload (q := 41) 4 dX11_writeListed_39 rfl rfl ?_
    refine z_gets (q := 44) (c := 4) (by decide) (by decide) k1072 dX11_writeListed_41 rfl ?_
    refine z_iload (q := 46) 2 dX11_writeListed_44 rfl rfl ?_
    refine z_bipush (q := 48) dX11_writeListed_46 rfl (by decide) ?_
    refine z_r_irem (q := 49) (by decide) dX11_writeListed_48 rfl ?_
    refine z_lale (q := 50) (v := ((z_list [0, 97, 98, 6368610, 49, 50]) (z_irem x4 6))) z_c4 (p2 c1) (p3 c1) rfl dX11_writeListed_49 rfl ?_
    have e1 := a_X4_put (D := D) (G := G) (h := h) (d := d - 1) (by omega) 29 x5 x6 ((z_list [0, 97, 98, 6368610, 49, 50]) (z_irem x4 6)) (h 29 2) (hl0.i 29 (by decide) rfl) rfl (p4 c1) (p5 c1)
    refine z_goV (q := 53) (av := [(0, x5), (0, x6), (1, ((z_list [0, 97, 98, 6368610, 49, 50]) (z_irem x4 6)))]) (rest := []) cb3 (hl0.i 29 (by decide) rfl) (z_tov) hl0 (z_Ev.K e1 (by omega) ?_) mo_X4_put np_X4_put k1074 k745 k746 rfl (nle rfl) dX11_writeListed_50 rfl
    have hl1 : lay G (z_wr h 30 (x5 * (h 29 2) + x6) ((z_list [0, 97, 98, 6368610, 49, 50]) (z_irem x4 6))) := e1.lay hl0
    refine z_iload (q := 55) 2 dX11_writeListed_53 rfl rfl ?_
    refine z_bipush (q := 57) dX11_writeListed_55 rfl (by decide) ?_
    refine z_r_idiv (q := 58) (by decide) dX11_writeListed_57 rfl ?_
    refine z_istore (q := 60) (L' := [(0, 2, 0), (2, 0, x2), (4, 0, (z_idiv x4 6)), (5, 0, x5), (6, 0, x6)]) dX11_writeListed_58 rfl (by decide) rfl ?_
    refine z_iinc (q := 63) (L' := [(0, 2, 0), (2, 0, x2), (4, 0, (z_idiv x4 6)), (5, 0, x5), (6, 0, (x6 + (-1)))]) 4 dX11_writeListed_60 rfl rfl (by decide) rfl ?_
    refine z_goto (t := 28) dX11_writeListed_63 (by decide) ?_
    exact u2 c1 hl1
theorem b_X11_partOnSpare_0 {D : zD} {d : Nat} {G : zG} {h : zH} {Q : zO → zG → zH → Prop} {x1 x2 : Int}
    (u1 : z_Ki D M_X8_go d [(2, 19), (2, x1), (2, 29)] G h (fun r G' h' => z_Y D M_X11_partOnSpare d 12 [(0, 2, 0), (2, 2, x2)] [(0, r)] G' h' Q)) :
    z_Y D M_X11_partOnSpare d 0 [(0, 2, 0), (1, 2, x1), (2, 2, x2)] [] G h Q := by
  intro hl0
  refine z_aload_n (q := 1) 0 dX11_partOnSpare_0 rfl rfl ?_
  refine z_gf (q := 4) (ki := 9) (v := (2, 19)) fX11_61 rfl (z_ldr rfl (hl0.ref 21 rfl)) (hl0.i 0 (by decide) rfl) dX11_partOnSpare_1 rfl ?_
  refine z_aload_n (q := 5) 1 dX11_partOnSpare_4 rfl rfl ?_
  refine z_aload_n (q := 6) 0 dX11_partOnSpare_5 rfl rfl ?_
  refine z_gf (q := 9) (ki := 11) (v := (2, 29)) fX11_69 rfl (z_ldr rfl (hl0.ref 27 rfl)) (hl0.i 0 (by decide) rfl) dX11_partOnSpare_6 rfl ?_
  refine z_sub (L' := [(0, 2, 0), (2, 2, x2)]) [0, 2] rfl ?_
  exact z_goV (q := 12) (av := [(2, x1), (2, 29)]) (rest := []) cb6 (hl0.i 19 (by decide) rfl) z_toi hl0 (u1) mo_X8_go np_X8_go k848 k849 k850 rfl (nle rfl) dX11_partOnSpare_9 rfl
theorem b_X11_partOnSpare_12 {D : zD} {d : Nat} {G : zG} {h : zH} {Q : zO → zG → zH → Prop} {s0 x2 : Int} (p1 : z_in s0)
    (u1 : s0 = (-1) → z_Y D M_X11_partOnSpare d 21 [(0, 2, 0), (2, 2, x2)] [(0, 0)] G h Q)
    (u2 : ¬ (s0 = (-1)) → z_Y D M_X11_partOnSpare d 21 [(0, 2, 0), (2, 2, x2)] [(0, 1)] G h Q) :
    z_Y D M_X11_partOnSpare d 12 [(0, 2, 0), (2, 2, x2)] [(0, s0)] G h Q := by
  intro hl0
  refine z_iconst (q := 13) dX11_partOnSpare_12 rfl ?_
  refine z_icmp_eq (q := 16) (t := 20) p1 ⟨by decide, by decide⟩ dX11_partOnSpare_13 (by decide) rfl (fun c1 => ?_) (fun c1 => ?_)
  · refine z_iconst (q := 21) dX11_partOnSpare_20 rfl ?_
    exact u1 c1 hl0
  · refine z_iconst (q := 17) dX11_partOnSpare_16 rfl ?_
    refine z_goto (t := 21) dX11_partOnSpare_17 (by decide) ?_
    exact u2 c1 hl0
theorem b_X11_partOnSpare_21 {D : zD} {d : Nat} {G : zG} {h : zH} {Q : zO → zG → zH → Prop} {s0 x2 : Int}
    (u1 : z_Ki D M_X8_go d [(2, 24), (2, x2), (2, 29)] G h (fun r G' h' => z_Y D M_X11_partOnSpare d 34 [(0, 2, 0), (3, 0, s0)] [(0, r)] G' h' Q)) :
    z_Y D M_X11_partOnSpare d 21 [(0, 2, 0), (2, 2, x2)] [(0, s0)] G h Q := by
  intro hl0
  refine z_istore_n (q := 22) (L' := [(0, 2, 0), (2, 2, x2), (3, 0, s0)]) dX11_partOnSpare_21 rfl (by decide) rfl ?_
  refine z_aload_n (q := 23) 0 dX11_partOnSpare_22 rfl rfl ?_
  refine z_gf (q := 26) (ki := 10) (v := (2, 24)) fX11_65 rfl (z_ldr rfl (hl0.ref 25 rfl)) (hl0.i 0 (by decide) rfl) dX11_partOnSpare_23 rfl ?_
  refine z_aload_n (q := 27) 1 dX11_partOnSpare_26 rfl rfl ?_
  refine z_aload_n (q := 28) 0 dX11_partOnSpare_27 rfl rfl ?_
  refine z_gf (q := 31) (ki := 11) (v := (2, 29)) fX11_69 rfl (z_ldr rfl (hl0.ref 27 rfl)) (hl0.i 0 (by decide) rfl) dX11_partOnSpare_28 rfl ?_
  refine z_sub (L' := [(0, 2, 0), (3, 0, s0)]) [0, 2] rfl ?_
  exact z_goV (q := 34) (av := [(2, x2), (2, 29)]) (rest := []) cb6 (hl0.i 24 (by decide) rfl) z_toi hl0 (u1) mo_X8_go np_X8_go k848 k849 k850 rfl (nle rfl) dX11_partOnSpare_31 rfl
theorem b_X11_partOnSpare_34 {D : zD} {d : Nat} {G : zG} {h : zH} {Q : zO → zG → zH → Prop} {s0 x3 : Int} (p1 : z_in s0)
    (u1 : s0 = (-1) → z_Y D M_X11_partOnSpare d 43 [(0, 2, 0), (3, 0, x3)] [(0, 0)] G h Q)
    (u2 : ¬ (s0 = (-1)) → z_Y D M_X11_partOnSpare d 43 [(0, 2, 0), (3, 0, x3)] [(0, 1)] G h Q) :
    z_Y D M_X11_partOnSpare d 34 [(0, 2, 0), (3, 0, x3)] [(0, s0)] G h Q := by
  intro hl0
  refine z_iconst (q := 35) dX11_partOnSpare_34 rfl ?_
  refine z_icmp_eq (q := 38) (t := 42) p1 ⟨by decide, by decide⟩ dX11_partOnSpare_35 (by decide) rfl (fun c1 => ?_) (fun c1 => ?_)
  · refine z_iconst (q := 43) dX11_partOnSpare_42 rfl ?_
    exact u1 c1 hl0
  · refine z_iconst (q := 39) dX11_partOnSpare_38 rfl ?_
    refine z_goto (t := 43) dX11_partOnSpare_39 (by decide) ?_
    exact u2 c1 hl0
theorem b_X11_partOnSpare_43 {D : zD} {d : Nat} {G : zG} {h : zH} {Q : zO → zG → zH → Prop} {s0 x3 : Int} (hd : 2 ≤ d) (p1 : z_in x3) (p2 : ¬ (¬ x3 = 0) → z_in s0) (p3 : ¬ (¬ x3 = 0) → s0 = 0 → z_is G (h 19 2) 3) (p4 : ¬ (¬ x3 = 0) → s0 = 0 → z_is G (h 24 2) 3) (p5 : ¬ (¬ x3 = 0) → s0 = 0 → okS h (h 19 2)) (p6 : ¬ (¬ x3 = 0) → s0 = 0 → okS h (h 24 2)) (p7 : ¬ (¬ x3 = 0) → s0 = 0 → okC h (h 19 2)) (p8 : ¬ (¬ x3 = 0) → s0 = 0 → okC h (h 24 2))
    (u1 : ¬ x3 = 0 → z_Y D M_X11_partOnSpare d 54 [(3, 0, x3), (4, 0, s0)] [] G h Q)
    (u2 : ¬ (¬ x3 = 0) → s0 = 0 → (h (h 19 2) 1 = h (h 24 2) 1 ∧ h (h 19 2) 2 = h (h 24 2) 2 ∧ ∀ i : Int, 0 ≤ i → i < h (h 19 2) 1 * h (h 19 2) 2 → h ((h 19 2) + 1) i = h ((h 24 2) + 1) i) → Q (.inl (some (0, 0))) G h)
    (u3 : ¬ (¬ x3 = 0) → s0 = 0 → ¬ ((h (h 19 2) 1 = h (h 24 2) 1 ∧ h (h 19 2) 2 = h (h 24 2) 2 ∧ ∀ i : Int, 0 ≤ i → i < h (h 19 2) 1 * h (h 19 2) 2 → h ((h 19 2) + 1) i = h ((h 24 2) + 1) i)) → Q (.inl (some (0, 1))) G h)
    (u4 : ¬ (¬ x3 = 0) → ¬ (s0 = 0) → z_Y D M_X11_partOnSpare d 54 [(3, 0, x3), (4, 0, s0)] [] G h Q) :
    z_Y D M_X11_partOnSpare d 43 [(0, 2, 0), (3, 0, x3)] [(0, s0)] G h Q := by
  intro hl0
  refine z_istore (q := 45) (L' := [(0, 2, 0), (3, 0, x3), (4, 0, s0)]) dX11_partOnSpare_43 rfl (by decide) rfl ?_
  refine z_iload_n (q := 46) 1 dX11_partOnSpare_45 rfl rfl ?_
  refine z_if_ne (q := 49) (t := 54) p1 dX11_partOnSpare_46 (by decide) rfl (fun c1 => ?_) (fun c1 => ?_)
  · refine z_sub (L' := [(3, 0, x3), (4, 0, s0)]) [1, 2] rfl ?_
    exact u1 c1 hl0
  · refine z_iload (q := 51) 2 dX11_partOnSpare_49 rfl rfl ?_
    refine z_if_eq (q := 54) (t := 66) (p2 c1) dX11_partOnSpare_51 (by decide) rfl (fun c2 => ?_) (fun c2 => ?_)
    · refine z_aload_n (q := 67) 0 dX11_partOnSpare_66 rfl rfl ?_
      refine z_gf (q := 70) (ki := 9) (v := (2, 19)) fX11_61 rfl (z_ldr rfl (hl0.ref 21 rfl)) (hl0.i 0 (by decide) rfl) dX11_partOnSpare_67 rfl ?_
      refine z_gf (q := 73) (ki := 2) (v := (2, (h 19 2))) fX11_162 rfl rfl (hl0.i 19 (by decide) rfl) dX11_partOnSpare_70 rfl ?_
      refine z_aload_n (q := 74) 0 dX11_partOnSpare_73 rfl rfl ?_
      refine z_gf (q := 77) (ki := 10) (v := (2, 24)) fX11_65 rfl (z_ldr rfl (hl0.ref 25 rfl)) (hl0.i 0 (by decide) rfl) dX11_partOnSpare_74 rfl ?_
      refine z_gf (q := 80) (ki := 2) (v := (2, (h 24 2))) fX11_162 rfl rfl (hl0.i 24 (by decide) rfl) dX11_partOnSpare_77 rfl ?_
      have e1 := a_X4_isSame (D := D) (G := G) (h := h) (d := d - 1) (by omega) (h 19 2) (h 24 2) (p3 c1 c2) (p4 c1 c2) (p5 c1 c2) (p6 c1 c2) (p7 c1 c2) (p8 c1 c2)
      refine z_goV (q := 83) (av := [(2, (h 24 2))]) (rest := []) cb3 (p3 c1 c2) (z_toi) hl0 (z_Ei.K e1 (by omega) ?_) mo_X4_isSame np_X4_isSame k1079 k1080 k1081 rfl (nle rfl) dX11_partOnSpare_80 rfl
      by_cases c3 : (h (h 19 2) 1 = h (h 24 2) 1 ∧ h (h 19 2) 2 = h (h 24 2) 2 ∧ ∀ i : Int, 0 ≤ i → i < h (h 19 2) 1 * h (h 19 2) 2 → h ((h 19 2) + 1) i = h ((h 24 2) + 1) i)
      · rw [z_b1 c3]
        refine z_if_ne (q := 86) (t := 90) ⟨by decide, by decide⟩ dX11_partOnSpare_83 (by decide) rfl (fun _ => ?_) (fun c => absurd c (by decide))
        refine z_iconst (q := 91) dX11_partOnSpare_90 rfl ?_
        exact z_bret rfl (by decide) dX11_partOnSpare_91 ⟨hl0, u2 c1 c2 c3⟩
      · rw [z_b0 c3]
        refine z_if_ne (q := 86) (t := 90) ⟨by decide, by decide⟩ dX11_partOnSpare_83 (by decide) rfl (fun c => absurd c (by decide)) (fun _ => ?_)
        refine z_iconst (q := 87) dX11_partOnSpare_86 rfl ?_
        refine z_goto (t := 91) dX11_partOnSpare_87 (by decide) ?_
        exact z_bret rfl (by decide) dX11_partOnSpare_91 ⟨hl0, u3 c1 c2 c3⟩
    · refine z_sub (L' := [(3, 0, x3), (4, 0, s0)]) [1, 2] rfl ?_
      exact u4 c1 c2 hl0
theorem b_X11_partOnSpare_54 {D : zD} {d : Nat} {G : zG} {h : zH} {Q : zO → zG → zH → Prop} {x3 x4 : Int} (p1 : z_in x3) (p2 : z_in x4)
    (u1 : x3 = x4 → Q (.inl (some (0, 0))) G h)
    (u2 : ¬ (x3 = x4) → Q (.inl (some (0, 1))) G h) :
    z_Y D M_X11_partOnSpare d 54 [(3, 0, x3), (4, 0, x4)] [] G h Q := by
  intro hl0
  refine z_iload_n (q := 55) 0 dX11_partOnSpare_54 rfl rfl ?_
  refine z_iload (q := 57) 1 dX11_partOnSpare_55 rfl rfl ?_
  refine z_icmp_eq (q := 60) (t := 64) p1 p2 dX11_partOnSpare_57 (by decide) rfl (fun c1 => ?_) (fun c1 => ?_)
  · refine z_iconst (q := 65) dX11_partOnSpare_64 rfl ?_
    exact z_bret rfl (by decide) dX11_partOnSpare_65 ⟨hl0, u1 c1⟩
  · refine z_iconst (q := 61) dX11_partOnSpare_60 rfl ?_
    refine z_goto (t := 65) dX11_partOnSpare_61 (by decide) ?_
    exact z_bret rfl (by decide) dX11_partOnSpare_65 ⟨hl0, u2 c1⟩
theorem b_X13_feed_0 {D : zD} {d : Nat} {G : zG} {h : zH} {Q : zO → zG → zH → Prop} {x1 x2 x3 x4 x5 : Int} (p1 : z_in ((h 88 14) + 20))
    (u1 : ((h 88 14) + 20) ≤ 1000 → z_Kv D M_X13_lay d [(2, 88), (0, x1)] G h (fun G' h' => z_Y D M_X13_feed d 21 [(0, 2, 88), (2, 0, x2), (3, 0, x3), (4, 0, x4), (5, 0, x5)] [] G' h' Q))
    (u2 : ¬ (((h 88 14) + 20) ≤ 1000) → Q (.inl (some (0, (-3)))) G h) :
    z_Y D M_X13_feed d 0 [(0, 2, 88), (1, 0, x1), (2, 0, x2), (3, 0, x3), (4, 0, x4), (5, 0, x5)] [] G h Q := by
  intro hl0
  refine z_aload_n (q := 1) 0 dX13_feed_0 rfl rfl ?_
  refine z_gf (q := 4) (ki := 14) (v := (0, (h 88 14))) fX13_239 rfl rfl (hl0.i 88 (by decide) rfl) dX13_feed_1 rfl ?_
  refine z_bipush (q := 6) dX13_feed_4 rfl (by decide) ?_
  refine z_iadd (q := 7) dX13_feed_6 rfl ?_
  refine z_sipush (q := 10) dX13_feed_7 rfl (by decide) ?_
  refine z_icmp_le (q := 13) (t := 16) p1 ⟨by decide, by decide⟩ dX13_feed_10 (by decide) rfl (fun c1 => ?_) (fun c1 => ?_)
  · refine z_aload_n (q := 17) 0 dX13_feed_16 rfl rfl ?_
    refine z_iload_n (q := 18) 1 dX13_feed_17 rfl rfl ?_
    refine z_sub (L' := [(0, 2, 88), (2, 0, x2), (3, 0, x3), (4, 0, x4), (5, 0, x5)]) [0, 2, 3, 4, 5] rfl ?_
    exact z_goV (q := 21) (av := [(0, x1)]) (rest := []) cb11 (hl0.i 88 (by decide) rfl) z_tov hl0 (u1 c1) mo_X13_lay np_X13_lay k1292 k1294 k41 rfl (nle rfl) dX13_feed_18 rfl
  · refine z_bipush (q := 15) dX13_feed_13 rfl (by decide) ?_
    exact z_iret rfl dX13_feed_15 ⟨hl0, u2 c1⟩
theorem b_X13_feed_21 {D : zD} {d : Nat} {G : zG} {h : zH} {Q : zO → zG → zH → Prop} {x2 x3 x4 x5 : Int}
    (u1 : z_Kv D M_X13_lay d [(2, 88), (0, x2)] G h (fun G' h' => z_Y D M_X13_feed d 26 [(0, 2, 88), (3, 0, x3), (4, 0, x4), (5, 0, x5)] [] G' h' Q)) :
    z_Y D M_X13_feed d 21 [(0, 2, 88), (2, 0, x2), (3, 0, x3), (4, 0, x4), (5, 0, x5)] [] G h Q := by
  intro hl0
  refine z_aload_n (q := 22) 0 dX13_feed_21 rfl rfl ?_
  refine z_iload_n (q := 23) 1 dX13_feed_22 rfl rfl ?_
  refine z_sub (L' := [(0, 2, 88), (3, 0, x3), (4, 0, x4), (5, 0, x5)]) [0, 2, 3, 4] rfl ?_
  exact z_goV (q := 26) (av := [(0, x2)]) (rest := []) cb11 (hl0.i 88 (by decide) rfl) z_tov hl0 (u1) mo_X13_lay np_X13_lay k1292 k1294 k41 rfl (nle rfl) dX13_feed_23 rfl
theorem b_X13_feed_26 {D : zD} {d : Nat} {G : zG} {h : zH} {Q : zO → zG → zH → Prop} {x3 x4 x5 : Int}
    (u1 : z_Kv D M_X13_lay d [(2, 88), (0, x3)] G h (fun G' h' => z_Y D M_X13_feed d 31 [(0, 2, 88), (4, 0, x4), (5, 0, x5)] [] G' h' Q)) :
    z_Y D M_X13_feed d 26 [(0, 2, 88), (3, 0, x3), (4, 0, x4), (5, 0, x5)] [] G h Q := by
  intro hl0
  refine z_aload_n (q := 27) 0 dX13_feed_26 rfl rfl ?_
  refine z_iload_n (q := 28) 1 dX13_feed_27 rfl rfl ?_
  refine z_sub (L' := [(0, 2, 88), (4, 0, x4), (5, 0, x5)]) [0, 2, 3] rfl ?_
  exact z_goV (q := 31) (av := [(0, x3)]) (rest := []) cb11 (hl0.i 88 (by decide) rfl) z_tov hl0 (u1) mo_X13_lay np_X13_lay k1292 k1294 k41 rfl (nle rfl) dX13_feed_28 rfl
theorem b_X13_feed_31 {D : zD} {d : Nat} {G : zG} {h : zH} {Q : zO → zG → zH → Prop} {x4 x5 : Int}
    (u1 : z_Kv D M_X13_lay d [(2, 88), (0, x4)] G h (fun G' h' => z_Y D M_X13_feed d 37 [(0, 2, 88), (5, 0, x5)] [] G' h' Q)) :
    z_Y D M_X13_feed d 31 [(0, 2, 88), (4, 0, x4), (5, 0, x5)] [] G h Q := by
  intro hl0
  refine z_aload_n (q := 32) 0 dX13_feed_31 rfl rfl ?_
  refine z_iload (q := 34) 1 dX13_feed_32 rfl rfl ?_
  refine z_sub (L' := [(0, 2, 88), (5, 0, x5)]) [0, 2] rfl ?_
  exact z_goV (q := 37) (av := [(0, x4)]) (rest := []) cb11 (hl0.i 88 (by decide) rfl) z_tov hl0 (u1) mo_X13_lay np_X13_lay k1292 k1294 k41 rfl (nle rfl) dX13_feed_34 rfl
theorem b_X13_feed_37 {D : zD} {d : Nat} {G : zG} {h : zH} {Q : zO → zG → zH → Prop} {x5 : Int}
    (u1 : z_Kv D M_X13_lay d [(2, 88), (0, x5)] G h (fun G' h' => z_Y D M_X13_feed d 43 [(0, 2, 88)] [] G' h' Q)) :
    z_Y D M_X13_feed d 37 [(0, 2, 88), (5, 0, x5)] [] G h Q := by
  intro hl0
  refine z_aload_n (q := 38) 0 dX13_feed_37 rfl rfl ?_
  refine z_iload (q := 40) 1 dX13_feed_38 rfl rfl ?_
  refine z_sub (L' := [(0, 2, 88)]) [0] rfl ?_
  exact z_goV (q := 43) (av := [(0, x5)]) (rest := []) cb11 (hl0.i 88 (by decide) rfl) z_tov hl0 (u1) mo_X13_lay np_X13_lay k1292 k1294 k41 rfl (nle rfl) dX13_feed_40 rfl
theorem b_X13_feed_43 {D : zD} {d : Nat} {G : zG} {h : zH} {Q : zO → zG → zH → Prop}
    (u1 : Q (.inl (some (0, (h 88 14)))) G h) :
    z_Y D M_X13_feed d 43 [(0, 2, 88)] [] G h Q := by
  intro hl0
  refine z_aload_n (q := 44) 0 dX13_feed_43 rfl rfl ?_
  refine z_gf (q := 47) (ki := 14) (v := (0, (h 88 14))) fX13_239 rfl rfl (hl0.i 88 (by decide) rfl) dX13_feed_44 rfl ?_
  exact z_iret rfl dX13_feed_47 ⟨hl0, u1⟩
theorem b_X13_lay_0 {D : zD} {d : Nat} {G : zG} {h : zH} {Q : zO → zG → zH → Prop} {x1 : Int}
    (u1 : z_Y D M_X13_lay d 3 [(0, 2, 88), (1, 0, x1), (2, 0, 24)] [] G h Q) :
    z_Y D M_X13_lay d 0 [(0, 2, 88), (1, 0, x1)] [] G h Q := by
  intro hl0
  refine z_bipush (q := 2) dX13_lay_0 rfl (by decide) ?_
  refine z_istore_n (q := 3) (L' := [(0, 2, 88), (1, 0, x1), (2, 0, 24)]) dX13_lay_2 rfl (by decide) rfl ?_
  exact u1 hl0
theorem b_X13_lay_3 {D : zD} {d : Nat} {G : zG} {h : zH} {Q : zO → zG → zH → Prop} {x1 x2 : Int} (p1 : z_in x2) (p2 : ¬ (x2 < 0) → 0 ≤ (h 88 14)) (p3 : ¬ (x2 < 0) → (h 88 14) < 1000)
    (u1 : x2 < 0 → Q (.inl none) G h)
    (u2 : ¬ (x2 < 0) → z_Y D M_X13_lay d 3 [(0, 2, 88), (1, 0, x1), (2, 0, (x2 + (-8)))] [] G (z_wr (z_wr h 100 (h 88 14) (w8 (z_ishr x1 x2))) 88 14 ((h 88 14) + 1)) Q) :
    z_Y D M_X13_lay d 3 [(0, 2, 88), (1, 0, x1), (2, 0, x2)] [] G h Q := by
  intro hl0
  refine z_iload_n (q := 4) 2 dX13_lay_3 rfl rfl ?_
  refine z_if_lt (q := 7) (t := 36) p1 dX13_lay_4 (by decide) rfl (fun c1 => ?_) (fun c1 => ?_)
  · exact z_vret rfl dX13_lay_36 ⟨hl0, u1 c1⟩
  · refine z_aload_n (q := 8) 0 dX13_lay_7 rfl rfl ?_
    refine z_gf (q := 11) (ki := 13) (v := (2, 100)) fX13_48 rfl (z_ldr rfl (hl0.ref 92 rfl)) (hl0.i 88 (by decide) rfl) dX13_lay_8 rfl ?_
    refine z_aload_n (q := 12) 0 dX13_lay_11 rfl rfl ?_
    refine z_gf (q := 15) (ki := 14) (v := (0, (h 88 14))) fX13_239 rfl rfl (hl0.i 88 (by decide) rfl) dX13_lay_12 rfl ?_
    refine z_iload_n (q := 16) 1 dX13_lay_15 rfl rfl ?_
    refine z_iload_n (q := 17) 2 dX13_lay_16 rfl rfl ?_
    refine z_r_ishr (q := 18) dX13_lay_17 rfl ?_
    refine z_i2b (q := 19) dX13_lay_18 rfl ?_
    refine z_bsn (q := 20) (hl0.i 100 (by decide) rfl) (hl0.n 100 (by decide) rfl) (p2 c1) (p3 c1) dX13_lay_19 rfl ?_
    have hl1 := hl0.wr (v := (w8 (z_ishr x1 x2))) (hl0.i 100 (by decide) rfl) (i := (h 88 14)) rfl
    refine z_aload_n (q := 21) 0 dX13_lay_20 rfl rfl ?_
    refine z_dup (q := 22) (by decide) dX13_lay_21 rfl ?_
    refine z_gf (q := 25) (ki := 14) (v := (0, (h 88 14))) fX13_239 rfl (z_ldi rfl (w_na (by decide))) (hl1.i 88 (by decide) rfl) dX13_lay_22 rfl ?_
    refine z_iconst (q := 26) dX13_lay_25 rfl ?_
    refine z_iadd (q := 27) dX13_lay_26 rfl ?_
    refine z_pf (q := 30) (ki := 14) fX13_239 rfl (z_sv0 rfl) (hl1.i 88 (by decide) rfl) dX13_lay_27 rfl ?_
    have hl2 := hl1.wr (v := ((h 88 14) + 1)) (hl1.i 88 (by decide) rfl) (i := 14) (by decide)
    refine z_iinc (q := 33) (L' := [(0, 2, 88), (1, 0, x1), (2, 0, (x2 + (-8)))]) 2 dX13_lay_30 rfl rfl (by decide) rfl ?_
    refine z_goto (t := 3) dX13_lay_33 (by decide) ?_
    exact u2 c1 hl2
theorem b_X13_end_0 {D : zD} {d : Nat} {G : zG} {h : zH} {Q : zO → zG → zH → Prop} {x1 : Int} (hd : 2 ≤ d) (p1 : z_in x1) (p2 : z_in (h 88 14)) (p3 : z_in64 x1) (p4 : z_in64 (h 88 14))
    (u1 : 0 ≤ x1 ∧ x1 ≤ (h 88 14) → Q (.inl (some (0, x1))) G (z_wr h 88 14 x1))
    (u2 : ¬ (0 ≤ x1 ∧ x1 ≤ (h 88 14)) → Q (.inl (some (0, (-1)))) G h) :
    z_Y D M_X13_end d 0 [(0, 2, 88), (1, 0, x1)] [] G h Q := by
  intro hl0
  refine z_iload_n (q := 1) 1 dX13_end_0 rfl rfl ?_
  refine z_i2l (q := 2) p1 dX13_end_1 rfl ?_
  refine z_lconst0 (q := 3) dX13_end_2 rfl ?_
  refine z_aload_n (q := 4) 0 dX13_end_3 rfl rfl ?_
  refine z_gf (q := 7) (ki := 14) (v := (0, (h 88 14))) fX13_239 rfl rfl (hl0.i 88 (by decide) rfl) dX13_end_4 rfl ?_
  refine z_i2l (q := 8) p2 dX13_end_7 rfl ?_
  have e1 := a_X13_in (D := D) (G := G) (h := h) (d := d - 1) (by omega) x1 0 (h 88 14) p3 ⟨by decide, by decide⟩ p4
  refine z_goS (q := 11) (av := [(1, x1), (1, 0), (1, (h 88 14))]) (rest := []) (z_toi) hl0 (z_Ei.K e1 (by omega) ?_) mo_X13_in np_X13_in k1300 k1301 rfl (nle rfl) dX13_end_8 rfl
  by_cases c1 : 0 ≤ x1 ∧ x1 ≤ (h 88 14)
  · rw [z_b1 c1]
    refine z_if_ne (q := 14) (t := 16) ⟨by decide, by decide⟩ dX13_end_11 (by decide) rfl (fun _ => ?_) (fun c => absurd c (by decide))
    refine z_aload_n (q := 17) 0 dX13_end_16 rfl rfl ?_
    refine z_iload_n (q := 18) 1 dX13_end_17 rfl rfl ?_
    refine z_pf (q := 21) (ki := 14) fX13_239 rfl (z_sv0 rfl) (hl0.i 88 (by decide) rfl) dX13_end_18 rfl ?_
    have hl1 := hl0.wr (v := x1) (hl0.i 88 (by decide) rfl) (i := 14) (by decide)
    refine z_iload_n (q := 22) 1 dX13_end_21 rfl rfl ?_
    exact z_iret rfl dX13_end_22 ⟨hl1, u1 c1⟩
  · rw [z_b0 c1]
    refine z_if_ne (q := 14) (t := 16) ⟨by decide, by decide⟩ dX13_end_11 (by decide) rfl (fun c => absurd c (by decide)) (fun _ => ?_)
    refine z_iconst (q := 15) dX13_end_14 rfl ?_
    exact z_iret rfl dX13_end_15 ⟨hl0, u2 c1⟩
theorem b_X13_fault_0 {D : zD} {d : Nat} {G : zG} {h : zH} {Q : zO → zG → zH → Prop} {x1 : Int} (p1 : z_in x1)
    (u1 : ¬ x1 = 0 → ¬ x1 = 1 → Q (.inl (some (0, (-1)))) G h)
    (u2 : ¬ x1 = 0 → ¬ (¬ x1 = 1) → Q (.inl (some (0, (h 88 21)))) G h)
    (u3 : ¬ (¬ x1 = 0) → Q (.inl (some (0, (h 88 20)))) G h) :
    z_Y D M_X13_fault d 0 [(0, 2, 88), (1, 0, x1)] [] G h Q := by
  intro hl0
  refine z_iload_n (q := 1) 1 dX13_fault_0 rfl rfl ?_
  refine z_if_ne (q := 4) (t := 11) p1 dX13_fault_1 (by decide) rfl (fun c1 => ?_) (fun c1 => ?_)
  · refine z_iload_n (q := 12) 1 dX13_fault_11 rfl rfl ?_
    refine z_iconst (q := 13) dX13_fault_12 rfl ?_
    refine z_icmp_ne (q := 16) (t := 23) p1 ⟨by decide, by decide⟩ dX13_fault_13 (by decide) rfl (fun c2 => ?_) (fun c2 => ?_)
    · refine z_iconst (q := 24) dX13_fault_23 rfl ?_
      exact z_iret rfl dX13_fault_24 ⟨hl0, u1 c1 c2⟩
    · refine z_aload_n (q := 17) 0 dX13_fault_16 rfl rfl ?_
      refine z_gf (q := 20) (ki := 21) (v := (0, (h 88 21))) fX13_52 rfl rfl (hl0.i 88 (by decide) rfl) dX13_fault_17 rfl ?_
      refine z_goto (t := 24) dX13_fault_20 (by decide) ?_
      exact z_iret rfl dX13_fault_24 ⟨hl0, u2 c1 c2⟩
  · refine z_aload_n (q := 5) 0 dX13_fault_4 rfl rfl ?_
    refine z_gf (q := 8) (ki := 20) (v := (0, (h 88 20))) fX13_233 rfl rfl (hl0.i 88 (by decide) rfl) dX13_fault_5 rfl ?_
    refine z_goto (t := 24) dX13_fault_8 (by decide) ?_
    exact z_iret rfl dX13_fault_24 ⟨hl0, u3 c1⟩
theorem b_X13_size_0 {D : zD} {d : Nat} {G : zG} {h : zH} {Q : zO → zG → zH → Prop} {x1 x2 : Int} (hd : 3 ≤ d) (p1 : z_in x1) (p2 : 0 ≤ x1 ∧ x1 ≤ 7 → z_in x2) (p3 : 0 ≤ x1 ∧ x1 ≤ 7 → ¬ x2 = 0 → ¬ x2 = 1 → z_in64 x2) (p4 : 0 ≤ x1 ∧ x1 ≤ 7 → ¬ x2 = 0 → ¬ (¬ x2 = 1) → 0 ≤ x1) (p5 : 0 ≤ x1 ∧ x1 ≤ 7 → ¬ x2 = 0 → ¬ (¬ x2 = 1) → x1 < 12) (p6 : 0 ≤ x1 ∧ x1 ≤ 7 → ¬ (¬ x2 = 0) → 0 ≤ x1) (p7 : 0 ≤ x1 ∧ x1 ≤ 7 → ¬ (¬ x2 = 0) → x1 < 12)
    (u1 : 0 ≤ x1 ∧ x1 ≤ 7 → ¬ x2 = 0 → ¬ x2 = 1 → 2 ≤ x2 ∧ x2 ≤ 4 → z_Y D M_X13_size d 53 [(0, 2, 88), (1, 0, x1), (2, 0, x2), (3, 0, 0), (4, 0, 0)] [] G h Q)
    (u2 : 0 ≤ x1 ∧ x1 ≤ 7 → ¬ x2 = 0 → ¬ x2 = 1 → ¬ (2 ≤ x2 ∧ x2 ≤ 4) → Q (.inl (some (0, (-1)))) G h)
    (u3 : 0 ≤ x1 ∧ x1 ≤ 7 → ¬ x2 = 0 → ¬ (¬ x2 = 1) → Q (.inl (some (0, (h 90 x1)))) G h)
    (u4 : 0 ≤ x1 ∧ x1 ≤ 7 → ¬ (¬ x2 = 0) → Q (.inl (some (0, (h 89 x1)))) G h)
    (u5 : ¬ (0 ≤ x1 ∧ x1 ≤ 7) → Q (.inl (some (0, (-1)))) G h) :
    z_Y D M_X13_size d 0 [(0, 2, 88), (1, 0, x1), (2, 0, x2)] [] G h Q := by
  intro hl0
  refine z_iload_n (q := 1) 1 dX13_size_0 rfl rfl ?_
  have e1 := a_X13_isTable (D := D) (G := G) (h := h) (d := d - 1) (by omega) x1 p1
  refine z_goS (q := 4) (av := [(0, x1)]) (rest := []) (z_toi) hl0 (z_Ei.K e1 (by omega) ?_) mo_X13_isTable np_X13_isTable k1311 k1312 rfl (nle rfl) dX13_size_1 rfl
  by_cases c1 : 0 ≤ x1 ∧ x1 ≤ 7
  · rw [z_b1 c1]
    refine z_if_ne (q := 7) (t := 9) ⟨by decide, by decide⟩ dX13_size_4 (by decide) rfl (fun _ => ?_) (fun c => absurd c (by decide))
    refine z_iload_n (q := 10) 2 dX13_size_9 rfl rfl ?_
    refine z_if_ne (q := 13) (t := 20) (p2 c1) dX13_size_10 (by decide) rfl (fun c2 => ?_) (fun c2 => ?_)
    · refine z_iload_n (q := 21) 2 dX13_size_20 rfl rfl ?_
      refine z_iconst (q := 22) dX13_size_21 rfl ?_
      refine z_icmp_ne (q := 25) (t := 32) (p2 c1) ⟨by decide, by decide⟩ dX13_size_22 (by decide) rfl (fun c3 => ?_) (fun c3 => ?_)
      · refine z_iload_n (q := 33) 2 dX13_size_32 rfl rfl ?_
        refine z_i2l (q := 34) (p2 c1) dX13_size_33 rfl ?_
        refine z_ldc2 (q := 37) (n := 2) k1461 (by decide) dX13_size_34 rfl ?_
        refine z_ldc2 (q := 40) (n := 4) k1462 (by decide) dX13_size_37 rfl ?_
        have e2 := a_X13_in (D := D) (G := G) (h := h) (d := d - 1) (by omega) x2 2 4 (p3 c1 c2 c3) ⟨by decide, by decide⟩ ⟨by decide, by decide⟩
        refine z_goS (q := 43) (av := [(1, x2), (1, 2), (1, 4)]) (rest := []) (z_toi) hl0 (z_Ei.K e2 (by omega) ?_) mo_X13_in np_X13_in k1300 k1301 rfl (nle rfl) dX13_size_40 rfl
        by_cases c4 : 2 ≤ x2 ∧ x2 ≤ 4
        · rw [z_b1 c4]
          refine z_if_ne (q := 46) (t := 48) ⟨by decide, by decide⟩ dX13_size_43 (by decide) rfl (fun _ => ?_) (fun c => absurd c (by decide))
          refine z_iconst (q := 49) dX13_size_48 rfl ?_
          refine z_istore_n (q := 50) (L' := [(0, 2, 88), (1, 0, x1), (2, 0, x2), (3, 0, 0)]) dX13_size_49 rfl (by decide) rfl ?_
          refine z_iconst (q := 51) dX13_size_50 rfl ?_
          refine z_istore (q := 53) (L' := [(0, 2, 88), (1, 0, x1), (2, 0, x2), (3, 0, 0), (4, 0, 0)]) dX13_size_51 rfl (by decide) rfl ?_
          exact u1 c1 c2 c3 c4 hl0
        · rw [z_b0 c4]
          refine z_if_ne (q := 46) (t := 48) ⟨by decide, by decide⟩ dX13_size_43 (by decide) rfl (fun c => absurd c (by decide)) (fun _ => ?_)
          refine z_iconst (q := 47) dX13_size_46 rfl ?_
          exact z_iret rfl dX13_size_47 ⟨hl0, u2 c1 c2 c3 c4⟩
      · refine z_aload_n (q := 26) 0 dX13_size_25 rfl rfl ?_
        refine z_gf (q := 29) (ki := 1) (v := (2, 90)) fX13_13 rfl (z_ldr rfl (hl0.ref 82 rfl)) (hl0.i 88 (by decide) rfl) dX13_size_26 rfl ?_
        refine z_iload_n (q := 30) 1 dX13_size_29 rfl rfl ?_
        refine z_iale (q := 31) (v := (h 90 x1)) (hl0.a 90 (by decide) rfl) (p4 c1 c2 c3) (p5 c1 c2 c3) rfl dX13_size_30 rfl ?_
        exact z_iret rfl dX13_size_31 ⟨hl0, u3 c1 c2 c3⟩
    · refine z_aload_n (q := 14) 0 dX13_size_13 rfl rfl ?_
      refine z_gf (q := 17) (ki := 0) (v := (2, 89)) fX13_9 rfl (z_ldr rfl (hl0.ref 81 rfl)) (hl0.i 88 (by decide) rfl) dX13_size_14 rfl ?_
      refine z_iload_n (q := 18) 1 dX13_size_17 rfl rfl ?_
      refine z_iale (q := 19) (v := (h 89 x1)) (hl0.a 89 (by decide) rfl) (p6 c1 c2) (p7 c1 c2) rfl dX13_size_18 rfl ?_
      exact z_iret rfl dX13_size_19 ⟨hl0, u4 c1 c2⟩
  · rw [z_b0 c1]
    refine z_if_ne (q := 7) (t := 9) ⟨by decide, by decide⟩ dX13_size_4 (by decide) rfl (fun c => absurd c (by decide)) (fun _ => ?_)
    refine z_iconst (q := 8) dX13_size_7 rfl ?_
    exact z_iret rfl dX13_size_8 ⟨hl0, u5 c1⟩
theorem b_X13_size_53 {D : zD} {d : Nat} {G : zG} {h : zH} {Q : zO → zG → zH → Prop} {x1 x2 x3 x4 : Int} (p1 : 0 ≤ x1) (p2 : x1 < 12) (p3 : z_in x4) (p4 : z_in (h 89 x1))
    (u1 : (h 89 x1) ≤ x4 → Q (.inl (some (0, x3))) G h)
    (u2 : ¬ ((h 89 x1) ≤ x4) → z_Y D M_X13_size d 67 [(0, 2, 88), (1, 0, x1), (2, 0, x2), (3, 0, x3), (4, 0, x4), (5, 0, 0)] [] G h Q) :
    z_Y D M_X13_size d 53 [(0, 2, 88), (1, 0, x1), (2, 0, x2), (3, 0, x3), (4, 0, x4)] [] G h Q := by
  intro hl0
  refine z_iload (q := 55) 4 dX13_size_53 rfl rfl ?_
  refine z_aload_n (q := 56) 0 dX13_size_55 rfl rfl ?_
  refine z_gf (q := 59) (ki := 0) (v := (2, 89)) fX13_9 rfl (z_ldr rfl (hl0.ref 81 rfl)) (hl0.i 88 (by decide) rfl) dX13_size_56 rfl ?_
  refine z_iload_n (q := 60) 1 dX13_size_59 rfl rfl ?_
  refine z_iale (q := 61) (v := (h 89 x1)) (hl0.a 89 (by decide) rfl) p1 p2 rfl dX13_size_60 rfl ?_
  refine z_icmp_ge (q := 64) (t := 152) p3 p4 dX13_size_61 (by decide) rfl (fun c1 => ?_) (fun c1 => ?_)
  · refine z_iload_n (q := 153) 3 dX13_size_152 rfl rfl ?_
    exact z_iret rfl dX13_size_153 ⟨hl0, u1 c1⟩
  · refine z_iconst (q := 65) dX13_size_64 rfl ?_
    refine z_istore (q := 67) (L' := [(0, 2, 88), (1, 0, x1), (2, 0, x2), (3, 0, x3), (4, 0, x4), (5, 0, 0)]) dX13_size_65 rfl (by decide) rfl ?_
    exact u2 c1 hl0
theorem b_X13_size_67 {D : zD} {d : Nat} {G : zG} {h : zH} {Q : zO → zG → zH → Prop} {x1 x2 x3 x4 x5 : Int} (hd : 2 ≤ d) (p1 : 0 ≤ x1) (p2 : x1 < 12) (p3 : z_in x5) (p4 : z_in (h 90 x1)) (p5 : ¬ ((h 90 x1) ≤ x5) → 0 ≤ (72 * x1 + 6 * x4 + x5)) (p6 : ¬ ((h 90 x1) ≤ x5) → (72 * x1 + 6 * x4 + x5) < 864) (p7 : ¬ ((h 90 x1) ≤ x5) → z_in x2) (p8 : ¬ ((h 90 x1) ≤ x5) → ¬ (¬ x2 = 2) → z_in64 (h 91 (72 * x1 + 6 * x4 + x5)))
    (u1 : (h 90 x1) ≤ x5 → z_Y D M_X13_size d 53 [(0, 2, 88), (1, 0, x1), (2, 0, x2), (3, 0, x3), (4, 0, (x4 + 1))] [] G h Q)
    (u2 : ¬ ((h 90 x1) ≤ x5) → ¬ x2 = 2 → z_Y D M_X13_size d 106 [(0, 2, 88), (1, 0, x1), (2, 0, x2), (4, 0, x4), (5, 0, x5), (6, 1, (h 91 (72 * x1 + 6 * x4 + x5)))] [(0, x3)] G h Q)
    (u3 : ¬ ((h 90 x1) ≤ x5) → ¬ (¬ x2 = 2) → (h 91 (72 * x1 + 6 * x4 + x5)) = 0 → z_Y D M_X13_size d 133 [(0, 2, 88), (1, 0, x1), (2, 0, x2), (4, 0, x4), (5, 0, x5)] [(0, x3)] G h Q)
    (u4 : ¬ ((h 90 x1) ≤ x5) → ¬ (¬ x2 = 2) → ¬ ((h 91 (72 * x1 + 6 * x4 + x5)) = 0) → z_Y D M_X13_size d 106 [(0, 2, 88), (1, 0, x1), (2, 0, x2), (4, 0, x4), (5, 0, x5), (6, 1, (h 91 (72 * x1 + 6 * x4 + x5)))] [(0, x3)] G h Q) :
    z_Y D M_X13_size d 67 [(0, 2, 88), (1, 0, x1), (2, 0, x2), (3, 0, x3), (4, 0, x4), (5, 0, x5)] [] G h Q := by
  intro hl0
  refine z_iload (q := 69) 5 dX13_size_67 rfl rfl ?_
  refine z_aload_n (q := 70) 0 dX13_size_69 rfl rfl ?_
  refine z_gf (q := 73) (ki := 1) (v := (2, 90)) fX13_13 rfl (z_ldr rfl (hl0.ref 82 rfl)) (hl0.i 88 (by decide) rfl) dX13_size_70 rfl ?_
  refine z_iload_n (q := 74) 1 dX13_size_73 rfl rfl ?_
  refine z_iale (q := 75) (v := (h 90 x1)) (hl0.a 90 (by decide) rfl) p1 p2 rfl dX13_size_74 rfl ?_
  refine z_icmp_ge (q := 78) (t := 146) p3 p4 dX13_size_75 (by decide) rfl (fun c1 => ?_) (fun c1 => ?_)
  · refine z_iinc (q := 149) (L' := [(0, 2, 88), (1, 0, x1), (2, 0, x2), (3, 0, x3), (4, 0, (x4 + 1)), (5, 0, x5)]) 4 dX13_size_146 rfl rfl (by decide) rfl ?_
    refine z_goto (t := 53) dX13_size_149 (by decide) ?_
    refine z_sub (L' := [(0, 2, 88), (1, 0, x1), (2, 0, x2), (3, 0, x3), (4, 0, (x4 + 1))]) [0, 1, 2, 3, 4] rfl ?_
    exact u1 c1 hl0
  · refine z_aload_n (q := 79) 0 dX13_size_78 rfl rfl ?_
    refine z_gf (q := 82) (ki := 2) (v := (2, 91)) fX13_16 rfl (z_ldr rfl (hl0.ref 83 rfl)) (hl0.i 88 (by decide) rfl) dX13_size_79 rfl ?_
    refine z_iload_n (q := 83) 1 dX13_size_82 rfl rfl ?_
    refine z_iload (q := 85) 4 dX13_size_83 rfl rfl ?_
    refine z_iload (q := 87) 5 dX13_size_85 rfl rfl ?_
    have e1 := a_X13_at (D := D) (G := G) (h := h) (d := d - 1) (by omega) x1 x4 x5
    refine z_goS (q := 90) (av := [(0, x1), (0, x4), (0, x5)]) (rest := [(2, 91)]) (z_toi) hl0 (z_Ei.K e1 (by omega) ?_) mo_X13_at np_X13_at k1345 k1346 rfl (nle rfl) dX13_size_87 rfl
    refine z_lale (q := 91) (v := (h 91 (72 * x1 + 6 * x4 + x5))) (hl0.a 91 (by decide) rfl) (p5 c1) (p6 c1) rfl dX13_size_90 rfl ?_
    refine z_lstore (q := 93) (L' := [(0, 2, 88), (1, 0, x1), (2, 0, x2), (3, 0, x3), (4, 0, x4), (5, 0, x5), (6, 1, (h 91 (72 * x1 + 6 * x4 + x5)))]) dX13_size_91 rfl (by decide) rfl ?_
    refine z_iload_n (q := 94) 3 dX13_size_93 rfl rfl ?_
    refine z_iload_n (q := 95) 2 dX13_size_94 rfl rfl ?_
    refine z_iconst (q := 96) dX13_size_95 rfl ?_
    refine z_icmp_ne (q := 99) (t := 106) (p7 c1) ⟨by decide, by decide⟩ dX13_size_96 (by decide) rfl (fun c2 => ?_) (fun c2 => ?_)
    · refine z_sub (L' := [(0, 2, 88), (1, 0, x1), (2, 0, x2), (4, 0, x4), (5, 0, x5), (6, 1, (h 91 (72 * x1 + 6 * x4 + x5)))]) [0, 1, 2, 4, 5, 6] rfl ?_
      exact u2 c1 c2 hl0
    · refine z_lload (q := 101) 6 dX13_size_99 rfl rfl ?_
      refine z_lconst0 (q := 102) dX13_size_101 rfl ?_
      refine z_lcmp_eq (q := 106) (t := 133) (p8 c1 c2) ⟨by decide, by decide⟩ dX13_size_102 (rfl : _ = 103) dX13_size_103 (by decide) rfl (fun c3 => ?_) (fun c3 => ?_)
      · refine z_sub (L' := [(0, 2, 88), (1, 0, x1), (2, 0, x2), (4, 0, x4), (5, 0, x5)]) [0, 1, 2, 4, 5] rfl ?_
        exact u3 c1 c2 c3 hl0
      · refine z_sub (L' := [(0, 2, 88), (1, 0, x1), (2, 0, x2), (4, 0, x4), (5, 0, x5), (6, 1, (h 91 (72 * x1 + 6 * x4 + x5)))]) [0, 1, 2, 4, 5, 6] rfl ?_
        exact u4 c1 c2 c3 hl0
theorem b_X13_size_106 {D : zD} {d : Nat} {G : zG} {h : zH} {Q : zO → zG → zH → Prop} {s0 x1 x2 x4 x5 x6 : Int} (hd : 3 ≤ d) (p1 : z_in x2) (p2 : ¬ (¬ x2 = 3) → -1 ≤ x6) (p3 : ¬ (¬ x2 = 3) → x6 < 72057594037927936)
    (u1 : ¬ x2 = 3 → z_Y D M_X13_size d 119 [(0, 2, 88), (1, 0, x1), (2, 0, x2), (4, 0, x4), (5, 0, x5), (6, 1, x6)] [(0, s0)] G h Q)
    (u2 : ¬ (¬ x2 = 3) → znum x6 → z_Y D M_X13_size d 133 [(0, 2, 88), (1, 0, x1), (2, 0, x2), (4, 0, x4), (5, 0, x5)] [(0, s0)] G h Q)
    (u3 : ¬ (¬ x2 = 3) → ¬ (znum x6) → z_Y D M_X13_size d 119 [(0, 2, 88), (1, 0, x1), (2, 0, x2), (4, 0, x4), (5, 0, x5), (6, 1, x6)] [(0, s0)] G h Q) :
    z_Y D M_X13_size d 106 [(0, 2, 88), (1, 0, x1), (2, 0, x2), (4, 0, x4), (5, 0, x5), (6, 1, x6)] [(0, s0)] G h Q := by
  intro hl0
  refine z_iload_n (q := 107) 2 dX13_size_106 rfl rfl ?_
  refine z_iconst (q := 108) dX13_size_107 rfl ?_
  refine z_icmp_ne (q := 111) (t := 119) p1 ⟨by decide, by decide⟩ dX13_size_108 (by decide) rfl (fun c1 => ?_) (fun c1 => ?_)
  · exact u1 c1 hl0
  · refine z_lload (q := 113) 5 dX13_size_111 rfl rfl ?_
    have e1 := a_X13_isNumber (D := D) (G := G) (h := h) (d := d - 1) (by omega) x6 (p2 c1) (p3 c1)
    refine z_goS (q := 116) (av := [(1, x6)]) (rest := [(0, s0)]) (z_toi) hl0 (z_Ei.K e1 (by omega) ?_) mo_X13_isNumber np_X13_isNumber k1463 k1464 rfl (nle rfl) dX13_size_113 rfl
    by_cases c2 : znum x6
    · rw [z_b1 c2]
      refine z_if_ne (q := 119) (t := 133) ⟨by decide, by decide⟩ dX13_size_116 (by decide) rfl (fun _ => ?_) (fun c => absurd c (by decide))
      refine z_sub (L' := [(0, 2, 88), (1, 0, x1), (2, 0, x2), (4, 0, x4), (5, 0, x5)]) [0, 1, 2, 3, 4] rfl ?_
      exact u2 c1 c2 hl0
    · rw [z_b0 c2]
      refine z_if_ne (q := 119) (t := 133) ⟨by decide, by decide⟩ dX13_size_116 (by decide) rfl (fun c => absurd c (by decide)) (fun _ => ?_)
      exact u3 c1 c2 hl0
theorem b_X13_size_133 {D : zD} {d : Nat} {G : zG} {h : zH} {Q : zO → zG → zH → Prop} {s0 x1 x2 x4 x5 : Int}
    (u1 : z_Y D M_X13_size d 138 [(0, 2, 88), (1, 0, x1), (2, 0, x2), (4, 0, x4), (5, 0, x5)] [(0, 1), (0, s0)] G h Q) :
    z_Y D M_X13_size d 133 [(0, 2, 88), (1, 0, x1), (2, 0, x2), (4, 0, x4), (5, 0, x5)] [(0, s0)] G h Q := by
  intro hl0
  refine z_iconst (q := 134) dX13_size_133 rfl ?_
  refine z_goto (t := 138) dX13_size_134 (by decide) ?_
  exact u1 hl0
theorem b_X13_size_119 {D : zD} {d : Nat} {G : zG} {h : zH} {Q : zO → zG → zH → Prop} {s0 x1 x2 x4 x5 x6 : Int} (p1 : z_in x2) (p2 : ¬ (¬ x2 = 4) → z_in64 x6)
    (u1 : ¬ x2 = 4 → z_Y D M_X13_size d 137 [(0, 2, 88), (1, 0, x1), (2, 0, x2), (4, 0, x4), (5, 0, x5)] [(0, s0)] G h Q)
    (u2 : ¬ (¬ x2 = 4) → ¬ x6 = (-1) → z_Y D M_X13_size d 137 [(0, 2, 88), (1, 0, x1), (2, 0, x2), (4, 0, x4), (5, 0, x5)] [(0, s0)] G h Q)
    (u3 : ¬ (¬ x2 = 4) → ¬ (¬ x6 = (-1)) → z_Y D M_X13_size d 133 [(0, 2, 88), (1, 0, x1), (2, 0, x2), (4, 0, x4), (5, 0, x5)] [(0, s0)] G h Q) :
    z_Y D M_X13_size d 119 [(0, 2, 88), (1, 0, x1), (2, 0, x2), (4, 0, x4), (5, 0, x5), (6, 1, x6)] [(0, s0)] G h Q := by
  intro hl0
  refine z_iload_n (q := 120) 2 dX13_size_119 rfl rfl ?_
  refine z_iconst (q := 121) dX13_size_120 rfl ?_
  refine z_icmp_ne (q := 124) (t := 137) p1 ⟨by decide, by decide⟩ dX13_size_121 (by decide) rfl (fun c1 => ?_) (fun c1 => ?_)
  · refine z_sub (L' := [(0, 2, 88), (1, 0, x1), (2, 0, x2), (4, 0, x4), (5, 0, x5)]) [0, 1, 2, 3, 4] rfl ?_
    exact u1 c1 hl0
  · refine z_lload (q := 126) 5 dX13_size_124 rfl rfl ?_
    refine z_ldc2 (q := 129) (n := (-1)) k1327 (by decide) dX13_size_126 rfl ?_
    refine z_lcmp_ne (q := 133) (t := 137) (p2 c1) ⟨by decide, by decide⟩ dX13_size_129 (rfl : _ = 130) dX13_size_130 (by decide) rfl (fun c2 => ?_) (fun c2 => ?_)
    · refine z_sub (L' := [(0, 2, 88), (1, 0, x1), (2, 0, x2), (4, 0, x4), (5, 0, x5)]) [0, 1, 2, 3, 4] rfl ?_
      exact u2 c1 c2 hl0
    · refine z_sub (L' := [(0, 2, 88), (1, 0, x1), (2, 0, x2), (4, 0, x4), (5, 0, x5)]) [0, 1, 2, 3, 4] rfl ?_
      exact u3 c1 c2 hl0
theorem b_X13_size_138 {D : zD} {d : Nat} {G : zG} {h : zH} {Q : zO → zG → zH → Prop} {s0 s1 x1 x2 x4 x5 : Int}
    (u1 : z_Y D M_X13_size d 67 [(0, 2, 88), (1, 0, x1), (2, 0, x2), (3, 0, (s0 + s1)), (4, 0, x4), (5, 0, (x5 + 1))] [] G h Q) :
    z_Y D M_X13_size d 138 [(0, 2, 88), (1, 0, x1), (2, 0, x2), (4, 0, x4), (5, 0, x5)] [(0, s1), (0, s0)] G h Q := by
  intro hl0
  refine z_iadd (q := 139) dX13_size_138 rfl ?_
  refine z_istore_n (q := 140) (L' := [(0, 2, 88), (1, 0, x1), (2, 0, x2), (3, 0, (s0 + s1)), (4, 0, x4), (5, 0, x5)]) dX13_size_139 rfl (by decide) rfl ?_
  refine z_iinc (q := 143) (L' := [(0, 2, 88), (1, 0, x1), (2, 0, x2), (3, 0, (s0 + s1)), (4, 0, x4), (5, 0, (x5 + 1))]) 5 dX13_size_140 rfl rfl (by decide) rfl ?_
  refine z_goto (t := 67) dX13_size_143 (by decide) ?_
  exact u1 hl0
theorem b_X13_size_137 {D : zD} {d : Nat} {G : zG} {h : zH} {Q : zO → zG → zH → Prop} {s0 x1 x2 x4 x5 : Int}
    (u1 : z_Y D M_X13_size d 138 [(0, 2, 88), (1, 0, x1), (2, 0, x2), (4, 0, x4), (5, 0, x5)] [(0, 0), (0, s0)] G h Q) :
    z_Y D M_X13_size d 137 [(0, 2, 88), (1, 0, x1), (2, 0, x2), (4, 0, x4), (5, 0, x5)] [(0, s0)] G h Q := by
  intro hl0
  refine z_iconst (q := 138) dX13_size_137 rfl ?_
  exact u1 hl0
theorem b_X13_cell_0 {D : zD} {d : Nat} {G : zG} {h : zH} {Q : zO → zG → zH → Prop} {x1 x2 x3 : Int} (hd : 3 ≤ d) (p1 : z_in x1) (p2 : 0 ≤ x1 ∧ x1 ≤ 7 → z_in x2) (p3 : 0 ≤ x1 ∧ x1 ≤ 7 → 0 ≤ x1) (p4 : 0 ≤ x1 ∧ x1 ≤ 7 → x1 < 12) (p5 : 0 ≤ x1 ∧ x1 ≤ 7 → z_in (h 89 x1)) (p6 : 0 ≤ x1 ∧ x1 ≤ 7 → z_in64 x2) (p7 : 0 ≤ x1 ∧ x1 ≤ 7 → z_in64 ((h 89 x1) - 1)) (p8 : 0 ≤ x1 ∧ x1 ≤ 7 → 0 ≤ x2 ∧ x2 ≤ ((h 89 x1) - 1) → z_in x3) (p9 : 0 ≤ x1 ∧ x1 ≤ 7 → 0 ≤ x2 ∧ x2 ≤ ((h 89 x1) - 1) → z_in (h 90 x1)) (p10 : 0 ≤ x1 ∧ x1 ≤ 7 → 0 ≤ x2 ∧ x2 ≤ ((h 89 x1) - 1) → z_in64 x3) (p11 : 0 ≤ x1 ∧ x1 ≤ 7 → 0 ≤ x2 ∧ x2 ≤ ((h 89 x1) - 1) → z_in64 ((h 90 x1) - 1)) (p12 : 0 ≤ x1 ∧ x1 ≤ 7 → 0 ≤ x2 ∧ x2 ≤ ((h 89 x1) - 1) → 0 ≤ x3 ∧ x3 ≤ ((h 90 x1) - 1) → 0 ≤ (72 * x1 + 6 * x2 + x3)) (p13 : 0 ≤ x1 ∧ x1 ≤ 7 → 0 ≤ x2 ∧ x2 ≤ ((h 89 x1) - 1) → 0 ≤ x3 ∧ x3 ≤ ((h 90 x1) - 1) → (72 * x1 + 6 * x2 + x3) < 864)
    (u1 : 0 ≤ x1 ∧ x1 ≤ 7 → 0 ≤ x2 ∧ x2 ≤ ((h 89 x1) - 1) → 0 ≤ x3 ∧ x3 ≤ ((h 90 x1) - 1) → Q (.inl (some (1, (h 91 (72 * x1 + 6 * x2 + x3))))) G h)
    (u2 : 0 ≤ x1 ∧ x1 ≤ 7 → 0 ≤ x2 ∧ x2 ≤ ((h 89 x1) - 1) → ¬ (0 ≤ x3 ∧ x3 ≤ ((h 90 x1) - 1)) → Q (.inl (some (1, (-2)))) G h)
    (u3 : 0 ≤ x1 ∧ x1 ≤ 7 → ¬ (0 ≤ x2 ∧ x2 ≤ ((h 89 x1) - 1)) → Q (.inl (some (1, (-2)))) G h)
    (u4 : ¬ (0 ≤ x1 ∧ x1 ≤ 7) → Q (.inl (some (1, (-2)))) G h) :
    z_Y D M_X13_cell d 0 [(0, 2, 88), (1, 0, x1), (2, 0, x2), (3, 0, x3)] [] G h Q := by
  intro hl0
  refine z_iload_n (q := 1) 1 dX13_cell_0 rfl rfl ?_
  have e1 := a_X13_isTable (D := D) (G := G) (h := h) (d := d - 1) (by omega) x1 p1
  refine z_goS (q := 4) (av := [(0, x1)]) (rest := []) (z_toi) hl0 (z_Ei.K e1 (by omega) ?_) mo_X13_isTable np_X13_isTable k1311 k1312 rfl (nle rfl) dX13_cell_1 rfl
  by_cases c1 : 0 ≤ x1 ∧ x1 ≤ 7
  · rw [z_b1 c1]
    refine z_if_eq (q := 7) (t := 57) ⟨by decide, by decide⟩ dX13_cell_4 (by decide) rfl (fun c => absurd c (by decide)) (fun _ => ?_)
    refine z_iload_n (q := 8) 2 dX13_cell_7 rfl rfl ?_
    refine z_i2l (q := 9) (p2 c1) dX13_cell_8 rfl ?_
    refine z_lconst0 (q := 10) dX13_cell_9 rfl ?_
    refine z_aload_n (q := 11) 0 dX13_cell_10 rfl rfl ?_
    refine z_gf (q := 14) (ki := 0) (v := (2, 89)) fX13_9 rfl (z_ldr rfl (hl0.ref 81 rfl)) (hl0.i 88 (by decide) rfl) dX13_cell_11 rfl ?_
    refine z_iload_n (q := 15) 1 dX13_cell_14 rfl rfl ?_
    refine z_iale (q := 16) (v := (h 89 x1)) (hl0.a 89 (by decide) rfl) (p3 c1) (p4 c1) rfl dX13_cell_15 rfl ?_
    refine z_i2l (q := 17) (p5 c1) dX13_cell_16 rfl ?_
    refine z_lconst1 (q := 18) dX13_cell_17 rfl ?_
    refine z_lsub (q := 19) dX13_cell_18 rfl ?_
    have e2 := a_X13_in (D := D) (G := G) (h := h) (d := d - 1) (by omega) x2 0 ((h 89 x1) - 1) (p6 c1) ⟨by decide, by decide⟩ (p7 c1)
    refine z_goS (q := 22) (av := [(1, x2), (1, 0), (1, ((h 89 x1) - 1))]) (rest := []) (z_toi) hl0 (z_Ei.K e2 (by omega) ?_) mo_X13_in np_X13_in k1300 k1301 rfl (nle rfl) dX13_cell_19 rfl
    by_cases c2 : 0 ≤ x2 ∧ x2 ≤ ((h 89 x1) - 1)
    · rw [z_b1 c2]
      refine z_if_eq (q := 25) (t := 57) ⟨by decide, by decide⟩ dX13_cell_22 (by decide) rfl (fun c => absurd c (by decide)) (fun _ => ?_)
      refine z_iload_n (q := 26) 3 dX13_cell_25 rfl rfl ?_
      refine z_i2l (q := 27) (p8 c1 c2) dX13_cell_26 rfl ?_
      refine z_lconst0 (q := 28) dX13_cell_27 rfl ?_
      refine z_aload_n (q := 29) 0 dX13_cell_28 rfl rfl ?_
      refine z_gf (q := 32) (ki := 1) (v := (2, 90)) fX13_13 rfl (z_ldr rfl (hl0.ref 82 rfl)) (hl0.i 88 (by decide) rfl) dX13_cell_29 rfl ?_
      refine z_iload_n (q := 33) 1 dX13_cell_32 rfl rfl ?_
      refine z_iale (q := 34) (v := (h 90 x1)) (hl0.a 90 (by decide) rfl) (p3 c1) (p4 c1) rfl dX13_cell_33 rfl ?_
      refine z_i2l (q := 35) (p9 c1 c2) dX13_cell_34 rfl ?_
      refine z_lconst1 (q := 36) dX13_cell_35 rfl ?_
      refine z_lsub (q := 37) dX13_cell_36 rfl ?_
      have e3 := a_X13_in (D := D) (G := G) (h := h) (d := d - 1) (by omega) x3 0 ((h 90 x1) - 1) (p10 c1 c2) ⟨by decide, by decide⟩ (p11 c1 c2)
      refine z_goS (q := 40) (av := [(1, x3), (1, 0), (1, ((h 90 x1) - 1))]) (rest := []) (z_toi) hl0 (z_Ei.K e3 (by omega) ?_) mo_X13_in np_X13_in k1300 k1301 rfl (nle rfl) dX13_cell_37 rfl
      by_cases c3 : 0 ≤ x3 ∧ x3 ≤ ((h 90 x1) - 1)
      · rw [z_b1 c3]
        refine z_if_eq (q := 43) (t := 57) ⟨by decide, by decide⟩ dX13_cell_40 (by decide) rfl (fun c => absurd c (by decide)) (fun _ => ?_)
        refine z_aload_n (q := 44) 0 dX13_cell_43 rfl rfl ?_
        refine z_gf (q := 47) (ki := 2) (v := (2, 91)) fX13_16 rfl (z_ldr rfl (hl0.ref 83 rfl)) (hl0.i 88 (by decide) rfl) dX13_cell_44 rfl ?_
        refine z_iload_n (q := 48) 1 dX13_cell_47 rfl rfl ?_
        refine z_iload_n (q := 49) 2 dX13_cell_48 rfl rfl ?_
        refine z_iload_n (q := 50) 3 dX13_cell_49 rfl rfl ?_
        have e4 := a_X13_at (D := D) (G := G) (h := h) (d := d - 1) (by omega) x1 x2 x3
        refine z_goS (q := 53) (av := [(0, x1), (0, x2), (0, x3)]) (rest := [(2, 91)]) (z_toi) hl0 (z_Ei.K e4 (by omega) ?_) mo_X13_at np_X13_at k1345 k1346 rfl (nle rfl) dX13_cell_50 rfl
        refine z_lale (q := 54) (v := (h 91 (72 * x1 + 6 * x2 + x3))) (hl0.a 91 (by decide) rfl) (p12 c1 c2 c3) (p13 c1 c2 c3) rfl dX13_cell_53 rfl ?_
        refine z_goto (t := 60) dX13_cell_54 (by decide) ?_
        exact z_lret rfl dX13_cell_60 ⟨hl0, u1 c1 c2 c3⟩
      · rw [z_b0 c3]
        refine z_if_eq (q := 43) (t := 57) ⟨by decide, by decide⟩ dX13_cell_40 (by decide) rfl (fun _ => ?_) (fun c => absurd c (by decide))
        refine z_ldc2 (q := 60) (n := (-2)) k1477 (by decide) dX13_cell_57 rfl ?_
        exact z_lret rfl dX13_cell_60 ⟨hl0, u2 c1 c2 c3⟩
    · rw [z_b0 c2]
      refine z_if_eq (q := 25) (t := 57) ⟨by decide, by decide⟩ dX13_cell_22 (by decide) rfl (fun _ => ?_) (fun c => absurd c (by decide))
      refine z_ldc2 (q := 60) (n := (-2)) k1477 (by decide) dX13_cell_57 rfl ?_
      exact z_lret rfl dX13_cell_60 ⟨hl0, u3 c1 c2⟩
  · rw [z_b0 c1]
    refine z_if_eq (q := 7) (t := 57) ⟨by decide, by decide⟩ dX13_cell_4 (by decide) rfl (fun _ => ?_) (fun c => absurd c (by decide))
    refine z_ldc2 (q := 60) (n := (-2)) k1477 (by decide) dX13_cell_57 rfl ?_
    exact z_lret rfl dX13_cell_60 ⟨hl0, u4 c1⟩
theorem b_X13_copy_0 {D : zD} {d : Nat} {G : zG} {h : zH} {Q : zO → zG → zH → Prop} {x1 x2 : Int} (hd : 3 ≤ d) (p1 : z_in x1) (p2 : 0 ≤ x1 ∧ x1 ≤ 7 → z_in x2)
    (u1 : 0 ≤ x1 ∧ x1 ≤ 7 → 0 ≤ x2 ∧ x2 ≤ 7 → z_Kv D M_X13_become d [(2, 88), (0, x2), (0, x1)] G h (fun G' h' => z_Y D M_X13_copy d 23 [(0, 2, 88), (2, 0, x2)] [] G' h' Q))
    (u2 : 0 ≤ x1 ∧ x1 ≤ 7 → ¬ (0 ≤ x2 ∧ x2 ≤ 7) → Q (.inl (some (0, (-2)))) G h)
    (u3 : ¬ (0 ≤ x1 ∧ x1 ≤ 7) → Q (.inl (some (0, (-2)))) G h) :
    z_Y D M_X13_copy d 0 [(0, 2, 88), (1, 0, x1), (2, 0, x2)] [] G h Q := by
  intro hl0
  refine z_iload_n (q := 1) 1 dX13_copy_0 rfl rfl ?_
  have e1 := a_X13_isTable (D := D) (G := G) (h := h) (d := d - 1) (by omega) x1 p1
  refine z_goS (q := 4) (av := [(0, x1)]) (rest := []) (z_toi) hl0 (z_Ei.K e1 (by omega) ?_) mo_X13_isTable np_X13_isTable k1311 k1312 rfl (nle rfl) dX13_copy_1 rfl
  by_cases c1 : 0 ≤ x1 ∧ x1 ≤ 7
  · rw [z_b1 c1]
    refine z_if_eq (q := 7) (t := 14) ⟨by decide, by decide⟩ dX13_copy_4 (by decide) rfl (fun c => absurd c (by decide)) (fun _ => ?_)
    refine z_iload_n (q := 8) 2 dX13_copy_7 rfl rfl ?_
    have e2 := a_X13_isTable (D := D) (G := G) (h := h) (d := d - 1) (by omega) x2 (p2 c1)
    refine z_goS (q := 11) (av := [(0, x2)]) (rest := []) (z_toi) hl0 (z_Ei.K e2 (by omega) ?_) mo_X13_isTable np_X13_isTable k1311 k1312 rfl (nle rfl) dX13_copy_8 rfl
    by_cases c2 : 0 ≤ x2 ∧ x2 ≤ 7
    · rw [z_b1 c2]
      refine z_if_ne (q := 14) (t := 17) ⟨by decide, by decide⟩ dX13_copy_11 (by decide) rfl (fun _ => ?_) (fun c => absurd c (by decide))
      refine z_aload_n (q := 18) 0 dX13_copy_17 rfl rfl ?_
      refine z_iload_n (q := 19) 2 dX13_copy_18 rfl rfl ?_
      refine z_iload_n (q := 20) 1 dX13_copy_19 rfl rfl ?_
      refine z_sub (L' := [(0, 2, 88), (2, 0, x2)]) [0, 2] rfl ?_
      exact z_goV (q := 23) (av := [(0, x2), (0, x1)]) (rest := []) cb11 (hl0.i 88 (by decide) rfl) z_tov hl0 (u1 c1 c2) mo_X13_become np_X13_become k1348 k1350 k48 rfl (nle rfl) dX13_copy_20 rfl
    · rw [z_b0 c2]
      refine z_if_ne (q := 14) (t := 17) ⟨by decide, by decide⟩ dX13_copy_11 (by decide) rfl (fun c => absurd c (by decide)) (fun _ => ?_)
      refine z_bipush (q := 16) dX13_copy_14 rfl (by decide) ?_
      exact z_iret rfl dX13_copy_16 ⟨hl0, u2 c1 c2⟩
  · rw [z_b0 c1]
    refine z_if_eq (q := 7) (t := 14) ⟨by decide, by decide⟩ dX13_copy_4 (by decide) rfl (fun _ => ?_) (fun c => absurd c (by decide))
    refine z_bipush (q := 16) dX13_copy_14 rfl (by decide) ?_
    exact z_iret rfl dX13_copy_16 ⟨hl0, u3 c1⟩
theorem b_X13_copy_23 {D : zD} {d : Nat} {G : zG} {h : zH} {Q : zO → zG → zH → Prop} {x2 : Int} (p1 : 0 ≤ x2) (p2 : x2 < 12)
    (u1 : Q (.inl (some (0, (h 89 x2)))) G h) :
    z_Y D M_X13_copy d 23 [(0, 2, 88), (2, 0, x2)] [] G h Q := by
  intro hl0
  refine z_aload_n (q := 24) 0 dX13_copy_23 rfl rfl ?_
  refine z_gf (q := 27) (ki := 0) (v := (2, 89)) fX13_9 rfl (z_ldr rfl (hl0.ref 81 rfl)) (hl0.i 88 (by decide) rfl) dX13_copy_24 rfl ?_
  refine z_iload_n (q := 28) 1 dX13_copy_27 rfl rfl ?_
  refine z_iale (q := 29) (v := (h 89 x2)) (hl0.a 89 (by decide) rfl) p1 p2 rfl dX13_copy_28 rfl ?_
  exact z_iret rfl dX13_copy_29 ⟨hl0, u1⟩
theorem b_X13_fits_0 {D : zD} {d : Nat} {G : zG} {h : zH} {Q : zO → zG → zH → Prop} {x1 x2 : Int} (hd : 3 ≤ d) (p1 : z_in x1) (p2 : 0 ≤ x1 ∧ x1 ≤ 7 → z_in x2)
    (u1 : 0 ≤ x1 ∧ x1 ≤ 7 → 0 ≤ x2 ∧ x2 ≤ 7 → z_Ki D M_X13_fit d [(2, 88), (0, x1), (0, x2), (0, 1)] G h (fun r G' h' => z_Y D M_X13_fits d 26 [] [(0, r)] G' h' Q))
    (u2 : 0 ≤ x1 ∧ x1 ≤ 7 → ¬ (0 ≤ x2 ∧ x2 ≤ 7) → Q (.inl (some (0, (-2)))) G h)
    (u3 : ¬ (0 ≤ x1 ∧ x1 ≤ 7) → Q (.inl (some (0, (-2)))) G h) :
    z_Y D M_X13_fits d 0 [(0, 2, 88), (1, 0, x1), (2, 0, x2)] [] G h Q := by
  intro hl0
  refine z_iload_n (q := 1) 1 dX13_fits_0 rfl rfl ?_
  have e1 := a_X13_isTable (D := D) (G := G) (h := h) (d := d - 1) (by omega) x1 p1
  refine z_goS (q := 4) (av := [(0, x1)]) (rest := []) (z_toi) hl0 (z_Ei.K e1 (by omega) ?_) mo_X13_isTable np_X13_isTable k1311 k1312 rfl (nle rfl) dX13_fits_1 rfl
  by_cases c1 : 0 ≤ x1 ∧ x1 ≤ 7
  · rw [z_b1 c1]
    refine z_if_eq (q := 7) (t := 14) ⟨by decide, by decide⟩ dX13_fits_4 (by decide) rfl (fun c => absurd c (by decide)) (fun _ => ?_)
    refine z_iload_n (q := 8) 2 dX13_fits_7 rfl rfl ?_
    have e2 := a_X13_isTable (D := D) (G := G) (h := h) (d := d - 1) (by omega) x2 (p2 c1)
    refine z_goS (q := 11) (av := [(0, x2)]) (rest := []) (z_toi) hl0 (z_Ei.K e2 (by omega) ?_) mo_X13_isTable np_X13_isTable k1311 k1312 rfl (nle rfl) dX13_fits_8 rfl
    by_cases c2 : 0 ≤ x2 ∧ x2 ≤ 7
    · rw [z_b1 c2]
      refine z_if_ne (q := 14) (t := 19) ⟨by decide, by decide⟩ dX13_fits_11 (by decide) rfl (fun _ => ?_) (fun c => absurd c (by decide))
      refine z_aload_n (q := 20) 0 dX13_fits_19 rfl rfl ?_
      refine z_iload_n (q := 21) 1 dX13_fits_20 rfl rfl ?_
      refine z_iload_n (q := 22) 2 dX13_fits_21 rfl rfl ?_
      refine z_iconst (q := 23) dX13_fits_22 rfl ?_
      refine z_sub (L' := []) [] rfl ?_
      exact z_goV (q := 26) (av := [(0, x1), (0, x2), (0, 1)]) (rest := []) cb11 (hl0.i 88 (by decide) rfl) z_toi hl0 (u1 c1 c2) mo_X13_fit np_X13_fit k1486 k1488 k59 rfl (nle rfl) dX13_fits_23 rfl
    · rw [z_b0 c2]
      refine z_if_ne (q := 14) (t := 19) ⟨by decide, by decide⟩ dX13_fits_11 (by decide) rfl (fun c => absurd c (by decide)) (fun _ => ?_)
      refine z_bipush (q := 16) dX13_fits_14 rfl (by decide) ?_
      refine z_goto (t := 34) dX13_fits_16 (by decide) ?_
      exact z_iret rfl dX13_fits_34 ⟨hl0, u2 c1 c2⟩
  · rw [z_b0 c1]
    refine z_if_eq (q := 7) (t := 14) ⟨by decide, by decide⟩ dX13_fits_4 (by decide) rfl (fun _ => ?_) (fun c => absurd c (by decide))
    refine z_bipush (q := 16) dX13_fits_14 rfl (by decide) ?_
    refine z_goto (t := 34) dX13_fits_16 (by decide) ?_
    exact z_iret rfl dX13_fits_34 ⟨hl0, u3 c1⟩
theorem b_X13_fits_26 {D : zD} {d : Nat} {G : zG} {h : zH} {Q : zO → zG → zH → Prop} {s0 : Int} (p1 : z_in s0)
    (u1 : s0 = 0 → Q (.inl (some (0, 0))) G h)
    (u2 : ¬ (s0 = 0) → Q (.inl (some (0, 1))) G h) :
    z_Y D M_X13_fits d 26 [] [(0, s0)] G h Q := by
  intro hl0
  refine z_if_eq (q := 29) (t := 33) p1 dX13_fits_26 (by decide) rfl (fun c1 => ?_) (fun c1 => ?_)
  · refine z_iconst (q := 34) dX13_fits_33 rfl ?_
    exact z_iret rfl dX13_fits_34 ⟨hl0, u1 c1⟩
  · refine z_iconst (q := 30) dX13_fits_29 rfl ?_
    refine z_goto (t := 34) dX13_fits_30 (by decide) ?_
    exact z_iret rfl dX13_fits_34 ⟨hl0, u2 c1⟩
theorem b_X13_step_0 {D : zD} {d : Nat} {G : zG} {h : zH} {Q : zO → zG → zH → Prop} {x1 x2 x3 x4 : Int} (hd : 3 ≤ d) (p1 : z_in x1) (p2 : 0 ≤ x1 ∧ x1 ≤ 7 → z_in x2) (p3 : 0 ≤ x1 ∧ x1 ≤ 7 → z_in64 x2)
    (u1 : 0 ≤ x1 ∧ x1 ≤ 7 → 1 ≤ x2 ∧ x2 ≤ 14 → z_Ki D M_X13_makes d [(2, 88), (0, x1), (0, x2), (0, x3), (0, x4)] G h (fun r G' h' => z_Y D M_X13_step d 31 [(0, 2, 88), (1, 0, x1)] [(0, r)] G' h' Q))
    (u2 : 0 ≤ x1 ∧ x1 ≤ 7 → ¬ (1 ≤ x2 ∧ x2 ≤ 14) → Q (.inl (some (0, (-2)))) G h)
    (u3 : ¬ (0 ≤ x1 ∧ x1 ≤ 7) → Q (.inl (some (0, (-2)))) G h) :
    z_Y D M_X13_step d 0 [(0, 2, 88), (1, 0, x1), (2, 0, x2), (3, 0, x3), (4, 0, x4)] [] G h Q := by
  intro hl0
  refine z_iload_n (q := 1) 1 dX13_step_0 rfl rfl ?_
  have e1 := a_X13_isTable (D := D) (G := G) (h := h) (d := d - 1) (by omega) x1 p1
  refine z_goS (q := 4) (av := [(0, x1)]) (rest := []) (z_toi) hl0 (z_Ei.K e1 (by omega) ?_) mo_X13_isTable np_X13_isTable k1311 k1312 rfl (nle rfl) dX13_step_1 rfl
  by_cases c1 : 0 ≤ x1 ∧ x1 ≤ 7
  · rw [z_b1 c1]
    refine z_if_eq (q := 7) (t := 19) ⟨by decide, by decide⟩ dX13_step_4 (by decide) rfl (fun c => absurd c (by decide)) (fun _ => ?_)
    refine z_iload_n (q := 8) 2 dX13_step_7 rfl rfl ?_
    refine z_i2l (q := 9) (p2 c1) dX13_step_8 rfl ?_
    refine z_lconst1 (q := 10) dX13_step_9 rfl ?_
    refine z_ldc2 (q := 13) (n := 14) k1494 (by decide) dX13_step_10 rfl ?_
    have e2 := a_X13_in (D := D) (G := G) (h := h) (d := d - 1) (by omega) x2 1 14 (p3 c1) ⟨by decide, by decide⟩ ⟨by decide, by decide⟩
    refine z_goS (q := 16) (av := [(1, x2), (1, 1), (1, 14)]) (rest := []) (z_toi) hl0 (z_Ei.K e2 (by omega) ?_) mo_X13_in np_X13_in k1300 k1301 rfl (nle rfl) dX13_step_13 rfl
    by_cases c2 : 1 ≤ x2 ∧ x2 ≤ 14
    · rw [z_b1 c2]
      refine z_if_ne (q := 19) (t := 22) ⟨by decide, by decide⟩ dX13_step_16 (by decide) rfl (fun _ => ?_) (fun c => absurd c (by decide))
      refine z_aload_n (q := 23) 0 dX13_step_22 rfl rfl ?_
      refine z_iload_n (q := 24) 1 dX13_step_23 rfl rfl ?_
      refine z_iload_n (q := 25) 2 dX13_step_24 rfl rfl ?_
      refine z_iload_n (q := 26) 3 dX13_step_25 rfl rfl ?_
      refine z_iload (q := 28) 4 dX13_step_26 rfl rfl ?_
      refine z_sub (L' := [(0, 2, 88), (1, 0, x1)]) [0, 1] rfl ?_
      exact z_goV (q := 31) (av := [(0, x1), (0, x2), (0, x3), (0, x4)]) (rest := []) cb11 (hl0.i 88 (by decide) rfl) z_toi hl0 (u1 c1 c2) mo_X13_makes np_X13_makes k1495 k1497 k60 rfl (nle rfl) dX13_step_28 rfl
    · rw [z_b0 c2]
      refine z_if_ne (q := 19) (t := 22) ⟨by decide, by decide⟩ dX13_step_16 (by decide) rfl (fun c => absurd c (by decide)) (fun _ => ?_)
      refine z_bipush (q := 21) dX13_step_19 rfl (by decide) ?_
      exact z_iret rfl dX13_step_21 ⟨hl0, u2 c1 c2⟩
  · rw [z_b0 c1]
    refine z_if_eq (q := 7) (t := 19) ⟨by decide, by decide⟩ dX13_step_4 (by decide) rfl (fun _ => ?_) (fun c => absurd c (by decide))
    refine z_bipush (q := 21) dX13_step_19 rfl (by decide) ?_
    exact z_iret rfl dX13_step_21 ⟨hl0, u3 c1⟩
theorem b_X13_step_31 {D : zD} {d : Nat} {G : zG} {h : zH} {Q : zO → zG → zH → Prop} {s0 x1 : Int} (p1 : z_in s0)
    (u1 : ¬ s0 = 0 → z_Kv D M_X13_become d [(2, 88), (0, x1), (0, 10)] G h (fun G' h' => z_Y D M_X13_step d 43 [(0, 2, 88), (1, 0, x1)] [] G' h' Q))
    (u2 : ¬ (¬ s0 = 0) → Q (.inl (some (0, (-1)))) G h) :
    z_Y D M_X13_step d 31 [(0, 2, 88), (1, 0, x1)] [(0, s0)] G h Q := by
  intro hl0
  refine z_if_ne (q := 34) (t := 36) p1 dX13_step_31 (by decide) rfl (fun c1 => ?_) (fun c1 => ?_)
  · refine z_aload_n (q := 37) 0 dX13_step_36 rfl rfl ?_
    refine z_iload_n (q := 38) 1 dX13_step_37 rfl rfl ?_
    refine z_bipush (q := 40) dX13_step_38 rfl (by decide) ?_
    exact z_goV (q := 43) (av := [(0, x1), (0, 10)]) (rest := []) cb11 (hl0.i 88 (by decide) rfl) z_tov hl0 (u1 c1) mo_X13_become np_X13_become k1348 k1350 k48 rfl (nle rfl) dX13_step_40 rfl
  · refine z_iconst (q := 35) dX13_step_34 rfl ?_
    exact z_iret rfl dX13_step_35 ⟨hl0, u2 c1⟩
theorem b_X13_step_43 {D : zD} {d : Nat} {G : zG} {h : zH} {Q : zO → zG → zH → Prop} {x1 : Int} (p1 : 0 ≤ x1) (p2 : x1 < 12)
    (u1 : Q (.inl (some (0, (h 89 x1)))) G h) :
    z_Y D M_X13_step d 43 [(0, 2, 88), (1, 0, x1)] [] G h Q := by
  intro hl0
  refine z_aload_n (q := 44) 0 dX13_step_43 rfl rfl ?_
  refine z_gf (q := 47) (ki := 0) (v := (2, 89)) fX13_9 rfl (z_ldr rfl (hl0.ref 81 rfl)) (hl0.i 88 (by decide) rfl) dX13_step_44 rfl ?_
  refine z_iload_n (q := 48) 1 dX13_step_47 rfl rfl ?_
  refine z_iale (q := 49) (v := (h 89 x1)) (hl0.a 89 (by decide) rfl) p1 p2 rfl dX13_step_48 rfl ?_
  exact z_iret rfl dX13_step_49 ⟨hl0, u1⟩
theorem b_X13_walk_0 {D : zD} {d : Nat} {G : zG} {h : zH} {Q : zO → zG → zH → Prop} {x1 x2 x3 : Int} (hd : 3 ≤ d) (p1 : z_in x1) (p2 : 0 ≤ x1 ∧ x1 ≤ 7 → z_in x2) (p3 : 0 ≤ x1 ∧ x1 ≤ 7 → 0 ≤ x2 ∧ x2 ≤ 7 → z_in x3)
    (u1 : 0 ≤ x1 ∧ x1 ≤ 7 → 0 ≤ x2 ∧ x2 ≤ 7 → 0 ≤ x3 ∧ x3 ≤ 7 → z_Kv D M_X13_become d [(2, 88), (0, 8), (0, x2)] G h (fun G' h' => z_Y D M_X13_walk d 31 [(0, 2, 88), (1, 0, x1), (3, 0, x3)] [] G' h' Q))
    (u2 : 0 ≤ x1 ∧ x1 ≤ 7 → 0 ≤ x2 ∧ x2 ≤ 7 → ¬ (0 ≤ x3 ∧ x3 ≤ 7) → Q (.inl (some (0, (-2)))) G h)
    (u3 : 0 ≤ x1 ∧ x1 ≤ 7 → ¬ (0 ≤ x2 ∧ x2 ≤ 7) → Q (.inl (some (0, (-2)))) G h)
    (u4 : ¬ (0 ≤ x1 ∧ x1 ≤ 7) → Q (.inl (some (0, (-2)))) G h) :
    z_Y D M_X13_walk d 0 [(0, 2, 88), (1, 0, x1), (2, 0, x2), (3, 0, x3)] [] G h Q := by
  intro hl0
  refine z_iload_n (q := 1) 1 dX13_walk_0 rfl rfl ?_
  have e1 := a_X13_isWay (D := D) (G := G) (h := h) (d := d - 1) (by omega) x1 p1
  refine z_goS (q := 4) (av := [(0, x1)]) (rest := []) (z_toi) hl0 (z_Ei.K e1 (by omega) ?_) mo_X13_isWay np_X13_isWay k1356 k1357 rfl (nle rfl) dX13_walk_1 rfl
  by_cases c1 : 0 ≤ x1 ∧ x1 ≤ 7
  · rw [z_b1 c1]
    refine z_if_eq (q := 7) (t := 21) ⟨by decide, by decide⟩ dX13_walk_4 (by decide) rfl (fun c => absurd c (by decide)) (fun _ => ?_)
    refine z_iload_n (q := 8) 2 dX13_walk_7 rfl rfl ?_
    have e2 := a_X13_isTable (D := D) (G := G) (h := h) (d := d - 1) (by omega) x2 (p2 c1)
    refine z_goS (q := 11) (av := [(0, x2)]) (rest := []) (z_toi) hl0 (z_Ei.K e2 (by omega) ?_) mo_X13_isTable np_X13_isTable k1311 k1312 rfl (nle rfl) dX13_walk_8 rfl
    by_cases c2 : 0 ≤ x2 ∧ x2 ≤ 7
    · rw [z_b1 c2]
      refine z_if_eq (q := 14) (t := 21) ⟨by decide, by decide⟩ dX13_walk_11 (by decide) rfl (fun c => absurd c (by decide)) (fun _ => ?_)
      refine z_iload_n (q := 15) 3 dX13_walk_14 rfl rfl ?_
      have e3 := a_X13_isTable (D := D) (G := G) (h := h) (d := d - 1) (by omega) x3 (p3 c1 c2)
      refine z_goS (q := 18) (av := [(0, x3)]) (rest := []) (z_toi) hl0 (z_Ei.K e3 (by omega) ?_) mo_X13_isTable np_X13_isTable k1311 k1312 rfl (nle rfl) dX13_walk_15 rfl
      by_cases c3 : 0 ≤ x3 ∧ x3 ≤ 7
      · rw [z_b1 c3]
        refine z_if_ne (q := 21) (t := 24) ⟨by decide, by decide⟩ dX13_walk_18 (by decide) rfl (fun _ => ?_) (fun c => absurd c (by decide))
        refine z_aload_n (q := 25) 0 dX13_walk_24 rfl rfl ?_
        refine z_bipush (q := 27) dX13_walk_25 rfl (by decide) ?_
        refine z_iload_n (q := 28) 2 dX13_walk_27 rfl rfl ?_
        refine z_sub (L' := [(0, 2, 88), (1, 0, x1), (3, 0, x3)]) [0, 1, 3] rfl ?_
        exact z_goV (q := 31) (av := [(0, 8), (0, x2)]) (rest := []) cb11 (hl0.i 88 (by decide) rfl) z_tov hl0 (u1 c1 c2 c3) mo_X13_become np_X13_become k1348 k1350 k48 rfl (nle rfl) dX13_walk_28 rfl
      · rw [z_b0 c3]
        refine z_if_ne (q := 21) (t := 24) ⟨by decide, by decide⟩ dX13_walk_18 (by decide) rfl (fun c => absurd c (by decide)) (fun _ => ?_)
        refine z_bipush (q := 23) dX13_walk_21 rfl (by decide) ?_
        exact z_iret rfl dX13_walk_23 ⟨hl0, u2 c1 c2 c3⟩
    · rw [z_b0 c2]
      refine z_if_eq (q := 14) (t := 21) ⟨by decide, by decide⟩ dX13_walk_11 (by decide) rfl (fun _ => ?_) (fun c => absurd c (by decide))
      refine z_bipush (q := 23) dX13_walk_21 rfl (by decide) ?_
      exact z_iret rfl dX13_walk_23 ⟨hl0, u3 c1 c2⟩
  · rw [z_b0 c1]
    refine z_if_eq (q := 7) (t := 21) ⟨by decide, by decide⟩ dX13_walk_4 (by decide) rfl (fun _ => ?_) (fun c => absurd c (by decide))
    refine z_bipush (q := 23) dX13_walk_21 rfl (by decide) ?_
    exact z_iret rfl dX13_walk_23 ⟨hl0, u4 c1⟩
theorem b_X13_walk_31 {D : zD} {d : Nat} {G : zG} {h : zH} {Q : zO → zG → zH → Prop} {x1 x3 : Int}
    (u1 : z_Ki D M_X13_walks d [(2, 88), (0, x1), (0, 8)] G h (fun r G' h' => z_Y D M_X13_walk d 38 [(0, 2, 88), (3, 0, x3)] [(0, r)] G' h' Q)) :
    z_Y D M_X13_walk d 31 [(0, 2, 88), (1, 0, x1), (3, 0, x3)] [] G h Q := by
  intro hl0
  refine z_aload_n (q := 32) 0 dX13_walk_31 rfl rfl ?_
  refine z_iload_n (q := 33) 1 dX13_walk_32 rfl rfl ?_
  refine z_bipush (q := 35) dX13_walk_33 rfl (by decide) ?_
  refine z_sub (L' := [(0, 2, 88), (3, 0, x3)]) [0, 2] rfl ?_
  exact z_goV (q := 38) (av := [(0, x1), (0, 8)]) (rest := []) cb11 (hl0.i 88 (by decide) rfl) z_toi hl0 (u1) mo_X13_walks np_X13_walks k1599 k1601 k81 rfl (nle rfl) dX13_walk_35 rfl
theorem b_X13_walk_38 {D : zD} {d : Nat} {G : zG} {h : zH} {Q : zO → zG → zH → Prop} {s0 x3 : Int} (p1 : z_in s0)
    (u1 : s0 = (-1) → z_Kv D M_X13_become d [(2, 88), (0, x3), (0, 8)] G h (fun G' h' => z_Y D M_X13_walk d 59 [(0, 2, 88), (3, 0, x3)] [] G' h' Q))
    (u2 : ¬ (s0 = (-1)) → Q (.inl (some (0, ((-10) - s0)))) G h) :
    z_Y D M_X13_walk d 38 [(0, 2, 88), (3, 0, x3)] [(0, s0)] G h Q := by
  intro hl0
  refine z_istore (q := 40) (L' := [(0, 2, 88), (3, 0, x3), (4, 0, s0)]) dX13_walk_38 rfl (by decide) rfl ?_
  refine z_iload (q := 42) 2 dX13_walk_40 rfl rfl ?_
  refine z_iconst (q := 43) dX13_walk_42 rfl ?_
  refine z_icmp_eq (q := 46) (t := 52) p1 ⟨by decide, by decide⟩ dX13_walk_43 (by decide) rfl (fun c1 => ?_) (fun c1 => ?_)
  · refine z_aload_n (q := 53) 0 dX13_walk_52 rfl rfl ?_
    refine z_iload_n (q := 54) 1 dX13_walk_53 rfl rfl ?_
    refine z_bipush (q := 56) dX13_walk_54 rfl (by decide) ?_
    refine z_sub (L' := [(0, 2, 88), (3, 0, x3)]) [0, 1] rfl ?_
    exact z_goV (q := 59) (av := [(0, x3), (0, 8)]) (rest := []) cb11 (hl0.i 88 (by decide) rfl) z_tov hl0 (u1 c1) mo_X13_become np_X13_become k1348 k1350 k48 rfl (nle rfl) dX13_walk_56 rfl
  · refine z_bipush (q := 48) dX13_walk_46 rfl (by decide) ?_
    refine z_iload (q := 50) 2 dX13_walk_48 rfl rfl ?_
    refine z_isub (q := 51) dX13_walk_50 rfl ?_
    exact z_iret rfl dX13_walk_51 ⟨hl0, u2 c1⟩
theorem b_X13_walk_59 {D : zD} {d : Nat} {G : zG} {h : zH} {Q : zO → zG → zH → Prop} {x3 : Int} (p1 : 0 ≤ x3) (p2 : x3 < 12)
    (u1 : Q (.inl (some (0, (h 89 x3)))) G h) :
    z_Y D M_X13_walk d 59 [(0, 2, 88), (3, 0, x3)] [] G h Q := by
  intro hl0
  refine z_aload_n (q := 60) 0 dX13_walk_59 rfl rfl ?_
  refine z_gf (q := 63) (ki := 0) (v := (2, 89)) fX13_9 rfl (z_ldr rfl (hl0.ref 81 rfl)) (hl0.i 88 (by decide) rfl) dX13_walk_60 rfl ?_
  refine z_iload_n (q := 64) 1 dX13_walk_63 rfl rfl ?_
  refine z_iale (q := 65) (v := (h 89 x3)) (hl0.a 89 (by decide) rfl) p1 p2 rfl dX13_walk_64 rfl ?_
  exact z_iret rfl dX13_walk_65 ⟨hl0, u1⟩
theorem b_X13_steps_0 {D : zD} {d : Nat} {G : zG} {h : zH} {Q : zO → zG → zH → Prop} {x1 : Int} (hd : 3 ≤ d) (p1 : z_in x1) (p2 : 0 ≤ x1 ∧ x1 ≤ 7 → 0 ≤ x1) (p3 : 0 ≤ x1 ∧ x1 ≤ 7 → x1 < 9)
    (u1 : 0 ≤ x1 ∧ x1 ≤ 7 → Q (.inl (some (0, (h 95 x1)))) G h)
    (u2 : ¬ (0 ≤ x1 ∧ x1 ≤ 7) → Q (.inl (some (0, (-2)))) G h) :
    z_Y D M_X13_steps d 0 [(0, 2, 88), (1, 0, x1)] [] G h Q := by
  intro hl0
  refine z_iload_n (q := 1) 1 dX13_steps_0 rfl rfl ?_
  have e1 := a_X13_isWay (D := D) (G := G) (h := h) (d := d - 1) (by omega) x1 p1
  refine z_goS (q := 4) (av := [(0, x1)]) (rest := []) (z_toi) hl0 (z_Ei.K e1 (by omega) ?_) mo_X13_isWay np_X13_isWay k1356 k1357 rfl (nle rfl) dX13_steps_1 rfl
  by_cases c1 : 0 ≤ x1 ∧ x1 ≤ 7
  · rw [z_b1 c1]
    refine z_if_eq (q := 7) (t := 16) ⟨by decide, by decide⟩ dX13_steps_4 (by decide) rfl (fun c => absurd c (by decide)) (fun _ => ?_)
    refine z_aload_n (q := 8) 0 dX13_steps_7 rfl rfl ?_
    refine z_gf (q := 11) (ki := 8) (v := (2, 95)) fX13_29 rfl (z_ldr rfl (hl0.ref 87 rfl)) (hl0.i 88 (by decide) rfl) dX13_steps_8 rfl ?_
    refine z_iload_n (q := 12) 1 dX13_steps_11 rfl rfl ?_
    refine z_iale (q := 13) (v := (h 95 x1)) (hl0.a 95 (by decide) rfl) (p2 c1) (p3 c1) rfl dX13_steps_12 rfl ?_
    refine z_goto (t := 18) dX13_steps_13 (by decide) ?_
    exact z_iret rfl dX13_steps_18 ⟨hl0, u1 c1⟩
  · rw [z_b0 c1]
    refine z_if_eq (q := 7) (t := 16) ⟨by decide, by decide⟩ dX13_steps_4 (by decide) rfl (fun _ => ?_) (fun c => absurd c (by decide))
    refine z_bipush (q := 18) dX13_steps_16 rfl (by decide) ?_
    exact z_iret rfl dX13_steps_18 ⟨hl0, u2 c1⟩
theorem b_X13_stepAt_0 {D : zD} {d : Nat} {G : zG} {h : zH} {Q : zO → zG → zH → Prop} {x1 x2 x3 : Int} (hd : 3 ≤ d) (p1 : z_in x1) (p2 : 0 ≤ x1 ∧ x1 ≤ 7 → z_in x2) (p3 : 0 ≤ x1 ∧ x1 ≤ 7 → 0 ≤ x1) (p4 : 0 ≤ x1 ∧ x1 ≤ 7 → x1 < 9) (p5 : 0 ≤ x1 ∧ x1 ≤ 7 → z_in (h 95 x1)) (p6 : 0 ≤ x1 ∧ x1 ≤ 7 → z_in64 x2) (p7 : 0 ≤ x1 ∧ x1 ≤ 7 → z_in64 ((h 95 x1) - 1)) (p8 : 0 ≤ x1 ∧ x1 ≤ 7 → 0 ≤ x2 ∧ x2 ≤ ((h 95 x1) - 1) → z_in x3) (p9 : 0 ≤ x1 ∧ x1 ≤ 7 → 0 ≤ x2 ∧ x2 ≤ ((h 95 x1) - 1) → ¬ x3 = 0 → ¬ x3 = 1 → ¬ (¬ x3 = 2) → 0 ≤ ((12 * x1) + x2)) (p10 : 0 ≤ x1 ∧ x1 ≤ 7 → 0 ≤ x2 ∧ x2 ≤ ((h 95 x1) - 1) → ¬ x3 = 0 → ¬ x3 = 1 → ¬ (¬ x3 = 2) → ((12 * x1) + x2) < 108) (p11 : 0 ≤ x1 ∧ x1 ≤ 7 → 0 ≤ x2 ∧ x2 ≤ ((h 95 x1) - 1) → ¬ x3 = 0 → ¬ (¬ x3 = 1) → 0 ≤ ((12 * x1) + x2)) (p12 : 0 ≤ x1 ∧ x1 ≤ 7 → 0 ≤ x2 ∧ x2 ≤ ((h 95 x1) - 1) → ¬ x3 = 0 → ¬ (¬ x3 = 1) → ((12 * x1) + x2) < 108) (p13 : 0 ≤ x1 ∧ x1 ≤ 7 → 0 ≤ x2 ∧ x2 ≤ ((h 95 x1) - 1) → ¬ (¬ x3 = 0) → 0 ≤ ((12 * x1) + x2)) (p14 : 0 ≤ x1 ∧ x1 ≤ 7 → 0 ≤ x2 ∧ x2 ≤ ((h 95 x1) - 1) → ¬ (¬ x3 = 0) → ((12 * x1) + x2) < 108)
    (u1 : 0 ≤ x1 ∧ x1 ≤ 7 → 0 ≤ x2 ∧ x2 ≤ ((h 95 x1) - 1) → ¬ x3 = 0 → ¬ x3 = 1 → ¬ x3 = 2 → Q (.inl (some (0, (-1)))) G h)
    (u2 : 0 ≤ x1 ∧ x1 ≤ 7 → 0 ≤ x2 ∧ x2 ≤ ((h 95 x1) - 1) → ¬ x3 = 0 → ¬ x3 = 1 → ¬ (¬ x3 = 2) → Q (.inl (some (0, (h 98 ((12 * x1) + x2))))) G h)
    (u3 : 0 ≤ x1 ∧ x1 ≤ 7 → 0 ≤ x2 ∧ x2 ≤ ((h 95 x1) - 1) → ¬ x3 = 0 → ¬ (¬ x3 = 1) → Q (.inl (some (0, (h 97 ((12 * x1) + x2))))) G h)
    (u4 : 0 ≤ x1 ∧ x1 ≤ 7 → 0 ≤ x2 ∧ x2 ≤ ((h 95 x1) - 1) → ¬ (¬ x3 = 0) → Q (.inl (some (0, (h 96 ((12 * x1) + x2))))) G h)
    (u5 : 0 ≤ x1 ∧ x1 ≤ 7 → ¬ (0 ≤ x2 ∧ x2 ≤ ((h 95 x1) - 1)) → Q (.inl (some (0, (-1)))) G h)
    (u6 : ¬ (0 ≤ x1 ∧ x1 ≤ 7) → Q (.inl (some (0, (-1)))) G h) :
    z_Y D M_X13_stepAt d 0 [(0, 2, 88), (1, 0, x1), (2, 0, x2), (3, 0, x3)] [] G h Q := by
  intro hl0
  refine z_iload_n (q := 1) 1 dX13_stepAt_0 rfl rfl ?_
  have e1 := a_X13_isWay (D := D) (G := G) (h := h) (d := d - 1) (by omega) x1 p1
  refine z_goS (q := 4) (av := [(0, x1)]) (rest := []) (z_toi) hl0 (z_Ei.K e1 (by omega) ?_) mo_X13_isWay np_X13_isWay k1356 k1357 rfl (nle rfl) dX13_stepAt_1 rfl
  by_cases c1 : 0 ≤ x1 ∧ x1 ≤ 7
  · rw [z_b1 c1]
    refine z_if_eq (q := 7) (t := 25) ⟨by decide, by decide⟩ dX13_stepAt_4 (by decide) rfl (fun c => absurd c (by decide)) (fun _ => ?_)
    refine z_iload_n (q := 8) 2 dX13_stepAt_7 rfl rfl ?_
    refine z_i2l (q := 9) (p2 c1) dX13_stepAt_8 rfl ?_
    refine z_lconst0 (q := 10) dX13_stepAt_9 rfl ?_
    refine z_aload_n (q := 11) 0 dX13_stepAt_10 rfl rfl ?_
    refine z_gf (q := 14) (ki := 8) (v := (2, 95)) fX13_29 rfl (z_ldr rfl (hl0.ref 87 rfl)) (hl0.i 88 (by decide) rfl) dX13_stepAt_11 rfl ?_
    refine z_iload_n (q := 15) 1 dX13_stepAt_14 rfl rfl ?_
    refine z_iale (q := 16) (v := (h 95 x1)) (hl0.a 95 (by decide) rfl) (p3 c1) (p4 c1) rfl dX13_stepAt_15 rfl ?_
    refine z_i2l (q := 17) (p5 c1) dX13_stepAt_16 rfl ?_
    refine z_lconst1 (q := 18) dX13_stepAt_17 rfl ?_
    refine z_lsub (q := 19) dX13_stepAt_18 rfl ?_
    have e2 := a_X13_in (D := D) (G := G) (h := h) (d := d - 1) (by omega) x2 0 ((h 95 x1) - 1) (p6 c1) ⟨by decide, by decide⟩ (p7 c1)
    refine z_goS (q := 22) (av := [(1, x2), (1, 0), (1, ((h 95 x1) - 1))]) (rest := []) (z_toi) hl0 (z_Ei.K e2 (by omega) ?_) mo_X13_in np_X13_in k1300 k1301 rfl (nle rfl) dX13_stepAt_19 rfl
    by_cases c2 : 0 ≤ x2 ∧ x2 ≤ ((h 95 x1) - 1)
    · rw [z_b1 c2]
      refine z_if_ne (q := 25) (t := 27) ⟨by decide, by decide⟩ dX13_stepAt_22 (by decide) rfl (fun _ => ?_) (fun c => absurd c (by decide))
      refine z_bipush (q := 29) dX13_stepAt_27 rfl (by decide) ?_
      refine z_iload_n (q := 30) 1 dX13_stepAt_29 rfl rfl ?_
      refine z_imul (q := 31) dX13_stepAt_30 rfl ?_
      refine z_iload_n (q := 32) 2 dX13_stepAt_31 rfl rfl ?_
      refine z_iadd (q := 33) dX13_stepAt_32 rfl ?_
      refine z_istore (q := 35) (L' := [(0, 2, 88), (1, 0, x1), (2, 0, x2), (3, 0, x3), (4, 0, ((12 * x1) + x2))]) dX13_stepAt_33 rfl (by decide) rfl ?_
      refine z_iload_n (q := 36) 3 dX13_stepAt_35 rfl rfl ?_
      refine z_if_ne (q := 39) (t := 49) (p8 c1 c2) dX13_stepAt_36 (by decide) rfl (fun c3 => ?_) (fun c3 => ?_)
      · refine z_iload_n (q := 50) 3 dX13_stepAt_49 rfl rfl ?_
        refine z_iconst (q := 51) dX13_stepAt_50 rfl ?_
        refine z_icmp_ne (q := 54) (t := 64) (p8 c1 c2) ⟨by decide, by decide⟩ dX13_stepAt_51 (by decide) rfl (fun c4 => ?_) (fun c4 => ?_)
        · refine z_iload_n (q := 65) 3 dX13_stepAt_64 rfl rfl ?_
          refine z_iconst (q := 66) dX13_stepAt_65 rfl ?_
          refine z_icmp_ne (q := 69) (t := 79) (p8 c1 c2) ⟨by decide, by decide⟩ dX13_stepAt_66 (by decide) rfl (fun c5 => ?_) (fun c5 => ?_)
          · refine z_iconst (q := 80) dX13_stepAt_79 rfl ?_
            exact z_iret rfl dX13_stepAt_80 ⟨hl0, u1 c1 c2 c3 c4 c5⟩
          · refine z_aload_n (q := 70) 0 dX13_stepAt_69 rfl rfl ?_
            refine z_gf (q := 73) (ki := 11) (v := (2, 98)) fX13_38 rfl (z_ldr rfl (hl0.ref 90 rfl)) (hl0.i 88 (by decide) rfl) dX13_stepAt_70 rfl ?_
            refine z_iload (q := 75) 4 dX13_stepAt_73 rfl rfl ?_
            refine z_iale (q := 76) (v := (h 98 ((12 * x1) + x2))) (hl0.a 98 (by decide) rfl) (p9 c1 c2 c3 c4 c5) (p10 c1 c2 c3 c4 c5) rfl dX13_stepAt_75 rfl ?_
            refine z_goto (t := 80) dX13_stepAt_76 (by decide) ?_
            exact z_iret rfl dX13_stepAt_80 ⟨hl0, u2 c1 c2 c3 c4 c5⟩
        · refine z_aload_n (q := 55) 0 dX13_stepAt_54 rfl rfl ?_
          refine z_gf (q := 58) (ki := 10) (v := (2, 97)) fX13_35 rfl (z_ldr rfl (hl0.ref 89 rfl)) (hl0.i 88 (by decide) rfl) dX13_stepAt_55 rfl ?_
          refine z_iload (q := 60) 4 dX13_stepAt_58 rfl rfl ?_
          refine z_iale (q := 61) (v := (h 97 ((12 * x1) + x2))) (hl0.a 97 (by decide) rfl) (p11 c1 c2 c3 c4) (p12 c1 c2 c3 c4) rfl dX13_stepAt_60 rfl ?_
          refine z_goto (t := 80) dX13_stepAt_61 (by decide) ?_
          exact z_iret rfl dX13_stepAt_80 ⟨hl0, u3 c1 c2 c3 c4⟩
      · refine z_aload_n (q := 40) 0 dX13_stepAt_39 rfl rfl ?_
        refine z_gf (q := 43) (ki := 9) (v := (2, 96)) fX13_32 rfl (z_ldr rfl (hl0.ref 88 rfl)) (hl0.i 88 (by decide) rfl) dX13_stepAt_40 rfl ?_
        refine z_iload (q := 45) 4 dX13_stepAt_43 rfl rfl ?_
        refine z_iale (q := 46) (v := (h 96 ((12 * x1) + x2))) (hl0.a 96 (by decide) rfl) (p13 c1 c2 c3) (p14 c1 c2 c3) rfl dX13_stepAt_45 rfl ?_
        refine z_goto (t := 80) dX13_stepAt_46 (by decide) ?_
        exact z_iret rfl dX13_stepAt_80 ⟨hl0, u4 c1 c2 c3⟩
    · rw [z_b0 c2]
      refine z_if_ne (q := 25) (t := 27) ⟨by decide, by decide⟩ dX13_stepAt_22 (by decide) rfl (fun c => absurd c (by decide)) (fun _ => ?_)
      refine z_iconst (q := 26) dX13_stepAt_25 rfl ?_
      exact z_iret rfl dX13_stepAt_26 ⟨hl0, u5 c1 c2⟩
  · rw [z_b0 c1]
    refine z_if_eq (q := 7) (t := 25) ⟨by decide, by decide⟩ dX13_stepAt_4 (by decide) rfl (fun _ => ?_) (fun c => absurd c (by decide))
    refine z_iconst (q := 26) dX13_stepAt_25 rfl ?_
    exact z_iret rfl dX13_stepAt_26 ⟨hl0, u6 c1⟩
theorem b_X13_chain_0 {D : zD} {d : Nat} {G : zG} {h : zH} {Q : zO → zG → zH → Prop} {x1 x2 x3 : Int} (hd : 3 ≤ d) (p1 : z_in x1) (p2 : 0 ≤ x1 ∧ x1 ≤ 7 → z_in x2) (p3 : 0 ≤ x1 ∧ x1 ≤ 7 → 0 ≤ x2 ∧ x2 ≤ 7 → z_in x3) (p4 : 0 ≤ x1 ∧ x1 ≤ 7 → 0 ≤ x2 ∧ x2 ≤ 7 → 0 ≤ x3 ∧ x3 ≤ 7 → 0 ≤ x1) (p5 : 0 ≤ x1 ∧ x1 ≤ 7 → 0 ≤ x2 ∧ x2 ≤ 7 → 0 ≤ x3 ∧ x3 ≤ 7 → x1 < 9) (p6 : 0 ≤ x1 ∧ x1 ≤ 7 → 0 ≤ x2 ∧ x2 ≤ 7 → 0 ≤ x3 ∧ x3 ≤ 7 → 0 ≤ x2) (p7 : 0 ≤ x1 ∧ x1 ≤ 7 → 0 ≤ x2 ∧ x2 ≤ 7 → 0 ≤ x3 ∧ x3 ≤ 7 → x2 < 9) (p8 : 0 ≤ x1 ∧ x1 ≤ 7 → 0 ≤ x2 ∧ x2 ≤ 7 → 0 ≤ x3 ∧ x3 ≤ 7 → z_in ((h 95 x1) + (h 95 x2)))
    (u1 : 0 ≤ x1 ∧ x1 ≤ 7 → 0 ≤ x2 ∧ x2 ≤ 7 → 0 ≤ x3 ∧ x3 ≤ 7 → ((h 95 x1) + (h 95 x2)) ≤ 12 → z_Kv D M_X13_takeWay d [(2, 88), (0, 8), (0, x1)] G h (fun G' h' => z_Y D M_X13_chain d 52 [(0, 2, 88), (2, 0, x2), (3, 0, x3)] [] G' h' Q))
    (u2 : 0 ≤ x1 ∧ x1 ≤ 7 → 0 ≤ x2 ∧ x2 ≤ 7 → 0 ≤ x3 ∧ x3 ≤ 7 → ¬ (((h 95 x1) + (h 95 x2)) ≤ 12) → Q (.inl (some (0, (-3)))) G h)
    (u3 : 0 ≤ x1 ∧ x1 ≤ 7 → 0 ≤ x2 ∧ x2 ≤ 7 → ¬ (0 ≤ x3 ∧ x3 ≤ 7) → Q (.inl (some (0, (-2)))) G h)
    (u4 : 0 ≤ x1 ∧ x1 ≤ 7 → ¬ (0 ≤ x2 ∧ x2 ≤ 7) → Q (.inl (some (0, (-2)))) G h)
    (u5 : ¬ (0 ≤ x1 ∧ x1 ≤ 7) → Q (.inl (some (0, (-2)))) G h) :
    z_Y D M_X13_chain d 0 [(0, 2, 88), (1, 0, x1), (2, 0, x2), (3, 0, x3)] [] G h Q := by
  intro hl0
  refine z_iload_n (q := 1) 1 dX13_chain_0 rfl rfl ?_
  have e1 := a_X13_isWay (D := D) (G := G) (h := h) (d := d - 1) (by omega) x1 p1
  refine z_goS (q := 4) (av := [(0, x1)]) (rest := []) (z_toi) hl0 (z_Ei.K e1 (by omega) ?_) mo_X13_isWay np_X13_isWay k1356 k1357 rfl (nle rfl) dX13_chain_1 rfl
  by_cases c1 : 0 ≤ x1 ∧ x1 ≤ 7
  · rw [z_b1 c1]
    refine z_if_eq (q := 7) (t := 21) ⟨by decide, by decide⟩ dX13_chain_4 (by decide) rfl (fun c => absurd c (by decide)) (fun _ => ?_)
    refine z_iload_n (q := 8) 2 dX13_chain_7 rfl rfl ?_
    have e2 := a_X13_isWay (D := D) (G := G) (h := h) (d := d - 1) (by omega) x2 (p2 c1)
    refine z_goS (q := 11) (av := [(0, x2)]) (rest := []) (z_toi) hl0 (z_Ei.K e2 (by omega) ?_) mo_X13_isWay np_X13_isWay k1356 k1357 rfl (nle rfl) dX13_chain_8 rfl
    by_cases c2 : 0 ≤ x2 ∧ x2 ≤ 7
    · rw [z_b1 c2]
      refine z_if_eq (q := 14) (t := 21) ⟨by decide, by decide⟩ dX13_chain_11 (by decide) rfl (fun c => absurd c (by decide)) (fun _ => ?_)
      refine z_iload_n (q := 15) 3 dX13_chain_14 rfl rfl ?_
      have e3 := a_X13_isWay (D := D) (G := G) (h := h) (d := d - 1) (by omega) x3 (p3 c1 c2)
      refine z_goS (q := 18) (av := [(0, x3)]) (rest := []) (z_toi) hl0 (z_Ei.K e3 (by omega) ?_) mo_X13_isWay np_X13_isWay k1356 k1357 rfl (nle rfl) dX13_chain_15 rfl
      by_cases c3 : 0 ≤ x3 ∧ x3 ≤ 7
      · rw [z_b1 c3]
        refine z_if_ne (q := 21) (t := 24) ⟨by decide, by decide⟩ dX13_chain_18 (by decide) rfl (fun _ => ?_) (fun c => absurd c (by decide))
        refine z_aload_n (q := 25) 0 dX13_chain_24 rfl rfl ?_
        refine z_gf (q := 28) (ki := 8) (v := (2, 95)) fX13_29 rfl (z_ldr rfl (hl0.ref 87 rfl)) (hl0.i 88 (by decide) rfl) dX13_chain_25 rfl ?_
        refine z_iload_n (q := 29) 1 dX13_chain_28 rfl rfl ?_
        refine z_iale (q := 30) (v := (h 95 x1)) (hl0.a 95 (by decide) rfl) (p4 c1 c2 c3) (p5 c1 c2 c3) rfl dX13_chain_29 rfl ?_
        refine z_aload_n (q := 31) 0 dX13_chain_30 rfl rfl ?_
        refine z_gf (q := 34) (ki := 8) (v := (2, 95)) fX13_29 rfl (z_ldr rfl (hl0.ref 87 rfl)) (hl0.i 88 (by decide) rfl) dX13_chain_31 rfl ?_
        refine z_iload_n (q := 35) 2 dX13_chain_34 rfl rfl ?_
        refine z_iale (q := 36) (v := (h 95 x2)) (hl0.a 95 (by decide) rfl) (p6 c1 c2 c3) (p7 c1 c2 c3) rfl dX13_chain_35 rfl ?_
        refine z_iadd (q := 37) dX13_chain_36 rfl ?_
        refine z_bipush (q := 39) dX13_chain_37 rfl (by decide) ?_
        refine z_icmp_le (q := 42) (t := 45) (p8 c1 c2 c3) ⟨by decide, by decide⟩ dX13_chain_39 (by decide) rfl (fun c4 => ?_) (fun c4 => ?_)
        · refine z_aload_n (q := 46) 0 dX13_chain_45 rfl rfl ?_
          refine z_bipush (q := 48) dX13_chain_46 rfl (by decide) ?_
          refine z_iload_n (q := 49) 1 dX13_chain_48 rfl rfl ?_
          refine z_sub (L' := [(0, 2, 88), (2, 0, x2), (3, 0, x3)]) [0, 2, 3] rfl ?_
          exact z_goV (q := 52) (av := [(0, 8), (0, x1)]) (rest := []) cb11 (hl0.i 88 (by decide) rfl) z_tov hl0 (u1 c1 c2 c3 c4) mo_X13_takeWay np_X13_takeWay k1449 k1451 k58 rfl (nle rfl) dX13_chain_49 rfl
        · refine z_bipush (q := 44) dX13_chain_42 rfl (by decide) ?_
          exact z_iret rfl dX13_chain_44 ⟨hl0, u2 c1 c2 c3 c4⟩
      · rw [z_b0 c3]
        refine z_if_ne (q := 21) (t := 24) ⟨by decide, by decide⟩ dX13_chain_18 (by decide) rfl (fun c => absurd c (by decide)) (fun _ => ?_)
        refine z_bipush (q := 23) dX13_chain_21 rfl (by decide) ?_
        exact z_iret rfl dX13_chain_23 ⟨hl0, u3 c1 c2 c3⟩
    · rw [z_b0 c2]
      refine z_if_eq (q := 14) (t := 21) ⟨by decide, by decide⟩ dX13_chain_11 (by decide) rfl (fun _ => ?_) (fun c => absurd c (by decide))
      refine z_bipush (q := 23) dX13_chain_21 rfl (by decide) ?_
      exact z_iret rfl dX13_chain_23 ⟨hl0, u4 c1 c2⟩
  · rw [z_b0 c1]
    refine z_if_eq (q := 7) (t := 21) ⟨by decide, by decide⟩ dX13_chain_4 (by decide) rfl (fun _ => ?_) (fun c => absurd c (by decide))
    refine z_bipush (q := 23) dX13_chain_21 rfl (by decide) ?_
    exact z_iret rfl dX13_chain_23 ⟨hl0, u5 c1⟩
theorem b_X13_chain_52 {D : zD} {d : Nat} {G : zG} {h : zH} {Q : zO → zG → zH → Prop} {x2 x3 : Int}
    (u1 : z_Y D M_X13_chain d 55 [(0, 2, 88), (2, 0, x2), (3, 0, x3), (4, 0, 0)] [] G h Q) :
    z_Y D M_X13_chain d 52 [(0, 2, 88), (2, 0, x2), (3, 0, x3)] [] G h Q := by
  intro hl0
  refine z_iconst (q := 53) dX13_chain_52 rfl ?_
  refine z_istore (q := 55) (L' := [(0, 2, 88), (2, 0, x2), (3, 0, x3), (4, 0, 0)]) dX13_chain_53 rfl (by decide) rfl ?_
  exact u1 hl0
theorem b_X13_chain_55 {D : zD} {d : Nat} {G : zG} {h : zH} {Q : zO → zG → zH → Prop} {x2 x3 x4 : Int} (p1 : 0 ≤ x2) (p2 : x2 < 9) (p3 : z_in x4) (p4 : z_in (h 95 x2)) (p5 : ¬ ((h 95 x2) ≤ x4) → 0 ≤ ((12 * x2) + x4)) (p6 : ¬ ((h 95 x2) ≤ x4) → ((12 * x2) + x4) < 108) (p7 : ¬ ((h 95 x2) ≤ x4) → 0 ≤ (96 + (h 95 8))) (p8 : ¬ ((h 95 x2) ≤ x4) → (96 + (h 95 8)) < 108)
    (u1 : (h 95 x2) ≤ x4 → z_Kv D M_X13_takeWay d [(2, 88), (0, x3), (0, 8)] G h (fun G' h' => z_Y D M_X13_chain d 159 [(0, 2, 88), (3, 0, x3)] [] G' h' Q))
    (u2 : ¬ ((h 95 x2) ≤ x4) → z_Y D M_X13_chain d 55 [(0, 2, 88), (2, 0, x2), (3, 0, x3), (4, 0, (x4 + 1))] [] G (z_wr (z_wr (z_wr (z_wr h 96 (96 + (h 95 8)) (h 96 ((12 * x2) + x4))) 97 (96 + (h 95 8)) (h 97 ((12 * x2) + x4))) 98 (96 + (h 95 8)) (h 98 ((12 * x2) + x4))) 95 8 ((h 95 8) + 1)) Q) :
    z_Y D M_X13_chain d 55 [(0, 2, 88), (2, 0, x2), (3, 0, x3), (4, 0, x4)] [] G h Q := by
  intro hl0
  refine z_iload (q := 57) 3 dX13_chain_55 rfl rfl ?_
  refine z_aload_n (q := 58) 0 dX13_chain_57 rfl rfl ?_
  refine z_gf (q := 61) (ki := 8) (v := (2, 95)) fX13_29 rfl (z_ldr rfl (hl0.ref 87 rfl)) (hl0.i 88 (by decide) rfl) dX13_chain_58 rfl ?_
  refine z_iload_n (q := 62) 1 dX13_chain_61 rfl rfl ?_
  refine z_iale (q := 63) (v := (h 95 x2)) (hl0.a 95 (by decide) rfl) p1 p2 rfl dX13_chain_62 rfl ?_
  refine z_icmp_ge (q := 66) (t := 152) p3 p4 dX13_chain_63 (by decide) rfl (fun c1 => ?_) (fun c1 => ?_)
  · refine z_aload_n (q := 153) 0 dX13_chain_152 rfl rfl ?_
    refine z_iload_n (q := 154) 2 dX13_chain_153 rfl rfl ?_
    refine z_bipush (q := 156) dX13_chain_154 rfl (by decide) ?_
    refine z_sub (L' := [(0, 2, 88), (3, 0, x3)]) [0, 2] rfl ?_
    exact z_goV (q := 159) (av := [(0, x3), (0, 8)]) (rest := []) cb11 (hl0.i 88 (by decide) rfl) z_tov hl0 (u1 c1) mo_X13_takeWay np_X13_takeWay k1449 k1451 k58 rfl (nle rfl) dX13_chain_156 rfl
  · refine z_bipush (q := 68) dX13_chain_66 rfl (by decide) ?_
    refine z_aload_n (q := 69) 0 dX13_chain_68 rfl rfl ?_
    refine z_gf (q := 72) (ki := 8) (v := (2, 95)) fX13_29 rfl (z_ldr rfl (hl0.ref 87 rfl)) (hl0.i 88 (by decide) rfl) dX13_chain_69 rfl ?_
    refine z_bipush (q := 74) dX13_chain_72 rfl (by decide) ?_
    refine z_iale (q := 75) (v := (h 95 8)) (hl0.a 95 (by decide) rfl) (by decide) (by decide) rfl dX13_chain_74 rfl ?_
    refine z_iadd (q := 76) dX13_chain_75 rfl ?_
    refine z_istore (q := 78) (L' := [(0, 2, 88), (2, 0, x2), (3, 0, x3), (4, 0, x4), (5, 0, (96 + (h 95 8)))]) dX13_chain_76 rfl (by decide) rfl ?_
    refine z_aload_n (q := 79) 0 dX13_chain_78 rfl rfl ?_
    refine z_gf (q := 82) (ki := 9) (v := (2, 96)) fX13_32 rfl (z_ldr rfl (hl0.ref 88 rfl)) (hl0.i 88 (by decide) rfl) dX13_chain_79 rfl ?_
    refine z_iload (q := 84) 4 dX13_chain_82 rfl rfl ?_
    refine z_aload_n (q := 85) 0 dX13_chain_84 rfl rfl ?_
    refine z_gf (q := 88) (ki := 9) (v := (2, 96)) fX13_32 rfl (z_ldr rfl (hl0.ref 88 rfl)) (hl0.i 88 (by decide) rfl) dX13_chain_85 rfl ?_
    refine z_bipush (q := 90) dX13_chain_88 rfl (by decide) ?_
    refine z_iload_n (q := 91) 1 dX13_chain_90 rfl rfl ?_
    refine z_imul (q := 92) dX13_chain_91 rfl ?_
    refine z_iload (q := 94) 3 dX13_chain_92 rfl rfl ?_
    refine z_iadd (q := 95) dX13_chain_94 rfl ?_
    refine z_iale (q := 96) (v := (h 96 ((12 * x2) + x4))) (hl0.a 96 (by decide) rfl) (p5 c1) (p6 c1) rfl dX13_chain_95 rfl ?_
    refine z_isn (q := 97) (hl0.i 96 (by decide) rfl) (hl0.n 96 (by decide) rfl) (p7 c1) (p8 c1) dX13_chain_96 rfl ?_
    have hl1 := hl0.wr (v := (h 96 ((12 * x2) + x4))) (hl0.i 96 (by decide) rfl) (i := (96 + (h 95 8))) rfl
    refine z_aload_n (q := 98) 0 dX13_chain_97 rfl rfl ?_
    refine z_gf (q := 101) (ki := 10) (v := (2, 97)) fX13_35 rfl (z_ldr rfl (hl1.ref 89 rfl)) (hl1.i 88 (by decide) rfl) dX13_chain_98 rfl ?_
    refine z_iload (q := 103) 4 dX13_chain_101 rfl rfl ?_
    refine z_aload_n (q := 104) 0 dX13_chain_103 rfl rfl ?_
    refine z_gf (q := 107) (ki := 10) (v := (2, 97)) fX13_35 rfl (z_ldr rfl (hl1.ref 89 rfl)) (hl1.i 88 (by decide) rfl) dX13_chain_104 rfl ?_
    refine z_bipush (q := 109) dX13_chain_107 rfl (by decide) ?_
    refine z_iload_n (q := 110) 1 dX13_chain_109 rfl rfl ?_
    refine z_imul (q := 111) dX13_chain_110 rfl ?_
    refine z_iload (q := 113) 3 dX13_chain_111 rfl rfl ?_
    refine z_iadd (q := 114) dX13_chain_113 rfl ?_
    refine z_iale (q := 115) (v := (h 97 ((12 * x2) + x4))) (hl1.a 97 (by decide) rfl) (p5 c1) (p6 c1) (w_na (by decide)) dX13_chain_114 rfl ?_
    refine z_isn (q := 116) (hl1.i 97 (by decide) rfl) (hl1.n 97 (by decide) rfl) (p7 c1) (p8 c1) dX13_chain_115 rfl ?_
    have hl2 := hl1.wr (v := (h 97 ((12 * x2) + x4))) (hl1.i 97 (by decide) rfl) (i := (96 + (h 95 8))) rfl
    refine z_aload_n (q := 117) 0 dX13_chain_116 rfl rfl ?_
    refine z_gf (q := 120) (ki := 11) (v := (2, 98)) fX13_38 rfl (z_ldr rfl (hl2.ref 90 rfl)) (hl2.i 88 (by decide) rfl) dX13_chain_117 rfl ?_
    refine z_iload (q := 122) 4 dX13_chain_120 rfl rfl ?_
    refine z_aload_n (q := 123) 0 dX13_chain_122 rfl rfl ?_
    refine z_gf (q := 126) (ki := 11) (v := (2, 98)) fX13_38 rfl (z_ldr rfl (hl2.ref 90 rfl)) (hl2.i 88 (by decide) rfl) dX13_chain_123 rfl ?_
    refine z_bipush (q := 128) dX13_chain_126 rfl (by decide) ?_
    refine z_iload_n (q := 129) 1 dX13_chain_128 rfl rfl ?_
    refine z_imul (q := 130) dX13_chain_129 rfl ?_
    refine z_iload (q := 132) 3 dX13_chain_130 rfl rfl ?_
    refine z_iadd (q := 133) dX13_chain_132 rfl ?_
    refine z_iale (q := 134) (v := (h 98 ((12 * x2) + x4))) (hl2.a 98 (by decide) rfl) (p5 c1) (p6 c1) ((w_na (by decide)).trans (w_na (by decide))) dX13_chain_133 rfl ?_
    refine z_isn (q := 135) (hl2.i 98 (by decide) rfl) (hl2.n 98 (by decide) rfl) (p7 c1) (p8 c1) dX13_chain_134 rfl ?_
    have hl3 := hl2.wr (v := (h 98 ((12 * x2) + x4))) (hl2.i 98 (by decide) rfl) (i := (96 + (h 95 8))) rfl
    refine z_aload_n (q := 136) 0 dX13_chain_135 rfl rfl ?_
    refine z_gf (q := 139) (ki := 8) (v := (2, 95)) fX13_29 rfl (z_ldr rfl (hl3.ref 87 rfl)) (hl3.i 88 (by decide) rfl) dX13_chain_136 rfl ?_
    refine z_bipush (q := 141) dX13_chain_139 rfl (by decide) ?_
    refine z_dup2 (q := 142) (by decide) (by decide) dX13_chain_141 rfl ?_
    refine z_iale (q := 143) (v := (h 95 8)) (hl3.a 95 (by decide) rfl) (by decide) (by decide) ((w_na (by decide)).trans ((w_na (by decide)).trans (w_na (by decide)))) dX13_chain_142 rfl ?_
    refine z_iconst (q := 144) dX13_chain_143 rfl ?_
    refine z_iadd (q := 145) dX13_chain_144 rfl ?_
    refine z_isn (q := 146) (hl3.i 95 (by decide) rfl) (hl3.n 95 (by decide) rfl) (by decide) (by decide) dX13_chain_145 rfl ?_
    have hl4 := hl3.wr (v := ((h 95 8) + 1)) (hl3.i 95 (by decide) rfl) (i := 8) rfl
    refine z_iinc (q := 149) (L' := [(0, 2, 88), (2, 0, x2), (3, 0, x3), (4, 0, (x4 + 1)), (5, 0, (96 + (h 95 8)))]) 3 dX13_chain_146 rfl rfl (by decide) rfl ?_
    refine z_goto (t := 55) dX13_chain_149 (by decide) ?_
    refine z_sub (L' := [(0, 2, 88), (2, 0, x2), (3, 0, x3), (4, 0, (x4 + 1))]) [0, 1, 2, 3] rfl ?_
    exact u2 c1 hl4
theorem b_X13_chain_159 {D : zD} {d : Nat} {G : zG} {h : zH} {Q : zO → zG → zH → Prop} {x3 : Int} (p1 : 0 ≤ x3) (p2 : x3 < 9)
    (u1 : Q (.inl (some (0, (h 95 x3)))) G h) :
    z_Y D M_X13_chain d 159 [(0, 2, 88), (3, 0, x3)] [] G h Q := by
  intro hl0
  refine z_aload_n (q := 160) 0 dX13_chain_159 rfl rfl ?_
  refine z_gf (q := 163) (ki := 8) (v := (2, 95)) fX13_29 rfl (z_ldr rfl (hl0.ref 87 rfl)) (hl0.i 88 (by decide) rfl) dX13_chain_160 rfl ?_
  refine z_iload_n (q := 164) 1 dX13_chain_163 rfl rfl ?_
  refine z_iale (q := 165) (v := (h 95 x3)) (hl0.a 95 (by decide) rfl) p1 p2 rfl dX13_chain_164 rfl ?_
  exact z_iret rfl dX13_chain_165 ⟨hl0, u1⟩
theorem b_X13_part_0 {D : zD} {d : Nat} {G : zG} {h : zH} {Q : zO → zG → zH → Prop} {x1 x2 x3 x4 x5 : Int} (hd : 3 ≤ d) (p1 : z_in x1) (p2 : 0 ≤ x1 ∧ x1 ≤ 7 → z_in x2) (p3 : 0 ≤ x1 ∧ x1 ≤ 7 → 0 ≤ x2 ∧ x2 ≤ 7 → z_in x3) (p4 : 0 ≤ x1 ∧ x1 ≤ 7 → 0 ≤ x2 ∧ x2 ≤ 7 → z_in64 x3) (p5 : 0 ≤ x1 ∧ x1 ≤ 7 → 0 ≤ x2 ∧ x2 ≤ 7 → 1 ≤ x3 ∧ x3 ≤ 3 → z_in x4) (p6 : 0 ≤ x1 ∧ x1 ≤ 7 → 0 ≤ x2 ∧ x2 ≤ 7 → 1 ≤ x3 ∧ x3 ≤ 3 → z_in64 x4) (p7 : 0 ≤ x1 ∧ x1 ≤ 7 → 0 ≤ x2 ∧ x2 ≤ 7 → 1 ≤ x3 ∧ x3 ≤ 3 → 1 ≤ x4 ∧ x4 ≤ 2 → z_in x5)
    (u1 : 0 ≤ x1 ∧ x1 ≤ 7 → 0 ≤ x2 ∧ x2 ≤ 7 → 1 ≤ x3 ∧ x3 ≤ 3 → 1 ≤ x4 ∧ x4 ≤ 2 → 0 ≤ x5 ∧ x5 ≤ 7 → z_Y D M_X13_part d 56 [(0, 2, 88), (1, 0, x1), (2, 0, x2), (3, 0, x3), (4, 0, x4), (5, 0, x5), (6, 0, 0), (7, 0, 1)] [] G h Q)
    (u2 : 0 ≤ x1 ∧ x1 ≤ 7 → 0 ≤ x2 ∧ x2 ≤ 7 → 1 ≤ x3 ∧ x3 ≤ 3 → 1 ≤ x4 ∧ x4 ≤ 2 → ¬ (0 ≤ x5 ∧ x5 ≤ 7) → Q (.inl (some (0, (-2)))) G h)
    (u3 : 0 ≤ x1 ∧ x1 ≤ 7 → 0 ≤ x2 ∧ x2 ≤ 7 → 1 ≤ x3 ∧ x3 ≤ 3 → ¬ (1 ≤ x4 ∧ x4 ≤ 2) → Q (.inl (some (0, (-2)))) G h)
    (u4 : 0 ≤ x1 ∧ x1 ≤ 7 → 0 ≤ x2 ∧ x2 ≤ 7 → ¬ (1 ≤ x3 ∧ x3 ≤ 3) → Q (.inl (some (0, (-2)))) G h)
    (u5 : 0 ≤ x1 ∧ x1 ≤ 7 → ¬ (0 ≤ x2 ∧ x2 ≤ 7) → Q (.inl (some (0, (-2)))) G h)
    (u6 : ¬ (0 ≤ x1 ∧ x1 ≤ 7) → Q (.inl (some (0, (-2)))) G h) :
    z_Y D M_X13_part d 0 [(0, 2, 88), (1, 0, x1), (2, 0, x2), (3, 0, x3), (4, 0, x4), (5, 0, x5)] [] G h Q := by
  intro hl0
  refine z_iload_n (q := 1) 1 dX13_part_0 rfl rfl ?_
  have e1 := a_X13_isWay (D := D) (G := G) (h := h) (d := d - 1) (by omega) x1 p1
  refine z_goS (q := 4) (av := [(0, x1)]) (rest := []) (z_toi) hl0 (z_Ei.K e1 (by omega) ?_) mo_X13_isWay np_X13_isWay k1356 k1357 rfl (nle rfl) dX13_part_1 rfl
  by_cases c1 : 0 ≤ x1 ∧ x1 ≤ 7
  · rw [z_b1 c1]
    refine z_if_eq (q := 7) (t := 47) ⟨by decide, by decide⟩ dX13_part_4 (by decide) rfl (fun c => absurd c (by decide)) (fun _ => ?_)
    refine z_iload_n (q := 8) 2 dX13_part_7 rfl rfl ?_
    have e2 := a_X13_isWay (D := D) (G := G) (h := h) (d := d - 1) (by omega) x2 (p2 c1)
    refine z_goS (q := 11) (av := [(0, x2)]) (rest := []) (z_toi) hl0 (z_Ei.K e2 (by omega) ?_) mo_X13_isWay np_X13_isWay k1356 k1357 rfl (nle rfl) dX13_part_8 rfl
    by_cases c2 : 0 ≤ x2 ∧ x2 ≤ 7
    · rw [z_b1 c2]
      refine z_if_eq (q := 14) (t := 47) ⟨by decide, by decide⟩ dX13_part_11 (by decide) rfl (fun c => absurd c (by decide)) (fun _ => ?_)
      refine z_iload_n (q := 15) 3 dX13_part_14 rfl rfl ?_
      refine z_i2l (q := 16) (p3 c1 c2) dX13_part_15 rfl ?_
      refine z_lconst1 (q := 17) dX13_part_16 rfl ?_
      refine z_ldc2 (q := 20) (n := 3) k1619 (by decide) dX13_part_17 rfl ?_
      have e3 := a_X13_in (D := D) (G := G) (h := h) (d := d - 1) (by omega) x3 1 3 (p4 c1 c2) ⟨by decide, by decide⟩ ⟨by decide, by decide⟩
      refine z_goS (q := 23) (av := [(1, x3), (1, 1), (1, 3)]) (rest := []) (z_toi) hl0 (z_Ei.K e3 (by omega) ?_) mo_X13_in np_X13_in k1300 k1301 rfl (nle rfl) dX13_part_20 rfl
      by_cases c3 : 1 ≤ x3 ∧ x3 ≤ 3
      · rw [z_b1 c3]
        refine z_if_eq (q := 26) (t := 47) ⟨by decide, by decide⟩ dX13_part_23 (by decide) rfl (fun c => absurd c (by decide)) (fun _ => ?_)
        refine z_iload (q := 28) 4 dX13_part_26 rfl rfl ?_
        refine z_i2l (q := 29) (p5 c1 c2 c3) dX13_part_28 rfl ?_
        refine z_lconst1 (q := 30) dX13_part_29 rfl ?_
        refine z_ldc2 (q := 33) (n := 2) k1461 (by decide) dX13_part_30 rfl ?_
        have e4 := a_X13_in (D := D) (G := G) (h := h) (d := d - 1) (by omega) x4 1 2 (p6 c1 c2 c3) ⟨by decide, by decide⟩ ⟨by decide, by decide⟩
        refine z_goS (q := 36) (av := [(1, x4), (1, 1), (1, 2)]) (rest := []) (z_toi) hl0 (z_Ei.K e4 (by omega) ?_) mo_X13_in np_X13_in k1300 k1301 rfl (nle rfl) dX13_part_33 rfl
        by_cases c4 : 1 ≤ x4 ∧ x4 ≤ 2
        · rw [z_b1 c4]
          refine z_if_eq (q := 39) (t := 47) ⟨by decide, by decide⟩ dX13_part_36 (by decide) rfl (fun c => absurd c (by decide)) (fun _ => ?_)
          refine z_iload (q := 41) 5 dX13_part_39 rfl rfl ?_
          have e5 := a_X13_isTable (D := D) (G := G) (h := h) (d := d - 1) (by omega) x5 (p7 c1 c2 c3 c4)
          refine z_goS (q := 44) (av := [(0, x5)]) (rest := []) (z_toi) hl0 (z_Ei.K e5 (by omega) ?_) mo_X13_isTable np_X13_isTable k1311 k1312 rfl (nle rfl) dX13_part_41 rfl
          by_cases c5 : 0 ≤ x5 ∧ x5 ≤ 7
          · rw [z_b1 c5]
            refine z_if_ne (q := 47) (t := 50) ⟨by decide, by decide⟩ dX13_part_44 (by decide) rfl (fun _ => ?_) (fun c => absurd c (by decide))
            refine z_iconst (q := 51) dX13_part_50 rfl ?_
            refine z_istore (q := 53) (L' := [(0, 2, 88), (1, 0, x1), (2, 0, x2), (3, 0, x3), (4, 0, x4), (5, 0, x5), (6, 0, 0)]) dX13_part_51 rfl (by decide) rfl ?_
            refine z_iconst (q := 54) dX13_part_53 rfl ?_
            refine z_istore (q := 56) (L' := [(0, 2, 88), (1, 0, x1), (2, 0, x2), (3, 0, x3), (4, 0, x4), (5, 0, x5), (6, 0, 0), (7, 0, 1)]) dX13_part_54 rfl (by decide) rfl ?_
            exact u1 c1 c2 c3 c4 c5 hl0
          · rw [z_b0 c5]
            refine z_if_ne (q := 47) (t := 50) ⟨by decide, by decide⟩ dX13_part_44 (by decide) rfl (fun c => absurd c (by decide)) (fun _ => ?_)
            refine z_bipush (q := 49) dX13_part_47 rfl (by decide) ?_
            exact z_iret rfl dX13_part_49 ⟨hl0, u2 c1 c2 c3 c4 c5⟩
        · rw [z_b0 c4]
          refine z_if_eq (q := 39) (t := 47) ⟨by decide, by decide⟩ dX13_part_36 (by decide) rfl (fun _ => ?_) (fun c => absurd c (by decide))
          refine z_bipush (q := 49) dX13_part_47 rfl (by decide) ?_
          exact z_iret rfl dX13_part_49 ⟨hl0, u3 c1 c2 c3 c4⟩
      · rw [z_b0 c3]
        refine z_if_eq (q := 26) (t := 47) ⟨by decide, by decide⟩ dX13_part_23 (by decide) rfl (fun _ => ?_) (fun c => absurd c (by decide))
        refine z_bipush (q := 49) dX13_part_47 rfl (by decide) ?_
        exact z_iret rfl dX13_part_49 ⟨hl0, u4 c1 c2 c3⟩
    · rw [z_b0 c2]
      refine z_if_eq (q := 14) (t := 47) ⟨by decide, by decide⟩ dX13_part_11 (by decide) rfl (fun _ => ?_) (fun c => absurd c (by decide))
      refine z_bipush (q := 49) dX13_part_47 rfl (by decide) ?_
      exact z_iret rfl dX13_part_49 ⟨hl0, u5 c1 c2⟩
  · rw [z_b0 c1]
    refine z_if_eq (q := 7) (t := 47) ⟨by decide, by decide⟩ dX13_part_4 (by decide) rfl (fun _ => ?_) (fun c => absurd c (by decide))
    refine z_bipush (q := 49) dX13_part_47 rfl (by decide) ?_
    exact z_iret rfl dX13_part_49 ⟨hl0, u6 c1⟩
theorem b_X13_part_56 {D : zD} {d : Nat} {G : zG} {h : zH} {Q : zO → zG → zH → Prop} {x1 x2 x3 x4 x5 x6 x7 : Int} (p1 : z_in x7) (p2 : z_in x4)
    (u1 : x4 < x7 → Q (.inl (some (0, (-1)))) G h)
    (u2 : ¬ (x4 < x7) → z_Y D M_X13_part d 69 [(0, 2, 88), (1, 0, x1), (2, 0, x2), (3, 0, x3), (4, 0, x4), (5, 0, x5), (6, 0, x6), (7, 0, x7), (8, 0, 1), (9, 0, 0)] [] G h Q) :
    z_Y D M_X13_part d 56 [(0, 2, 88), (1, 0, x1), (2, 0, x2), (3, 0, x3), (4, 0, x4), (5, 0, x5), (6, 0, x6), (7, 0, x7)] [] G h Q := by
  intro hl0
  refine z_iload (q := 58) 7 dX13_part_56 rfl rfl ?_
  refine z_iload (q := 60) 4 dX13_part_58 rfl rfl ?_
  refine z_icmp_gt (q := 63) (t := 228) p1 p2 dX13_part_60 (by decide) rfl (fun c1 => ?_) (fun c1 => ?_)
  · refine z_iconst (q := 229) dX13_part_228 rfl ?_
    exact z_iret rfl dX13_part_229 ⟨hl0, u1 c1⟩
  · refine z_iconst (q := 64) dX13_part_63 rfl ?_
    refine z_istore (q := 66) (L' := [(0, 2, 88), (1, 0, x1), (2, 0, x2), (3, 0, x3), (4, 0, x4), (5, 0, x5), (6, 0, x6), (7, 0, x7), (8, 0, 1)]) dX13_part_64 rfl (by decide) rfl ?_
    refine z_iconst (q := 67) dX13_part_66 rfl ?_
    refine z_istore (q := 69) (L' := [(0, 2, 88), (1, 0, x1), (2, 0, x2), (3, 0, x3), (4, 0, x4), (5, 0, x5), (6, 0, x6), (7, 0, x7), (8, 0, 1), (9, 0, 0)]) dX13_part_67 rfl (by decide) rfl ?_
    exact u2 c1 hl0
theorem b_X13_part_69 {D : zD} {d : Nat} {G : zG} {h : zH} {Q : zO → zG → zH → Prop} {x1 x2 x3 x4 x5 x6 x7 x8 x9 : Int} (p1 : z_in x9) (p2 : z_in (x7 * x3))
    (u1 : (x7 * x3) ≤ x9 → z_Y D M_X13_part d 94 [(0, 2, 88), (1, 0, x1), (2, 0, x2), (3, 0, x3), (4, 0, x4), (5, 0, x5), (6, 0, x6), (7, 0, x7), (8, 0, x8), (9, 0, 0)] [] G h Q)
    (u2 : ¬ ((x7 * x3) ≤ x9) → z_Y D M_X13_part d 69 [(0, 2, 88), (1, 0, x1), (2, 0, x2), (3, 0, x3), (4, 0, x4), (5, 0, x5), (6, 0, x6), (7, 0, x7), (8, 0, (x8 * 6)), (9, 0, (x9 + 1))] [] G h Q) :
    z_Y D M_X13_part d 69 [(0, 2, 88), (1, 0, x1), (2, 0, x2), (3, 0, x3), (4, 0, x4), (5, 0, x5), (6, 0, x6), (7, 0, x7), (8, 0, x8), (9, 0, x9)] [] G h Q := by
  intro hl0
  refine z_iload (q := 71) 9 dX13_part_69 rfl rfl ?_
  refine z_iload (q := 73) 7 dX13_part_71 rfl rfl ?_
  refine z_iload_n (q := 74) 3 dX13_part_73 rfl rfl ?_
  refine z_imul (q := 75) dX13_part_74 rfl ?_
  refine z_icmp_ge (q := 78) (t := 91) p1 p2 dX13_part_75 (by decide) rfl (fun c1 => ?_) (fun c1 => ?_)
  · refine z_iconst (q := 92) dX13_part_91 rfl ?_
    refine z_istore (q := 94) (L' := [(0, 2, 88), (1, 0, x1), (2, 0, x2), (3, 0, x3), (4, 0, x4), (5, 0, x5), (6, 0, x6), (7, 0, x7), (8, 0, x8), (9, 0, 0)]) dX13_part_92 rfl (by decide) rfl ?_
    exact u1 c1 hl0
  · refine z_iload (q := 80) 8 dX13_part_78 rfl rfl ?_
    refine z_bipush (q := 82) dX13_part_80 rfl (by decide) ?_
    refine z_imul (q := 83) dX13_part_82 rfl ?_
    refine z_istore (q := 85) (L' := [(0, 2, 88), (1, 0, x1), (2, 0, x2), (3, 0, x3), (4, 0, x4), (5, 0, x5), (6, 0, x6), (7, 0, x7), (8, 0, (x8 * 6)), (9, 0, x9)]) dX13_part_83 rfl (by decide) rfl ?_
    refine z_iinc (q := 88) (L' := [(0, 2, 88), (1, 0, x1), (2, 0, x2), (3, 0, x3), (4, 0, x4), (5, 0, x5), (6, 0, x6), (7, 0, x7), (8, 0, (x8 * 6)), (9, 0, (x9 + 1))]) 9 dX13_part_85 rfl rfl (by decide) rfl ?_
    refine z_goto (t := 69) dX13_part_88 (by decide) ?_
    exact u2 c1 hl0
theorem b_X13_part_94 {D : zD} {d : Nat} {G : zG} {h : zH} {Q : zO → zG → zH → Prop} {x1 x2 x3 x4 x5 x6 x7 x8 x9 : Int} (p1 : z_in x9) (p2 : z_in x8) (p3 : ¬ (x8 ≤ x9) → z_in x6)
    (u1 : x8 ≤ x9 → z_Y D M_X13_part d 56 [(0, 2, 88), (1, 0, x1), (2, 0, x2), (3, 0, x3), (4, 0, x4), (5, 0, x5), (6, 0, x6), (7, 0, (x7 + 1))] [] G h Q)
    (u2 : ¬ (x8 ≤ x9) → ¬ x6 = 1000 → z_Kv D M_X13_list d [(2, 88), (0, 11), (0, x7), (0, x3), (0, x9)] G h (fun G' h' => z_Y D M_X13_part d 126 [(0, 2, 88), (1, 0, x1), (2, 0, x2), (3, 0, x3), (4, 0, x4), (5, 0, x5), (6, 0, (x6 + 1)), (7, 0, x7), (8, 0, x8), (9, 0, x9)] [] G' h' Q))
    (u3 : ¬ (x8 ≤ x9) → ¬ (¬ x6 = 1000) → Q (.inl (some (0, (-3)))) G h) :
    z_Y D M_X13_part d 94 [(0, 2, 88), (1, 0, x1), (2, 0, x2), (3, 0, x3), (4, 0, x4), (5, 0, x5), (6, 0, x6), (7, 0, x7), (8, 0, x8), (9, 0, x9)] [] G h Q := by
  intro hl0
  refine z_iload (q := 96) 9 dX13_part_94 rfl rfl ?_
  refine z_iload (q := 98) 8 dX13_part_96 rfl rfl ?_
  refine z_icmp_ge (q := 101) (t := 222) p1 p2 dX13_part_98 (by decide) rfl (fun c1 => ?_) (fun c1 => ?_)
  · refine z_iinc (q := 225) (L' := [(0, 2, 88), (1, 0, x1), (2, 0, x2), (3, 0, x3), (4, 0, x4), (5, 0, x5), (6, 0, x6), (7, 0, (x7 + 1)), (8, 0, x8), (9, 0, x9)]) 7 dX13_part_222 rfl rfl (by decide) rfl ?_
    refine z_goto (t := 56) dX13_part_225 (by decide) ?_
    refine z_sub (L' := [(0, 2, 88), (1, 0, x1), (2, 0, x2), (3, 0, x3), (4, 0, x4), (5, 0, x5), (6, 0, x6), (7, 0, (x7 + 1))]) [0, 1, 2, 3, 4, 5, 6, 7] rfl ?_
    exact u1 c1 hl0
  · refine z_iload (q := 103) 6 dX13_part_101 rfl rfl ?_
    refine z_sipush (q := 106) dX13_part_103 rfl (by decide) ?_
    refine z_icmp_ne (q := 109) (t := 112) (p3 c1) ⟨by decide, by decide⟩ dX13_part_106 (by decide) rfl (fun c2 => ?_) (fun c2 => ?_)
    · refine z_iinc (q := 115) (L' := [(0, 2, 88), (1, 0, x1), (2, 0, x2), (3, 0, x3), (4, 0, x4), (5, 0, x5), (6, 0, (x6 + 1)), (7, 0, x7), (8, 0, x8), (9, 0, x9)]) 6 dX13_part_112 rfl rfl (by decide) rfl ?_
      refine z_aload_n (q := 116) 0 dX13_part_115 rfl rfl ?_
      refine z_bipush (q := 118) dX13_part_116 rfl (by decide) ?_
      refine z_iload (q := 120) 7 dX13_part_118 rfl rfl ?_
      refine z_iload_n (q := 121) 3 dX13_part_120 rfl rfl ?_
      refine z_iload (q := 123) 9 dX13_part_121 rfl rfl ?_
      exact z_goV (q := 126) (av := [(0, 11), (0, x7), (0, x3), (0, x9)]) (rest := []) cb11 (hl0.i 88 (by decide) rfl) z_tov hl0 (u2 c1 c2) mo_X13_list np_X13_list k1687 k1689 k95 rfl (nle rfl) dX13_part_123 rfl
    · refine z_bipush (q := 111) dX13_part_109 rfl (by decide) ?_
      exact z_iret rfl dX13_part_111 ⟨hl0, u3 c1 c2⟩
theorem b_X13_part_126 {D : zD} {d : Nat} {G : zG} {h : zH} {Q : zO → zG → zH → Prop} {x1 x2 x3 x4 x5 x6 x7 x8 x9 : Int}
    (u1 : z_Kv D M_X13_become d [(2, 88), (0, 8), (0, 11)] G h (fun G' h' => z_Y D M_X13_part d 134 [(0, 2, 88), (1, 0, x1), (2, 0, x2), (3, 0, x3), (4, 0, x4), (5, 0, x5), (6, 0, x6), (7, 0, x7), (8, 0, x8), (9, 0, x9)] [] G' h' Q)) :
    z_Y D M_X13_part d 126 [(0, 2, 88), (1, 0, x1), (2, 0, x2), (3, 0, x3), (4, 0, x4), (5, 0, x5), (6, 0, x6), (7, 0, x7), (8, 0, x8), (9, 0, x9)] [] G h Q := by
  intro hl0
  refine z_aload_n (q := 127) 0 dX13_part_126 rfl rfl ?_
  refine z_bipush (q := 129) dX13_part_127 rfl (by decide) ?_
  refine z_bipush (q := 131) dX13_part_129 rfl (by decide) ?_
  exact z_goV (q := 134) (av := [(0, 8), (0, 11)]) (rest := []) cb11 (hl0.i 88 (by decide) rfl) z_tov hl0 (u1) mo_X13_become np_X13_become k1348 k1350 k48 rfl (nle rfl) dX13_part_131 rfl
theorem b_X13_part_134 {D : zD} {d : Nat} {G : zG} {h : zH} {Q : zO → zG → zH → Prop} {x1 x2 x3 x4 x5 x6 x7 x8 x9 : Int}
    (u1 : z_Kv D M_X13_become d [(2, 88), (0, 9), (0, 11)] G h (fun G' h' => z_Y D M_X13_part d 142 [(0, 2, 88), (1, 0, x1), (2, 0, x2), (3, 0, x3), (4, 0, x4), (5, 0, x5), (6, 0, x6), (7, 0, x7), (8, 0, x8), (9, 0, x9)] [] G' h' Q)) :
    z_Y D M_X13_part d 134 [(0, 2, 88), (1, 0, x1), (2, 0, x2), (3, 0, x3), (4, 0, x4), (5, 0, x5), (6, 0, x6), (7, 0, x7), (8, 0, x8), (9, 0, x9)] [] G h Q := by
  intro hl0
  refine z_aload_n (q := 135) 0 dX13_part_134 rfl rfl ?_
  refine z_bipush (q := 137) dX13_part_135 rfl (by decide) ?_
  refine z_bipush (q := 139) dX13_part_137 rfl (by decide) ?_
  exact z_goV (q := 142) (av := [(0, 9), (0, 11)]) (rest := []) cb11 (hl0.i 88 (by decide) rfl) z_tov hl0 (u1) mo_X13_become np_X13_become k1348 k1350 k48 rfl (nle rfl) dX13_part_139 rfl
theorem b_X13_part_142 {D : zD} {d : Nat} {G : zG} {h : zH} {Q : zO → zG → zH → Prop} {x1 x2 x3 x4 x5 x6 x7 x8 x9 : Int}
    (u1 : z_Ki D M_X13_walks d [(2, 88), (0, x1), (0, 8)] G h (fun r G' h' => z_Y D M_X13_part d 149 [(0, 2, 88), (1, 0, x1), (2, 0, x2), (3, 0, x3), (4, 0, x4), (5, 0, x5), (6, 0, x6), (7, 0, x7), (8, 0, x8), (9, 0, x9)] [(0, r)] G' h' Q)) :
    z_Y D M_X13_part d 142 [(0, 2, 88), (1, 0, x1), (2, 0, x2), (3, 0, x3), (4, 0, x4), (5, 0, x5), (6, 0, x6), (7, 0, x7), (8, 0, x8), (9, 0, x9)] [] G h Q := by
  intro hl0
  refine z_aload_n (q := 143) 0 dX13_part_142 rfl rfl ?_
  refine z_iload_n (q := 144) 1 dX13_part_143 rfl rfl ?_
  refine z_bipush (q := 146) dX13_part_144 rfl (by decide) ?_
  exact z_goV (q := 149) (av := [(0, x1), (0, 8)]) (rest := []) cb11 (hl0.i 88 (by decide) rfl) z_toi hl0 (u1) mo_X13_walks np_X13_walks k1599 k1601 k81 rfl (nle rfl) dX13_part_146 rfl
theorem b_X13_part_149 {D : zD} {d : Nat} {G : zG} {h : zH} {Q : zO → zG → zH → Prop} {s0 x1 x2 x3 x4 x5 x6 x7 x8 x9 : Int} (p1 : z_in s0)
    (u1 : ¬ s0 = (-1) → z_Y D M_X13_part d 158 [(0, 2, 88), (1, 0, x1), (2, 0, x2), (3, 0, x3), (4, 0, x4), (5, 0, x5), (6, 0, x6), (7, 0, x7), (8, 0, x8), (9, 0, x9)] [(0, 0)] G h Q)
    (u2 : ¬ (¬ s0 = (-1)) → z_Y D M_X13_part d 158 [(0, 2, 88), (1, 0, x1), (2, 0, x2), (3, 0, x3), (4, 0, x4), (5, 0, x5), (6, 0, x6), (7, 0, x7), (8, 0, x8), (9, 0, x9)] [(0, 1)] G h Q) :
    z_Y D M_X13_part d 149 [(0, 2, 88), (1, 0, x1), (2, 0, x2), (3, 0, x3), (4, 0, x4), (5, 0, x5), (6, 0, x6), (7, 0, x7), (8, 0, x8), (9, 0, x9)] [(0, s0)] G h Q := by
  intro hl0
  refine z_iconst (q := 150) dX13_part_149 rfl ?_
  refine z_icmp_ne (q := 153) (t := 157) p1 ⟨by decide, by decide⟩ dX13_part_150 (by decide) rfl (fun c1 => ?_) (fun c1 => ?_)
  · refine z_iconst (q := 158) dX13_part_157 rfl ?_
    exact u1 c1 hl0
  · refine z_iconst (q := 154) dX13_part_153 rfl ?_
    refine z_goto (t := 158) dX13_part_154 (by decide) ?_
    exact u2 c1 hl0
theorem b_X13_part_158 {D : zD} {d : Nat} {G : zG} {h : zH} {Q : zO → zG → zH → Prop} {s0 x1 x2 x3 x4 x5 x6 x7 x8 x9 : Int}
    (u1 : z_Ki D M_X13_walks d [(2, 88), (0, x2), (0, 9)] G h (fun r G' h' => z_Y D M_X13_part d 167 [(0, 2, 88), (1, 0, x1), (2, 0, x2), (3, 0, x3), (4, 0, x4), (5, 0, x5), (6, 0, x6), (7, 0, x7), (8, 0, x8), (9, 0, x9), (10, 0, s0)] [(0, r)] G' h' Q)) :
    z_Y D M_X13_part d 158 [(0, 2, 88), (1, 0, x1), (2, 0, x2), (3, 0, x3), (4, 0, x4), (5, 0, x5), (6, 0, x6), (7, 0, x7), (8, 0, x8), (9, 0, x9)] [(0, s0)] G h Q := by
  intro hl0
  refine z_istore (q := 160) (L' := [(0, 2, 88), (1, 0, x1), (2, 0, x2), (3, 0, x3), (4, 0, x4), (5, 0, x5), (6, 0, x6), (7, 0, x7), (8, 0, x8), (9, 0, x9), (10, 0, s0)]) dX13_part_158 rfl (by decide) rfl ?_
  refine z_aload_n (q := 161) 0 dX13_part_160 rfl rfl ?_
  refine z_iload_n (q := 162) 2 dX13_part_161 rfl rfl ?_
  refine z_bipush (q := 164) dX13_part_162 rfl (by decide) ?_
  exact z_goV (q := 167) (av := [(0, x2), (0, 9)]) (rest := []) cb11 (hl0.i 88 (by decide) rfl) z_toi hl0 (u1) mo_X13_walks np_X13_walks k1599 k1601 k81 rfl (nle rfl) dX13_part_164 rfl
theorem b_X13_part_167 {D : zD} {d : Nat} {G : zG} {h : zH} {Q : zO → zG → zH → Prop} {s0 x1 x10 x2 x3 x4 x5 x6 x7 x8 x9 : Int} (p1 : z_in s0)
    (u1 : ¬ s0 = (-1) → z_Y D M_X13_part d 176 [(0, 2, 88), (1, 0, x1), (2, 0, x2), (3, 0, x3), (4, 0, x4), (5, 0, x5), (6, 0, x6), (7, 0, x7), (8, 0, x8), (9, 0, x9), (10, 0, x10)] [(0, 0)] G h Q)
    (u2 : ¬ (¬ s0 = (-1)) → z_Y D M_X13_part d 176 [(0, 2, 88), (1, 0, x1), (2, 0, x2), (3, 0, x3), (4, 0, x4), (5, 0, x5), (6, 0, x6), (7, 0, x7), (8, 0, x8), (9, 0, x9), (10, 0, x10)] [(0, 1)] G h Q) :
    z_Y D M_X13_part d 167 [(0, 2, 88), (1, 0, x1), (2, 0, x2), (3, 0, x3), (4, 0, x4), (5, 0, x5), (6, 0, x6), (7, 0, x7), (8, 0, x8), (9, 0, x9), (10, 0, x10)] [(0, s0)] G h Q := by
  intro hl0
  refine z_iconst (q := 168) dX13_part_167 rfl ?_
  refine z_icmp_ne (q := 171) (t := 175) p1 ⟨by decide, by decide⟩ dX13_part_168 (by decide) rfl (fun c1 => ?_) (fun c1 => ?_)
  · refine z_iconst (q := 176) dX13_part_175 rfl ?_
    exact u1 c1 hl0
  · refine z_iconst (q := 172) dX13_part_171 rfl ?_
    refine z_goto (t := 176) dX13_part_172 (by decide) ?_
    exact u2 c1 hl0
theorem b_X13_part_176 {D : zD} {d : Nat} {G : zG} {h : zH} {Q : zO → zG → zH → Prop} {s0 x1 x10 x2 x3 x4 x5 x6 x7 x8 x9 : Int} (p1 : z_in x10) (p2 : z_in s0)
    (u1 : ¬ x10 = s0 → z_Y D M_X13_part d 205 [(0, 2, 88), (5, 0, x5), (6, 0, x6)] [] G h Q)
    (u2 : ¬ (¬ x10 = s0) → x10 = 0 → z_Y D M_X13_part d 94 [(0, 2, 88), (1, 0, x1), (2, 0, x2), (3, 0, x3), (4, 0, x4), (5, 0, x5), (6, 0, x6), (7, 0, x7), (8, 0, x8), (9, 0, (x9 + 1))] [] G h Q)
    (u3 : ¬ (¬ x10 = s0) → ¬ (x10 = 0) → z_Ki D M_X13_fit d [(2, 88), (0, 8), (0, 9), (0, 0)] G h (fun r G' h' => z_Y D M_X13_part d 199 [(0, 2, 88), (1, 0, x1), (2, 0, x2), (3, 0, x3), (4, 0, x4), (5, 0, x5), (6, 0, x6), (7, 0, x7), (8, 0, x8), (9, 0, x9)] [(0, r)] G' h' Q)) :
    z_Y D M_X13_part d 176 [(0, 2, 88), (1, 0, x1), (2, 0, x2), (3, 0, x3), (4, 0, x4), (5, 0, x5), (6, 0, x6), (7, 0, x7), (8, 0, x8), (9, 0, x9), (10, 0, x10)] [(0, s0)] G h Q := by
  intro hl0
  refine z_istore (q := 178) (L' := [(0, 2, 88), (1, 0, x1), (2, 0, x2), (3, 0, x3), (4, 0, x4), (5, 0, x5), (6, 0, x6), (7, 0, x7), (8, 0, x8), (9, 0, x9), (10, 0, x10), (11, 0, s0)]) dX13_part_176 rfl (by decide) rfl ?_
  refine z_iload (q := 180) 10 dX13_part_178 rfl rfl ?_
  refine z_iload (q := 182) 11 dX13_part_180 rfl rfl ?_
  refine z_icmp_ne (q := 185) (t := 205) p1 p2 dX13_part_182 (by decide) rfl (fun c1 => ?_) (fun c1 => ?_)
  · refine z_sub (L' := [(0, 2, 88), (5, 0, x5), (6, 0, x6)]) [0, 5, 6] rfl ?_
    exact u1 c1 hl0
  · refine z_iload (q := 187) 10 dX13_part_185 rfl rfl ?_
    refine z_if_eq (q := 190) (t := 216) p1 dX13_part_187 (by decide) rfl (fun c2 => ?_) (fun c2 => ?_)
    · refine z_iinc (q := 219) (L' := [(0, 2, 88), (1, 0, x1), (2, 0, x2), (3, 0, x3), (4, 0, x4), (5, 0, x5), (6, 0, x6), (7, 0, x7), (8, 0, x8), (9, 0, (x9 + 1)), (10, 0, x10), (11, 0, s0)]) 9 dX13_part_216 rfl rfl (by decide) rfl ?_
      refine z_goto (t := 94) dX13_part_219 (by decide) ?_
      refine z_sub (L' := [(0, 2, 88), (1, 0, x1), (2, 0, x2), (3, 0, x3), (4, 0, x4), (5, 0, x5), (6, 0, x6), (7, 0, x7), (8, 0, x8), (9, 0, (x9 + 1))]) [0, 1, 2, 3, 4, 5, 6, 7, 8, 9] rfl ?_
      exact u2 c1 c2 hl0
    · refine z_aload_n (q := 191) 0 dX13_part_190 rfl rfl ?_
      refine z_bipush (q := 193) dX13_part_191 rfl (by decide) ?_
      refine z_bipush (q := 195) dX13_part_193 rfl (by decide) ?_
      refine z_iconst (q := 196) dX13_part_195 rfl ?_
      refine z_sub (L' := [(0, 2, 88), (1, 0, x1), (2, 0, x2), (3, 0, x3), (4, 0, x4), (5, 0, x5), (6, 0, x6), (7, 0, x7), (8, 0, x8), (9, 0, x9)]) [0, 1, 2, 3, 4, 5, 6, 7, 8, 9] rfl ?_
      exact z_goV (q := 199) (av := [(0, 8), (0, 9), (0, 0)]) (rest := []) cb11 (hl0.i 88 (by decide) rfl) z_toi hl0 (u3 c1 c2) mo_X13_fit np_X13_fit k1486 k1488 k59 rfl (nle rfl) dX13_part_196 rfl
theorem b_X13_part_205 {D : zD} {d : Nat} {G : zG} {h : zH} {Q : zO → zG → zH → Prop} {x5 x6 : Int}
    (u1 : z_Kv D M_X13_become d [(2, 88), (0, x5), (0, 11)] G h (fun G' h' => z_Y D M_X13_part d 213 [(6, 0, x6)] [] G' h' Q)) :
    z_Y D M_X13_part d 205 [(0, 2, 88), (5, 0, x5), (6, 0, x6)] [] G h Q := by
  intro hl0
  refine z_aload_n (q := 206) 0 dX13_part_205 rfl rfl ?_
  refine z_iload (q := 208) 1 dX13_part_206 rfl rfl ?_
  refine z_bipush (q := 210) dX13_part_208 rfl (by decide) ?_
  refine z_sub (L' := [(6, 0, x6)]) [2] rfl ?_
  exact z_goV (q := 213) (av := [(0, x5), (0, 11)]) (rest := []) cb11 (hl0.i 88 (by decide) rfl) z_tov hl0 (u1) mo_X13_become np_X13_become k1348 k1350 k48 rfl (nle rfl) dX13_part_210 rfl
theorem b_X13_part_199 {D : zD} {d : Nat} {G : zG} {h : zH} {Q : zO → zG → zH → Prop} {s0 x1 x2 x3 x4 x5 x6 x7 x8 x9 : Int} (p1 : z_in s0)
    (u1 : s0 = 0 → z_Y D M_X13_part d 205 [(0, 2, 88), (5, 0, x5), (6, 0, x6)] [] G h Q)
    (u2 : ¬ (s0 = 0) → z_Y D M_X13_part d 94 [(0, 2, 88), (1, 0, x1), (2, 0, x2), (3, 0, x3), (4, 0, x4), (5, 0, x5), (6, 0, x6), (7, 0, x7), (8, 0, x8), (9, 0, (x9 + 1))] [] G h Q) :
    z_Y D M_X13_part d 199 [(0, 2, 88), (1, 0, x1), (2, 0, x2), (3, 0, x3), (4, 0, x4), (5, 0, x5), (6, 0, x6), (7, 0, x7), (8, 0, x8), (9, 0, x9)] [(0, s0)] G h Q := by
  intro hl0
  refine z_if_eq (q := 202) (t := 205) p1 dX13_part_199 (by decide) rfl (fun c1 => ?_) (fun c1 => ?_)
  · refine z_sub (L' := [(0, 2, 88), (5, 0, x5), (6, 0, x6)]) [0, 5, 6] rfl ?_
    exact u1 c1 hl0
  · refine z_goto (t := 216) dX13_part_202 (by decide) ?_
    refine z_iinc (q := 219) (L' := [(0, 2, 88), (1, 0, x1), (2, 0, x2), (3, 0, x3), (4, 0, x4), (5, 0, x5), (6, 0, x6), (7, 0, x7), (8, 0, x8), (9, 0, (x9 + 1))]) 9 dX13_part_216 rfl rfl (by decide) rfl ?_
    refine z_goto (t := 94) dX13_part_219 (by decide) ?_
    exact u2 c1 hl0
theorem b_X13_part_213 {D : zD} {d : Nat} {G : zG} {h : zH} {Q : zO → zG → zH → Prop} {x6 : Int}
    (u1 : Q (.inl (some (0, x6))) G h) :
    z_Y D M_X13_part d 213 [(6, 0, x6)] [] G h Q := by
  intro hl0
  refine z_iload (q := 215) 0 dX13_part_213 rfl rfl ?_
  exact z_iret rfl dX13_part_215 ⟨hl0, u1⟩
theorem b_X13_list_0 {D : zD} {d : Nat} {G : zG} {h : zH} {Q : zO → zG → zH → Prop} {x1 x2 x3 x4 : Int}
    (u1 : z_Kv D M_X13_shape d [(2, 88), (0, x1), (0, x2), (0, x3)] G h (fun G' h' => z_Y D M_X13_list d 7 [(0, 2, 88), (1, 0, x1), (2, 0, x2), (3, 0, x3), (4, 0, x4)] [] G' h' Q)) :
    z_Y D M_X13_list d 0 [(0, 2, 88), (1, 0, x1), (2, 0, x2), (3, 0, x3), (4, 0, x4)] [] G h Q := by
  intro hl0
  refine z_aload_n (q := 1) 0 dX13_list_0 rfl rfl ?_
  refine z_iload_n (q := 2) 1 dX13_list_1 rfl rfl ?_
  refine z_iload_n (q := 3) 2 dX13_list_2 rfl rfl ?_
  refine z_iload_n (q := 4) 3 dX13_list_3 rfl rfl ?_
  exact z_goV (q := 7) (av := [(0, x1), (0, x2), (0, x3)]) (rest := []) cb11 (hl0.i 88 (by decide) rfl) z_tov hl0 (u1) mo_X13_shape np_X13_shape k1319 k1321 k44 rfl (nle rfl) dX13_list_4 rfl
theorem b_X13_list_7 {D : zD} {d : Nat} {G : zG} {h : zH} {Q : zO → zG → zH → Prop} {x1 x2 x3 x4 : Int}
    (u1 : z_Y D M_X13_list d 16 [(0, 2, 88), (1, 0, x1), (3, 0, x3), (5, 0, x4), (6, 0, (x2 - 1))] [] G h Q) :
    z_Y D M_X13_list d 7 [(0, 2, 88), (1, 0, x1), (2, 0, x2), (3, 0, x3), (4, 0, x4)] [] G h Q := by
  intro hl0
  refine z_iload (q := 9) 4 dX13_list_7 rfl rfl ?_
  refine z_istore (q := 11) (L' := [(0, 2, 88), (1, 0, x1), (2, 0, x2), (3, 0, x3), (4, 0, x4), (5, 0, x4)]) dX13_list_9 rfl (by decide) rfl ?_
  refine z_iload_n (q := 12) 2 dX13_list_11 rfl rfl ?_
  refine z_iconst (q := 13) dX13_list_12 rfl ?_
  refine z_isub (q := 14) dX13_list_13 rfl ?_
  refine z_istore (q := 16) (L' := [(0, 2, 88), (1, 0, x1), (2, 0, x2), (3, 0, x3), (4, 0, x4), (5, 0, x4), (6, 0, (x2 - 1))]) dX13_list_14 rfl (by decide) rfl ?_
  refine z_sub (L' := [(0, 2, 88), (1, 0, x1), (3, 0, x3), (5, 0, x4), (6, 0, (x2 - 1))]) [0, 1, 3, 5, 6] rfl ?_
  exact u1 hl0
theorem b_X13_list_16 {D : zD} {d : Nat} {G : zG} {h : zH} {Q : zO → zG → zH → Prop} {x1 x3 x5 x6 : Int} (p1 : z_in x6)
    (u1 : x6 < 0 → Q (.inl none) G h)
    (u2 : ¬ (x6 < 0) → z_Y D M_X13_list d 26 [(0, 2, 88), (1, 0, x1), (3, 0, x3), (5, 0, x5), (6, 0, x6), (7, 0, (x3 - 1))] [] G h Q) :
    z_Y D M_X13_list d 16 [(0, 2, 88), (1, 0, x1), (3, 0, x3), (5, 0, x5), (6, 0, x6)] [] G h Q := by
  intro hl0
  refine z_iload (q := 18) 4 dX13_list_16 rfl rfl ?_
  refine z_if_lt (q := 21) (t := 72) p1 dX13_list_18 (by decide) rfl (fun c1 => ?_) (fun c1 => ?_)
  · exact z_vret rfl dX13_list_72 ⟨hl0, u1 c1⟩
  · refine z_iload_n (q := 22) 2 dX13_list_21 rfl rfl ?_
    refine z_iconst (q := 23) dX13_list_22 rfl ?_
    refine z_isub (q := 24) dX13_list_23 rfl ?_
    refine z_istore (q := 26) (L' := [(0, 2, 88), (1, 0, x1), (3, 0, x3), (5, 0, x5), (6, 0, x6), (7, 0, (x3 - 1))]) dX13_list_24 rfl (by decide) rfl ?_
    exact u2 c1 hl0
theorem b_X13_list_26 {D : zD} {d : Nat} {G : zG} {h : zH} {Q : zO → zG → zH → Prop} {x1 x3 x5 x6 x7 : Int} (hd : 2 ≤ d) (p1 : z_in x7) (p2 : ¬ (x7 < 0) → 0 ≤ (z_irem x5 6)) (p3 : ¬ (x7 < 0) → (z_irem x5 6) < 6) (p4 : ¬ (x7 < 0) → 0 ≤ (72 * x1 + 6 * x6 + x7)) (p5 : ¬ (x7 < 0) → (72 * x1 + 6 * x6 + x7) < 864)
    (u1 : x7 < 0 → z_Y D M_X13_list d 16 [(0, 2, 88), (1, 0, x1), (3, 0, x3), (5, 0, x5), (6, 0, (x6 + (-1)))] [] G h Q)
    (u2 : ¬ (x7 < 0) → z_Y D M_X13_list d 26 [(0, 2, 88), (1, 0, x1), (3, 0, x3), (5, 0, (z_idiv x5 6)), (6, 0, x6), (7, 0, (x7 + (-1)))] [] G (z_wr h 91 (72 * x1 + 6 * x6 + x7) ((z_list [0, 97, 98, 6368610, 49, 50]) (z_irem x5 6))) Q) :
    z_Y D M_X13_list d 26 [(0, 2, 88), (1, 0, x1), (3, 0, x3), (5, 0, x5), (6, 0, x6), (7, 0, x7)] [] G h Q := by
  intro hl0
  refine z_iload (q := 28) 5 dX13_list_26 rfl rfl ?_
  refine z_if_lt (q := 31) (t := 66) p1 dX13_list_28 (by decide) rfl (fun c1 => ?_) (fun c1 => ?_)
  · refine z_iinc (q := 69) (L' := [(0, 2, 88), (1, 0, x1), (3, 0, x3), (5, 0, x5), (6, 0, (x6 + (-1))), (7, 0, x7)]) 4 dX13_list_66 rfl rfl (by decide) rfl ?_
    refine z_goto (t := 16) dX13_list_69 (by decide) ?_
    refine z_sub (L' := [(0, 2, 88), (1, 0, x1), (3, 0, x3), (5, 0, x5), (6, 0, (x6 + (-1)))]) [0, 1, 2, 3, 4] rfl ?_
    exact u1 c1 hl0
  · refine z_aload_n (q := 32) 0 dX13_list_31 rfl rfl ?_
    refine z_gf (q := 35) (ki := 2) (v := (2, 91)) fX13_16 rfl (z_ldr rfl (hl0.ref 83 rfl)) (hl0.i 88 (by decide) rfl) dX13_list_32 rfl ?_
    refine z_iload_n (q := 36) 1 dX13_list_35 rfl rfl ?_
    refine z_iload (q := 38) 4 dX13_list_36 rfl rfl ?_
    refine z_iload (q := 40) 5 dX13_list_38 rfl rfl ?_
    have e1 := a_X13_at (D := D) (G := G) (h := h) (d := d - 1) (by omega) x1 x6 x7
    refine z_goS (q := 43) (av := [(0, x1), (0, x6), (0, x7)]) (rest := [(2, 91)]) (z_toi) hl0 (z_Ei.K e1 (by omega) ?_) mo_X13_at np_X13_at k1345 k1346 rfl (nle rfl) dX13_list_40 rfl
    refine z_gets (q := 46) (c := 5) (by decide) (by decide) k1691 dX13_list_43 rfl ?_
    refine z_iload (q := 48) 3 dX13_list_46 rfl rfl ?_
    refine z_bipush (q := 50) dX13_list_48 rfl (by decide) ?_
    refine z_r_irem (q := 51) (by decide) dX13_list_50 rfl ?_
    refine z_lale (q := 52) (v := ((z_list [0, 97, 98, 6368610, 49, 50]) (z_irem x5 6))) z_c5 (p2 c1) (p3 c1) rfl dX13_list_51 rfl ?_
    refine z_lsn (q := 53) (hl0.i 91 (by decide) rfl) (hl0.n 91 (by decide) rfl) (p4 c1) (p5 c1) dX13_list_52 rfl ?_
    have hl1 := hl0.wr (v := ((z_list [0, 97, 98, 6368610, 49, 50]) (z_irem x5 6))) (hl0.i 91 (by decide) rfl) (i := (72 * x1 + 6 * x6 + x7)) rfl
    refine z_iload (q := 55) 3 dX13_list_53 rfl rfl ?_
    refine z_bipush (q := 57) dX13_list_55 rfl (by decide) ?_
    refine z_r_idiv (q := 58) (by decide) dX13_list_57 rfl ?_
    refine z_istore (q := 60) (L' := [(0, 2, 88), (1, 0, x1), (3, 0, x3), (5, 0, (z_idiv x5 6)), (6, 0, x6), (7, 0, x7)]) dX13_list_58 rfl (by decide) rfl ?_
    refine z_iinc (q := 63) (L' := [(0, 2, 88), (1, 0, x1), (3, 0, x3), (5, 0, (z_idiv x5 6)), (6, 0, x6), (7, 0, (x7 + (-1)))]) 5 dX13_list_60 rfl rfl (by decide) rfl ?_
    refine z_goto (t := 26) dX13_list_63 (by decide) ?_
    exact u2 c1 hl1
theorem b_X13_count_0 {D : zD} {d : Nat} {G : zG} {h : zH} {Q : zO → zG → zH → Prop} {x1 : Int} (p1 : z_in x1)
    (u1 : ¬ x1 = 0 → z_Y D M_X13_count d 13 [(0, 2, 88), (1, 0, x1), (2, 0, 0), (3, 0, 0)] [] G h Q)
    (u2 : ¬ (¬ x1 = 0) → Q (.inl (some (0, (h 88 14)))) G h) :
    z_Y D M_X13_count d 0 [(0, 2, 88), (1, 0, x1)] [] G h Q := by
  intro hl0
  refine z_iload_n (q := 1) 1 dX13_count_0 rfl rfl ?_
  refine z_if_ne (q := 4) (t := 9) p1 dX13_count_1 (by decide) rfl (fun c1 => ?_) (fun c1 => ?_)
  · refine z_iconst (q := 10) dX13_count_9 rfl ?_
    refine z_istore_n (q := 11) (L' := [(0, 2, 88), (1, 0, x1), (2, 0, 0)]) dX13_count_10 rfl (by decide) rfl ?_
    refine z_iconst (q := 12) dX13_count_11 rfl ?_
    refine z_istore_n (q := 13) (L' := [(0, 2, 88), (1, 0, x1), (2, 0, 0), (3, 0, 0)]) dX13_count_12 rfl (by decide) rfl ?_
    exact u1 c1 hl0
  · refine z_aload_n (q := 5) 0 dX13_count_4 rfl rfl ?_
    refine z_gf (q := 8) (ki := 14) (v := (0, (h 88 14))) fX13_239 rfl rfl (hl0.i 88 (by decide) rfl) dX13_count_5 rfl ?_
    exact z_iret rfl dX13_count_8 ⟨hl0, u2 c1⟩
theorem b_X13_count_13 {D : zD} {d : Nat} {G : zG} {h : zH} {Q : zO → zG → zH → Prop} {x1 x2 x3 : Int} (p1 : z_in x3) (p2 : 8 ≤ x3 → z_in x1) (p3 : ¬ (8 ≤ x3) → 0 ≤ x3) (p4 : ¬ (8 ≤ x3) → x3 < 9)
    (u1 : 8 ≤ x3 → ¬ x1 = 1 → Q (.inl (some (0, (-1)))) G h)
    (u2 : 8 ≤ x3 → ¬ (¬ x1 = 1) → Q (.inl (some (0, x2))) G h)
    (u3 : ¬ (8 ≤ x3) → z_Y D M_X13_count d 13 [(0, 2, 88), (1, 0, x1), (2, 0, (x2 + (h 95 x3))), (3, 0, (x3 + 1))] [] G h Q) :
    z_Y D M_X13_count d 13 [(0, 2, 88), (1, 0, x1), (2, 0, x2), (3, 0, x3)] [] G h Q := by
  intro hl0
  refine z_iload_n (q := 14) 3 dX13_count_13 rfl rfl ?_
  refine z_bipush (q := 16) dX13_count_14 rfl (by decide) ?_
  refine z_icmp_ge (q := 19) (t := 34) p1 ⟨by decide, by decide⟩ dX13_count_16 (by decide) rfl (fun c1 => ?_) (fun c1 => ?_)
  · refine z_iload_n (q := 35) 1 dX13_count_34 rfl rfl ?_
    refine z_iconst (q := 36) dX13_count_35 rfl ?_
    refine z_icmp_ne (q := 39) (t := 43) (p2 c1) ⟨by decide, by decide⟩ dX13_count_36 (by decide) rfl (fun c2 => ?_) (fun c2 => ?_)
    · refine z_iconst (q := 44) dX13_count_43 rfl ?_
      exact z_iret rfl dX13_count_44 ⟨hl0, u1 c1 c2⟩
    · refine z_iload_n (q := 40) 2 dX13_count_39 rfl rfl ?_
      refine z_goto (t := 44) dX13_count_40 (by decide) ?_
      exact z_iret rfl dX13_count_44 ⟨hl0, u2 c1 c2⟩
  · refine z_iload_n (q := 20) 2 dX13_count_19 rfl rfl ?_
    refine z_aload_n (q := 21) 0 dX13_count_20 rfl rfl ?_
    refine z_gf (q := 24) (ki := 8) (v := (2, 95)) fX13_29 rfl (z_ldr rfl (hl0.ref 87 rfl)) (hl0.i 88 (by decide) rfl) dX13_count_21 rfl ?_
    refine z_iload_n (q := 25) 3 dX13_count_24 rfl rfl ?_
    refine z_iale (q := 26) (v := (h 95 x3)) (hl0.a 95 (by decide) rfl) (p3 c1) (p4 c1) rfl dX13_count_25 rfl ?_
    refine z_iadd (q := 27) dX13_count_26 rfl ?_
    refine z_istore_n (q := 28) (L' := [(0, 2, 88), (1, 0, x1), (2, 0, (x2 + (h 95 x3))), (3, 0, x3)]) dX13_count_27 rfl (by decide) rfl ?_
    refine z_iinc (q := 31) (L' := [(0, 2, 88), (1, 0, x1), (2, 0, (x2 + (h 95 x3))), (3, 0, (x3 + 1))]) 3 dX13_count_28 rfl rfl (by decide) rfl ?_
    refine z_goto (t := 13) dX13_count_31 (by decide) ?_
    exact u3 c1 hl0
