theorem b_X9_codeAt_0 {D : zD} {d : Nat} {G : zG} {h : zH} {Q : zO → zG → zH → Prop} {x0 x1 : Int} (p1 : z_in x1) (p2 : ¬ (x1 < 0) → z_is G x0 7) (p3 : ¬ (x1 < 0) → z_in (h x0 1)) (p4 : ¬ (x1 < 0) → ¬ ((h x0 1) ≤ x1) → 0 ≤ x1) (p5 : ¬ (x1 < 0) → ¬ ((h x0 1) ≤ x1) → x1 < 12)
    (u1 : x1 < 0 → Q (.inl (some (0, 0))) G h)
    (u2 : ¬ (x1 < 0) → (h x0 1) ≤ x1 → Q (.inl (some (0, 0))) G h)
    (u3 : ¬ (x1 < 0) → ¬ ((h x0 1) ≤ x1) → Q (.inl (some (0, (h (x0 + 1) x1)))) G h) :
    z_Y D M_X9_codeAt d 0 [(0, 2, x0), (1, 0, x1)] [] G h Q := by
  intro hl0
  refine z_iload_n (q := 1) 1 dX9_codeAt_0 rfl rfl ?_
  refine z_if_lt (q := 4) (t := 21) p1 dX9_codeAt_1 (by decide) rfl (fun c1 => ?_) (fun c1 => ?_)
  · refine z_iconst (q := 22) dX9_codeAt_21 rfl ?_
    exact z_iret rfl dX9_codeAt_22 ⟨hl0, u1 c1⟩
  · refine z_iload_n (q := 5) 1 dX9_codeAt_4 rfl rfl ?_
    refine z_aload_n (q := 6) 0 dX9_codeAt_5 rfl rfl ?_
    refine z_gf (q := 9) (ki := 1) (v := (0, (h x0 1))) fX9_13 rfl rfl (p2 c1) dX9_codeAt_6 rfl ?_
    refine z_icmp_ge (q := 12) (t := 21) p1 (p3 c1) dX9_codeAt_9 (by decide) rfl (fun c2 => ?_) (fun c2 => ?_)
    · refine z_iconst (q := 22) dX9_codeAt_21 rfl ?_
      exact z_iret rfl dX9_codeAt_22 ⟨hl0, u2 c1 c2⟩
    · refine z_aload_n (q := 13) 0 dX9_codeAt_12 rfl rfl ?_
      refine z_gf (q := 16) (ki := 0) (v := (2, (x0 + 1))) fX9_9 rfl (z_ldr rfl (hl0.way (p2 c1))) (p2 c1) dX9_codeAt_13 rfl ?_
      refine z_iload_n (q := 17) 1 dX9_codeAt_16 rfl rfl ?_
      refine z_iale (q := 18) (v := (h (x0 + 1) x1)) (hl0.wat (p2 c1)) (p4 c1 c2) (p5 c1 c2) rfl dX9_codeAt_17 rfl ?_
      refine z_goto (t := 22) dX9_codeAt_18 (by decide) ?_
      exact z_iret rfl dX9_codeAt_22 ⟨hl0, u3 c1 c2⟩
theorem b_X9_clear_0 {D : zD} {d : Nat} {G : zG} {h : zH} {Q : zO → zG → zH → Prop} {x0 : Int} (p1 : z_is G x0 7)
    (u1 : Q (.inl none) G (z_wr h x0 1 0)) :
    z_Y D M_X9_clear d 0 [(0, 2, x0)] [] G h Q := by
  intro hl0
  refine z_aload_n (q := 1) 0 dX9_clear_0 rfl rfl ?_
  refine z_iconst (q := 2) dX9_clear_1 rfl ?_
  refine z_pf (q := 5) (ki := 1) fX9_13 rfl (z_sv0 rfl) p1 dX9_clear_2 rfl ?_
  have hl1 := hl0.wr (v := 0) p1 (i := 1) (by decide)
  exact z_vret rfl dX9_clear_5 ⟨hl1, u1⟩
theorem b_X9_add_0 {D : zD} {d : Nat} {G : zG} {h : zH} {Q : zO → zG → zH → Prop} {x0 x1 : Int} (p1 : z_is G x0 7) (p2 : z_in (h x0 1)) (p3 : (h x0 1) < 12 → 0 ≤ (h x0 1)) (p4 : (h x0 1) < 12 → (h x0 1) < 12)
    (u1 : (h x0 1) < 12 → Q (.inl (some (0, 1))) G (z_wr (z_wr h (x0 + 1) (h x0 1) x1) x0 1 ((h x0 1) + 1)))
    (u2 : ¬ ((h x0 1) < 12) → Q (.inl (some (0, 0))) G h) :
    z_Y D M_X9_add d 0 [(0, 2, x0), (1, 0, x1)] [] G h Q := by
  intro hl0
  refine z_aload_n (q := 1) 0 dX9_add_0 rfl rfl ?_
  refine z_gf (q := 4) (ki := 1) (v := (0, (h x0 1))) fX9_13 rfl rfl p1 dX9_add_1 rfl ?_
  refine z_bipush (q := 6) dX9_add_4 rfl (by decide) ?_
  refine z_icmp_lt (q := 9) (t := 11) p2 ⟨by decide, by decide⟩ dX9_add_6 (by decide) rfl (fun c1 => ?_) (fun c1 => ?_)
  · refine z_aload_n (q := 12) 0 dX9_add_11 rfl rfl ?_
    refine z_gf (q := 15) (ki := 0) (v := (2, (x0 + 1))) fX9_9 rfl (z_ldr rfl (hl0.way p1)) p1 dX9_add_12 rfl ?_
    refine z_aload_n (q := 16) 0 dX9_add_15 rfl rfl ?_
    refine z_gf (q := 19) (ki := 1) (v := (0, (h x0 1))) fX9_13 rfl rfl p1 dX9_add_16 rfl ?_
    refine z_iload_n (q := 20) 1 dX9_add_19 rfl rfl ?_
    refine z_isn (q := 21) (hl0.wi p1) (hl0.wn p1) (p3 c1) (p4 c1) dX9_add_20 rfl ?_
    have hl1 := hl0.wr (v := x1) (hl0.wi p1) (i := (h x0 1)) rfl
    refine z_aload_n (q := 22) 0 dX9_add_21 rfl rfl ?_
    refine z_dup (q := 23) (by decide) dX9_add_22 rfl ?_
    refine z_gf (q := 26) (ki := 1) (v := (0, (h x0 1))) fX9_13 rfl (z_ldi rfl (w_na (z_isne p1 (hl0.wi p1) (by decide)))) p1 dX9_add_23 rfl ?_
    refine z_iconst (q := 27) dX9_add_26 rfl ?_
    refine z_iadd (q := 28) dX9_add_27 rfl ?_
    refine z_pf (q := 31) (ki := 1) fX9_13 rfl (z_sv0 rfl) p1 dX9_add_28 rfl ?_
    have hl2 := hl1.wr (v := ((h x0 1) + 1)) p1 (i := 1) (by decide)
    refine z_iconst (q := 32) dX9_add_31 rfl ?_
    exact z_bret rfl (by decide) dX9_add_32 ⟨hl2, u1 c1⟩
  · refine z_iconst (q := 10) dX9_add_9 rfl ?_
    exact z_bret rfl (by decide) dX9_add_10 ⟨hl0, u2 c1⟩
theorem b_X9_addAll_0 {D : zD} {d : Nat} {G : zG} {h : zH} {Q : zO → zG → zH → Prop} {x0 x1 : Int} (p1 : z_is G x1 7)
    (u1 : z_Y D M_X9_addAll d 7 [(0, 2, x0), (1, 2, x1), (2, 0, (h x1 1)), (3, 0, 0)] [] G h Q) :
    z_Y D M_X9_addAll d 0 [(0, 2, x0), (1, 2, x1)] [] G h Q := by
  intro hl0
  refine z_aload_n (q := 1) 1 dX9_addAll_0 rfl rfl ?_
  refine z_gf (q := 4) (ki := 1) (v := (0, (h x1 1))) fX9_13 rfl rfl p1 dX9_addAll_1 rfl ?_
  refine z_istore_n (q := 5) (L' := [(0, 2, x0), (1, 2, x1), (2, 0, (h x1 1))]) dX9_addAll_4 rfl (by decide) rfl ?_
  refine z_iconst (q := 6) dX9_addAll_5 rfl ?_
  refine z_istore_n (q := 7) (L' := [(0, 2, x0), (1, 2, x1), (2, 0, (h x1 1)), (3, 0, 0)]) dX9_addAll_6 rfl (by decide) rfl ?_
  exact u1 hl0
theorem b_X9_addAll_7 {D : zD} {d : Nat} {G : zG} {h : zH} {Q : zO → zG → zH → Prop} {x0 x1 x2 x3 : Int} (p1 : z_in x3) (p2 : z_in x2) (p3 : ¬ (x2 ≤ x3) → z_is G x1 7)
    (u1 : x2 ≤ x3 → Q (.inl none) G h)
    (u2 : ¬ (x2 ≤ x3) → z_Ki D M_X9_codeAt d [(2, x1), (0, x3)] G h (fun r G' h' => z_Y D M_X9_addAll d 18 [(0, 2, x0), (1, 2, x1), (2, 0, x2), (3, 0, x3)] [(0, r), (2, x0)] G' h' Q)) :
    z_Y D M_X9_addAll d 7 [(0, 2, x0), (1, 2, x1), (2, 0, x2), (3, 0, x3)] [] G h Q := by
  intro hl0
  refine z_iload_n (q := 8) 3 dX9_addAll_7 rfl rfl ?_
  refine z_iload_n (q := 9) 2 dX9_addAll_8 rfl rfl ?_
  refine z_icmp_ge (q := 12) (t := 28) p1 p2 dX9_addAll_9 (by decide) rfl (fun c1 => ?_) (fun c1 => ?_)
  · exact z_vret rfl dX9_addAll_28 ⟨hl0, u1 c1⟩
  · refine z_aload_n (q := 13) 0 dX9_addAll_12 rfl rfl ?_
    refine z_aload_n (q := 14) 1 dX9_addAll_13 rfl rfl ?_
    refine z_iload_n (q := 15) 3 dX9_addAll_14 rfl rfl ?_
    exact z_goV (q := 18) (av := [(0, x3)]) (rest := [(2, x0)]) cb7 (p3 c1) z_toi hl0 (u2 c1) mo_X9_codeAt np_X9_codeAt k885 k621 k622 rfl (nle rfl) dX9_addAll_15 rfl
theorem b_X9_addAll_18 {D : zD} {d : Nat} {G : zG} {h : zH} {Q : zO → zG → zH → Prop} {s0 s1 x0 x1 x2 x3 : Int} (p1 : z_is G s0 7)
    (u1 : z_Ki D M_X9_add d [(2, s0), (0, s1)] G h (fun r G' h' => z_Y D M_X9_addAll d 21 [(0, 2, x0), (1, 2, x1), (2, 0, x2), (3, 0, x3)] [(0, r)] G' h' Q)) :
    z_Y D M_X9_addAll d 18 [(0, 2, x0), (1, 2, x1), (2, 0, x2), (3, 0, x3)] [(0, s1), (2, s0)] G h Q := by
  intro hl0
  exact z_goV (q := 21) (av := [(0, s1)]) (rest := []) cb7 p1 z_toi hl0 (u1) mo_X9_add np_X9_add k886 k625 k626 rfl (nle rfl) dX9_addAll_18 rfl
theorem b_X9_addAll_21 {D : zD} {d : Nat} {G : zG} {h : zH} {Q : zO → zG → zH → Prop} {s0 x0 x1 x2 x3 : Int}
    (u1 : z_Y D M_X9_addAll d 7 [(0, 2, x0), (1, 2, x1), (2, 0, x2), (3, 0, (x3 + 1))] [] G h Q) :
    z_Y D M_X9_addAll d 21 [(0, 2, x0), (1, 2, x1), (2, 0, x2), (3, 0, x3)] [(0, s0)] G h Q := by
  intro hl0
  refine z_pop (q := 22) (by decide) dX9_addAll_21 rfl ?_
  refine z_iinc (q := 25) (L' := [(0, 2, x0), (1, 2, x1), (2, 0, x2), (3, 0, (x3 + 1))]) 3 dX9_addAll_22 rfl rfl (by decide) rfl ?_
  refine z_goto (t := 7) dX9_addAll_25 (by decide) ?_
  exact u1 hl0
theorem b_X9_become_0 {D : zD} {d : Nat} {G : zG} {h : zH} {Q : zO → zG → zH → Prop} {x0 x1 : Int} (hd : 1 ≤ d) (p1 : z_is G x1 7) (p2 : z_is G x0 7) (p3 : (0 : Int) + 12 ≤ 12)
    (u1 : Q (.inl none) G (z_wr (z_cp h (x1 + 1) 0 (x0 + 1) 0 12) x0 1 (h x1 1))) :
    z_Y D M_X9_become d 0 [(0, 2, x0), (1, 2, x1)] [] G h Q := by
  intro hl0
  refine z_aload_n (q := 1) 1 dX9_become_0 rfl rfl ?_
  refine z_gf (q := 4) (ki := 0) (v := (2, (x1 + 1))) fX9_9 rfl (z_ldr rfl (hl0.way p1)) p1 dX9_become_1 rfl ?_
  refine z_iconst (q := 5) dX9_become_4 rfl ?_
  refine z_aload_n (q := 6) 0 dX9_become_5 rfl rfl ?_
  refine z_gf (q := 9) (ki := 0) (v := (2, (x0 + 1))) fX9_9 rfl (z_ldr rfl (hl0.way p2)) p2 dX9_become_6 rfl ?_
  refine z_iconst (q := 10) dX9_become_9 rfl ?_
  refine z_bipush (q := 12) dX9_become_10 rfl (by decide) ?_
  refine z_copy (q := 15) 50 (by decide) (hl0.wi p1) (hl0.wi p2) (by decide) (by decide) (by decide) (by rw [(hl0.wn p1)]; exact p3) (by rw [(hl0.wn p2)]; exact p3) k661 k514 k513 k111 (by omega) (nle rfl) dX9_become_12 rfl ?_
  have hl1 := hl0.cp (a := (x1 + 1)) (sp := 0) (dp := 0) (n := 12) (hl0.wi p2) (by decide)
  refine z_aload_n (q := 16) 0 dX9_become_15 rfl rfl ?_
  refine z_aload_n (q := 17) 1 dX9_become_16 rfl rfl ?_
  refine z_gf (q := 20) (ki := 1) (v := (0, (h x1 1))) fX9_13 rfl (z_ldi rfl (c_na (z_isne p1 (hl0.wi p2) (by decide)))) p1 dX9_become_17 rfl ?_
  refine z_pf (q := 23) (ki := 1) fX9_13 rfl (z_sv0 rfl) p2 dX9_become_20 rfl ?_
  have hl2 := hl1.wr (v := (h x1 1)) p2 (i := 1) (by decide)
  exact z_vret rfl dX9_become_23 ⟨hl2, u1⟩
theorem b_X8_go_0 {D : zD} {d : Nat} {G : zG} {h : zH} {Q : zO → zG → zH → Prop} {x0 x1 x2 : Int} (hd : 3 ≤ d) (p1 : z_is G x2 3) (p2 : okS h x2) (p3 : okC h x2) (p4 : z_in (zct (fun i => h (x2 + 1) i = -1) (h x2 1 * h x2 2).toNat))
    (u1 : (zct (fun i => h (x2 + 1) i = -1) (h x2 1 * h x2 2).toNat) ≤ 0 → z_Y D M_X8_go d 12 [(0, 2, x0), (1, 2, x1), (2, 2, x2)] [(0, 0)] G h Q)
    (u2 : ¬ ((zct (fun i => h (x2 + 1) i = -1) (h x2 1 * h x2 2).toNat) ≤ 0) → z_Y D M_X8_go d 12 [(0, 2, x0), (1, 2, x1), (2, 2, x2)] [(0, 1)] G h Q) :
    z_Y D M_X8_go d 0 [(0, 2, x0), (1, 2, x1), (2, 2, x2)] [] G h Q := by
  intro hl0
  refine z_aload_n (q := 1) 2 dX8_go_0 rfl rfl ?_
  have e1 := a_X4_anys (D := D) (G := G) (h := h) (d := d - 1) (by omega) x2 p1 p2 p3
  refine z_goV (q := 4) (av := []) (rest := []) cb3 p1 (z_toi) hl0 (z_Ei.K e1 (by omega) ?_) mo_X4_anys np_X4_anys k852 k690 k691 rfl (nle rfl) dX8_go_1 rfl
  refine z_if_le (q := 7) (t := 11) p4 dX8_go_4 (by decide) rfl (fun c1 => ?_) (fun c1 => ?_)
  · refine z_iconst (q := 12) dX8_go_11 rfl ?_
    exact u1 c1 hl0
  · refine z_iconst (q := 8) dX8_go_7 rfl ?_
    refine z_goto (t := 12) dX8_go_8 (by decide) ?_
    exact u2 c1 hl0
theorem b_X8_go_12 {D : zD} {d : Nat} {G : zG} {h : zH} {Q : zO → zG → zH → Prop} {s0 x0 x1 x2 : Int} (hd : 2 ≤ d) (p1 : z_is G x0 6) (p2 : z_is G (h x0 2) 3) (p3 : z_is G x2 3) (p4 : 0 ≤ ((h x2 1) * (h x2 2))) (p5 : ((h x2 1) * (h x2 2)) ≤ 72)
    (u1 : z_Y D M_X8_go d 24 [(0, 2, x0), (1, 2, x1), (3, 0, s0), (4, 0, 0)] [] G (z_cp (z_wr (z_wr h (h x0 2) 1 (h x2 1)) (h x0 2) 2 (h x2 2)) (x2 + 1) 0 ((h x0 2) + 1) 0 ((h x2 1) * (h x2 2))) Q) :
    z_Y D M_X8_go d 12 [(0, 2, x0), (1, 2, x1), (2, 2, x2)] [(0, s0)] G h Q := by
  intro hl0
  refine z_istore_n (q := 13) (L' := [(0, 2, x0), (1, 2, x1), (2, 2, x2), (3, 0, s0)]) dX8_go_12 rfl (by decide) rfl ?_
  refine z_aload_n (q := 14) 0 dX8_go_13 rfl rfl ?_
  refine z_gf (q := 17) (ki := 2) (v := (2, (h x0 2))) fX8_18 rfl rfl p1 dX8_go_14 rfl ?_
  refine z_aload_n (q := 18) 2 dX8_go_17 rfl rfl ?_
  have e1 := a_X4_become (D := D) (G := G) (h := h) (d := d - 1) (by omega) (h x0 2) x2 (h x2 1) (h x2 2) p2 p3 rfl rfl p4 p5
  refine z_goV (q := 21) (av := [(2, x2)]) (rest := []) cb3 p2 (z_tov) hl0 (z_Ev.K e1 (by omega) ?_) mo_X4_become np_X4_become k853 k509 k510 rfl (nle rfl) dX8_go_18 rfl
  have hl1 : lay G (z_cp (z_wr (z_wr h (h x0 2) 1 (h x2 1)) (h x0 2) 2 (h x2 2)) (x2 + 1) 0 ((h x0 2) + 1) 0 ((h x2 1) * (h x2 2))) := e1.lay hl0
  refine z_iconst (q := 22) dX8_go_21 rfl ?_
  refine z_istore (q := 24) (L' := [(0, 2, x0), (1, 2, x1), (2, 2, x2), (3, 0, s0), (4, 0, 0)]) dX8_go_22 rfl (by decide) rfl ?_
  refine z_sub (L' := [(0, 2, x0), (1, 2, x1), (3, 0, s0), (4, 0, 0)]) [0, 1, 3, 4] rfl ?_
  exact u1 hl1
theorem b_X8_go_24 {D : zD} {d : Nat} {G : zG} {h : zH} {Q : zO → zG → zH → Prop} {x0 x1 x3 x4 : Int} (p1 : z_is G x1 7) (p2 : z_in x4) (p3 : z_in (h x1 1))
    (u1 : (h x1 1) ≤ x4 → Q (.inl (some (0, (-1)))) G h)
    (u2 : ¬ ((h x1 1) ≤ x4) → z_Ki D M_X9_codeAt d [(2, x1), (0, x4)] G h (fun r G' h' => z_Y D M_X8_go d 39 [(0, 2, x0), (1, 2, x1), (3, 0, x3), (4, 0, x4)] [(0, r)] G' h' Q)) :
    z_Y D M_X8_go d 24 [(0, 2, x0), (1, 2, x1), (3, 0, x3), (4, 0, x4)] [] G h Q := by
  intro hl0
  refine z_iload (q := 26) 3 dX8_go_24 rfl rfl ?_
  refine z_aload_n (q := 27) 1 dX8_go_26 rfl rfl ?_
  refine z_gf (q := 30) (ki := 1) (v := (0, (h x1 1))) fX8_33 rfl rfl p1 dX8_go_27 rfl ?_
  refine z_icmp_ge (q := 33) (t := 107) p2 p3 dX8_go_30 (by decide) rfl (fun c1 => ?_) (fun c1 => ?_)
  · refine z_iconst (q := 108) dX8_go_107 rfl ?_
    exact z_iret rfl dX8_go_108 ⟨hl0, u1 c1⟩
  · refine z_aload_n (q := 34) 1 dX8_go_33 rfl rfl ?_
    refine z_iload (q := 36) 3 dX8_go_34 rfl rfl ?_
    exact z_goV (q := 39) (av := [(0, x4)]) (rest := []) cb7 p1 z_toi hl0 (u2 c1) mo_X9_codeAt np_X9_codeAt k854 k621 k622 rfl (nle rfl) dX8_go_36 rfl
theorem b_X8_go_39 {D : zD} {d : Nat} {G : zG} {h : zH} {Q : zO → zG → zH → Prop} {s0 x0 x1 x3 x4 : Int} (hd : 2 ≤ d) (p1 : z_in x3) (p2 : ¬ (¬ x3 = 0) → z_is G x0 6) (p3 : ¬ (¬ x3 = 0) → (h x0 0) = 12) (p4 : ¬ (¬ x3 = 0) → z_in s0)
    (u1 : ¬ x3 = 0 → Q (.inl (some (0, x4))) G h)
    (u2 : ¬ (¬ x3 = 0) → z_Ki D M_X3_change d [(2, 12), (2, (h x0 2)), (2, (h x0 1)), (0, (s0 / 64)), (0, (s0 / 8 % 8)), (0, (s0 % 8))] G h (fun r G' h' => z_Y D M_X8_go d 75 [(0, 2, x0), (1, 2, x1), (3, 0, x3), (4, 0, x4)] [(0, r)] G' h' Q)) :
    z_Y D M_X8_go d 39 [(0, 2, x0), (1, 2, x1), (3, 0, x3), (4, 0, x4)] [(0, s0)] G h Q := by
  intro hl0
  refine z_istore (q := 41) (L' := [(0, 2, x0), (1, 2, x1), (3, 0, x3), (4, 0, x4), (5, 0, s0)]) dX8_go_39 rfl (by decide) rfl ?_
  refine z_iload_n (q := 42) 2 dX8_go_41 rfl rfl ?_
  refine z_if_ne (q := 45) (t := 78) p1 dX8_go_42 (by decide) rfl (fun c1 => ?_) (fun c1 => ?_)
  · refine z_iload (q := 80) 3 dX8_go_78 rfl rfl ?_
    exact z_iret rfl dX8_go_80 ⟨hl0, u1 c1⟩
  · refine z_aload_n (q := 46) 0 dX8_go_45 rfl rfl ?_
    refine z_gf (q := 49) (ki := 0) (v := (2, 12)) fX8_21 rfl (z_ldr rfl (p3 c1)) (p2 c1) dX8_go_46 rfl ?_
    refine z_aload_n (q := 50) 0 dX8_go_49 rfl rfl ?_
    refine z_gf (q := 53) (ki := 2) (v := (2, (h x0 2))) fX8_18 rfl rfl (p2 c1) dX8_go_50 rfl ?_
    refine z_aload_n (q := 54) 0 dX8_go_53 rfl rfl ?_
    refine z_gf (q := 57) (ki := 1) (v := (2, (h x0 1))) fX8_12 rfl rfl (p2 c1) dX8_go_54 rfl ?_
    refine z_iload (q := 59) 4 dX8_go_57 rfl rfl ?_
    have e1 := a_X0_number (D := D) (G := G) (h := h) (d := d - 1) (by omega) s0 (p4 c1)
    refine z_goS (q := 62) (av := [(0, s0)]) (rest := [(2, (h x0 1)), (2, (h x0 2)), (2, 12)]) (z_toi) hl0 (z_Ei.K e1 (by omega) ?_) mo_X0_number np_X0_number k855 k856 rfl (nle rfl) dX8_go_59 rfl
    refine z_iload (q := 64) 4 dX8_go_62 rfl rfl ?_
    have e2 := a_X0_a (D := D) (G := G) (h := h) (d := d - 1) (by omega) s0 (p4 c1)
    refine z_goS (q := 67) (av := [(0, s0)]) (rest := [(0, (s0 / 64)), (2, (h x0 1)), (2, (h x0 2)), (2, 12)]) (z_toi) hl0 (z_Ei.K e2 (by omega) ?_) mo_X0_a np_X0_a k858 k859 rfl (nle rfl) dX8_go_64 rfl
    refine z_iload (q := 69) 4 dX8_go_67 rfl rfl ?_
    have e3 := a_X0_b (D := D) (G := G) (h := h) (d := d - 1) (by omega) s0
    refine z_goS (q := 72) (av := [(0, s0)]) (rest := [(0, (s0 / 8 % 8)), (0, (s0 / 64)), (2, (h x0 1)), (2, (h x0 2)), (2, 12)]) (z_toi) hl0 (z_Ei.K e3 (by omega) ?_) mo_X0_b np_X0_b k861 k862 rfl (nle rfl) dX8_go_69 rfl
    refine z_sub (L' := [(0, 2, x0), (1, 2, x1), (3, 0, x3), (4, 0, x4)]) [0, 1, 2, 3] rfl ?_
    exact z_goV (q := 75) (av := [(2, (h x0 2)), (2, (h x0 1)), (0, (s0 / 64)), (0, (s0 / 8 % 8)), (0, (s0 % 8))]) (rest := []) cb2 (hl0.i 12 (by decide) rfl) z_toi hl0 (u2 c1) mo_X3_change np_X3_change k864 k729 k730 rfl (nle rfl) dX8_go_72 rfl
theorem b_X8_go_75 {D : zD} {d : Nat} {G : zG} {h : zH} {Q : zO → zG → zH → Prop} {s0 x0 x1 x3 x4 : Int} (p1 : z_in s0) (p2 : ¬ s0 = 0 → z_is G x0 6)
    (u1 : ¬ s0 = 0 → z_Y D M_X8_go d 24 [(0, 2, x0), (1, 2, x1), (3, 0, x3), (4, 0, (x4 + 1))] [] G (z_wr (z_wr h x0 1 (h x0 2)) x0 2 (h x0 1)) Q)
    (u2 : ¬ (¬ s0 = 0) → Q (.inl (some (0, x4))) G h) :
    z_Y D M_X8_go d 75 [(0, 2, x0), (1, 2, x1), (3, 0, x3), (4, 0, x4)] [(0, s0)] G h Q := by
  intro hl0
  refine z_if_ne (q := 78) (t := 81) p1 dX8_go_75 (by decide) rfl (fun c1 => ?_) (fun c1 => ?_)
  · refine z_aload_n (q := 82) 0 dX8_go_81 rfl rfl ?_
    refine z_gf (q := 85) (ki := 1) (v := (2, (h x0 1))) fX8_12 rfl rfl (p2 c1) dX8_go_82 rfl ?_
    refine z_astore (q := 87) (L' := [(0, 2, x0), (1, 2, x1), (3, 0, x3), (4, 0, x4), (6, 2, (h x0 1))]) dX8_go_85 rfl (by decide) rfl ?_
    refine z_aload_n (q := 88) 0 dX8_go_87 rfl rfl ?_
    refine z_aload_n (q := 89) 0 dX8_go_88 rfl rfl ?_
    refine z_gf (q := 92) (ki := 2) (v := (2, (h x0 2))) fX8_18 rfl rfl (p2 c1) dX8_go_89 rfl ?_
    refine z_pf (q := 95) (ki := 1) fX8_12 rfl (z_sv2 rfl) (p2 c1) dX8_go_92 rfl ?_
    have hl1 := hl0.wr (v := (h x0 2)) (p2 c1) (i := 1) (by decide)
    refine z_aload_n (q := 96) 0 dX8_go_95 rfl rfl ?_
    refine z_aload (q := 98) 4 dX8_go_96 rfl rfl ?_
    refine z_pf (q := 101) (ki := 2) fX8_18 rfl (z_sv2 rfl) (p2 c1) dX8_go_98 rfl ?_
    have hl2 := hl1.wr (v := (h x0 1)) (p2 c1) (i := 2) (by decide)
    refine z_iinc (q := 104) (L' := [(0, 2, x0), (1, 2, x1), (3, 0, x3), (4, 0, (x4 + 1)), (6, 2, (h x0 1))]) 3 dX8_go_101 rfl rfl (by decide) rfl ?_
    refine z_goto (t := 24) dX8_go_104 (by decide) ?_
    refine z_sub (L' := [(0, 2, x0), (1, 2, x1), (3, 0, x3), (4, 0, (x4 + 1))]) [0, 1, 2, 3] rfl ?_
    exact u1 c1 hl2
  · refine z_iload (q := 80) 3 dX8_go_78 rfl rfl ?_
    exact z_iret rfl dX8_go_80 ⟨hl0, u2 c1⟩
theorem b_X13_walks_0 {D : zD} {d : Nat} {G : zG} {h : zH} {Q : zO → zG → zH → Prop} {x1 x2 : Int}
    (u1 : z_Y D M_X13_walks d 2 [(0, 2, 88), (1, 0, x1), (2, 0, x2), (3, 0, 0)] [] G h Q) :
    z_Y D M_X13_walks d 0 [(0, 2, 88), (1, 0, x1), (2, 0, x2)] [] G h Q := by
  intro hl0
  refine z_iconst (q := 1) dX13_walks_0 rfl ?_
  refine z_istore_n (q := 2) (L' := [(0, 2, 88), (1, 0, x1), (2, 0, x2), (3, 0, 0)]) dX13_walks_1 rfl (by decide) rfl ?_
  exact u1 hl0
theorem b_X13_walks_2 {D : zD} {d : Nat} {G : zG} {h : zH} {Q : zO → zG → zH → Prop} {x1 x2 x3 : Int} (p1 : 0 ≤ x1) (p2 : x1 < 9) (p3 : z_in x3) (p4 : z_in (h 95 x1)) (p5 : ¬ ((h 95 x1) ≤ x3) → 0 ≤ ((12 * x1) + x3)) (p6 : ¬ ((h 95 x1) ≤ x3) → ((12 * x1) + x3) < 108)
    (u1 : (h 95 x1) ≤ x3 → Q (.inl (some (0, (-1)))) G h)
    (u2 : ¬ ((h 95 x1) ≤ x3) → z_Ki D M_X13_makes d [(2, 88), (0, x2), (0, (h 96 ((12 * x1) + x3))), (0, (h 97 ((12 * x1) + x3))), (0, (h 98 ((12 * x1) + x3)))] G h (fun r G' h' => z_Y D M_X13_walks d 50 [(0, 2, 88), (1, 0, x1), (2, 0, x2), (3, 0, x3)] [(0, r)] G' h' Q)) :
    z_Y D M_X13_walks d 2 [(0, 2, 88), (1, 0, x1), (2, 0, x2), (3, 0, x3)] [] G h Q := by
  intro hl0
  refine z_iload_n (q := 3) 3 dX13_walks_2 rfl rfl ?_
  refine z_aload_n (q := 4) 0 dX13_walks_3 rfl rfl ?_
  refine z_gf (q := 7) (ki := 8) (v := (2, 95)) fX13_29 rfl (z_ldr rfl (hl0.ref 87 rfl)) (hl0.i 88 (by decide) rfl) dX13_walks_4 rfl ?_
  refine z_iload_n (q := 8) 1 dX13_walks_7 rfl rfl ?_
  refine z_iale (q := 9) (v := (h 95 x1)) (hl0.a 95 (by decide) rfl) p1 p2 rfl dX13_walks_8 rfl ?_
  refine z_icmp_ge (q := 12) (t := 68) p3 p4 dX13_walks_9 (by decide) rfl (fun c1 => ?_) (fun c1 => ?_)
  · refine z_iconst (q := 69) dX13_walks_68 rfl ?_
    exact z_iret rfl dX13_walks_69 ⟨hl0, u1 c1⟩
  · refine z_aload_n (q := 13) 0 dX13_walks_12 rfl rfl ?_
    refine z_iload_n (q := 14) 2 dX13_walks_13 rfl rfl ?_
    refine z_aload_n (q := 15) 0 dX13_walks_14 rfl rfl ?_
    refine z_gf (q := 18) (ki := 9) (v := (2, 96)) fX13_32 rfl (z_ldr rfl (hl0.ref 88 rfl)) (hl0.i 88 (by decide) rfl) dX13_walks_15 rfl ?_
    refine z_bipush (q := 20) dX13_walks_18 rfl (by decide) ?_
    refine z_iload_n (q := 21) 1 dX13_walks_20 rfl rfl ?_
    refine z_imul (q := 22) dX13_walks_21 rfl ?_
    refine z_iload_n (q := 23) 3 dX13_walks_22 rfl rfl ?_
    refine z_iadd (q := 24) dX13_walks_23 rfl ?_
    refine z_iale (q := 25) (v := (h 96 ((12 * x1) + x3))) (hl0.a 96 (by decide) rfl) (p5 c1) (p6 c1) rfl dX13_walks_24 rfl ?_
    refine z_aload_n (q := 26) 0 dX13_walks_25 rfl rfl ?_
    refine z_gf (q := 29) (ki := 10) (v := (2, 97)) fX13_35 rfl (z_ldr rfl (hl0.ref 89 rfl)) (hl0.i 88 (by decide) rfl) dX13_walks_26 rfl ?_
    refine z_bipush (q := 31) dX13_walks_29 rfl (by decide) ?_
    refine z_iload_n (q := 32) 1 dX13_walks_31 rfl rfl ?_
    refine z_imul (q := 33) dX13_walks_32 rfl ?_
    refine z_iload_n (q := 34) 3 dX13_walks_33 rfl rfl ?_
    refine z_iadd (q := 35) dX13_walks_34 rfl ?_
    refine z_iale (q := 36) (v := (h 97 ((12 * x1) + x3))) (hl0.a 97 (by decide) rfl) (p5 c1) (p6 c1) rfl dX13_walks_35 rfl ?_
    refine z_aload_n (q := 37) 0 dX13_walks_36 rfl rfl ?_
    refine z_gf (q := 40) (ki := 11) (v := (2, 98)) fX13_38 rfl (z_ldr rfl (hl0.ref 90 rfl)) (hl0.i 88 (by decide) rfl) dX13_walks_37 rfl ?_
    refine z_bipush (q := 42) dX13_walks_40 rfl (by decide) ?_
    refine z_iload_n (q := 43) 1 dX13_walks_42 rfl rfl ?_
    refine z_imul (q := 44) dX13_walks_43 rfl ?_
    refine z_iload_n (q := 45) 3 dX13_walks_44 rfl rfl ?_
    refine z_iadd (q := 46) dX13_walks_45 rfl ?_
    refine z_iale (q := 47) (v := (h 98 ((12 * x1) + x3))) (hl0.a 98 (by decide) rfl) (p5 c1) (p6 c1) rfl dX13_walks_46 rfl ?_
    exact z_goV (q := 50) (av := [(0, x2), (0, (h 96 ((12 * x1) + x3))), (0, (h 97 ((12 * x1) + x3))), (0, (h 98 ((12 * x1) + x3)))]) (rest := []) cb11 (hl0.i 88 (by decide) rfl) z_toi hl0 (u2 c1) mo_X13_makes np_X13_makes k1495 k1497 k60 rfl (nle rfl) dX13_walks_47 rfl
theorem b_X13_walks_50 {D : zD} {d : Nat} {G : zG} {h : zH} {Q : zO → zG → zH → Prop} {s0 x1 x2 x3 : Int} (p1 : z_in s0)
    (u1 : ¬ s0 = 0 → z_Kv D M_X13_become d [(2, 88), (0, x2), (0, 10)] G h (fun G' h' => z_Y D M_X13_walks d 62 [(0, 2, 88), (1, 0, x1), (2, 0, x2), (3, 0, x3)] [] G' h' Q))
    (u2 : ¬ (¬ s0 = 0) → Q (.inl (some (0, x3))) G h) :
    z_Y D M_X13_walks d 50 [(0, 2, 88), (1, 0, x1), (2, 0, x2), (3, 0, x3)] [(0, s0)] G h Q := by
  intro hl0
  refine z_if_ne (q := 53) (t := 55) p1 dX13_walks_50 (by decide) rfl (fun c1 => ?_) (fun c1 => ?_)
  · refine z_aload_n (q := 56) 0 dX13_walks_55 rfl rfl ?_
    refine z_iload_n (q := 57) 2 dX13_walks_56 rfl rfl ?_
    refine z_bipush (q := 59) dX13_walks_57 rfl (by decide) ?_
    exact z_goV (q := 62) (av := [(0, x2), (0, 10)]) (rest := []) cb11 (hl0.i 88 (by decide) rfl) z_tov hl0 (u1 c1) mo_X13_become np_X13_become k1348 k1350 k48 rfl (nle rfl) dX13_walks_59 rfl
  · refine z_iload_n (q := 54) 3 dX13_walks_53 rfl rfl ?_
    exact z_iret rfl dX13_walks_54 ⟨hl0, u2 c1⟩
theorem b_X13_walks_62 {D : zD} {d : Nat} {G : zG} {h : zH} {Q : zO → zG → zH → Prop} {x1 x2 x3 : Int}
    (u1 : z_Y D M_X13_walks d 2 [(0, 2, 88), (1, 0, x1), (2, 0, x2), (3, 0, (x3 + 1))] [] G h Q) :
    z_Y D M_X13_walks d 62 [(0, 2, 88), (1, 0, x1), (2, 0, x2), (3, 0, x3)] [] G h Q := by
  intro hl0
  refine z_iinc (q := 65) (L' := [(0, 2, 88), (1, 0, x1), (2, 0, x2), (3, 0, (x3 + 1))]) 3 dX13_walks_62 rfl rfl (by decide) rfl ?_
  refine z_goto (t := 2) dX13_walks_65 (by decide) ?_
  exact u1 hl0
theorem b_X13_takeWay_0 {D : zD} {d : Nat} {G : zG} {h : zH} {Q : zO → zG → zH → Prop} {x1 x2 : Int} (p1 : 0 ≤ x2) (p2 : x2 < 9) (p3 : 0 ≤ x1) (p4 : x1 < 9)
    (u1 : z_Y D M_X13_takeWay d 14 [(0, 2, 88), (1, 0, x1), (2, 0, x2), (3, 0, 0)] [] G (z_wr h 95 x1 (h 95 x2)) Q) :
    z_Y D M_X13_takeWay d 0 [(0, 2, 88), (1, 0, x1), (2, 0, x2)] [] G h Q := by
  intro hl0
  refine z_aload_n (q := 1) 0 dX13_takeWay_0 rfl rfl ?_
  refine z_gf (q := 4) (ki := 8) (v := (2, 95)) fX13_29 rfl (z_ldr rfl (hl0.ref 87 rfl)) (hl0.i 88 (by decide) rfl) dX13_takeWay_1 rfl ?_
  refine z_iload_n (q := 5) 1 dX13_takeWay_4 rfl rfl ?_
  refine z_aload_n (q := 6) 0 dX13_takeWay_5 rfl rfl ?_
  refine z_gf (q := 9) (ki := 8) (v := (2, 95)) fX13_29 rfl (z_ldr rfl (hl0.ref 87 rfl)) (hl0.i 88 (by decide) rfl) dX13_takeWay_6 rfl ?_
  refine z_iload_n (q := 10) 2 dX13_takeWay_9 rfl rfl ?_
  refine z_iale (q := 11) (v := (h 95 x2)) (hl0.a 95 (by decide) rfl) p1 p2 rfl dX13_takeWay_10 rfl ?_
  refine z_isn (q := 12) (hl0.i 95 (by decide) rfl) (hl0.n 95 (by decide) rfl) p3 p4 dX13_takeWay_11 rfl ?_
  have hl1 := hl0.wr (v := (h 95 x2)) (hl0.i 95 (by decide) rfl) (i := x1) rfl
  refine z_iconst (q := 13) dX13_takeWay_12 rfl ?_
  refine z_istore_n (q := 14) (L' := [(0, 2, 88), (1, 0, x1), (2, 0, x2), (3, 0, 0)]) dX13_takeWay_13 rfl (by decide) rfl ?_
  exact u1 hl1
theorem b_X13_takeWay_14 {D : zD} {d : Nat} {G : zG} {h : zH} {Q : zO → zG → zH → Prop} {x1 x2 x3 : Int} (p1 : z_in x3) (p2 : ¬ (12 ≤ x3) → 0 ≤ ((12 * x2) + x3)) (p3 : ¬ (12 ≤ x3) → ((12 * x2) + x3) < 108) (p4 : ¬ (12 ≤ x3) → 0 ≤ ((12 * x1) + x3)) (p5 : ¬ (12 ≤ x3) → ((12 * x1) + x3) < 108)
    (u1 : 12 ≤ x3 → Q (.inl none) G h)
    (u2 : ¬ (12 ≤ x3) → z_Y D M_X13_takeWay d 14 [(0, 2, 88), (1, 0, x1), (2, 0, x2), (3, 0, (x3 + 1))] [] G (z_wr (z_wr (z_wr h 96 ((12 * x1) + x3) (h 96 ((12 * x2) + x3))) 97 ((12 * x1) + x3) (h 97 ((12 * x2) + x3))) 98 ((12 * x1) + x3) (h 98 ((12 * x2) + x3))) Q) :
    z_Y D M_X13_takeWay d 14 [(0, 2, 88), (1, 0, x1), (2, 0, x2), (3, 0, x3)] [] G h Q := by
  intro hl0
  refine z_iload_n (q := 15) 3 dX13_takeWay_14 rfl rfl ?_
  refine z_bipush (q := 17) dX13_takeWay_15 rfl (by decide) ?_
  refine z_icmp_ge (q := 20) (t := 92) p1 ⟨by decide, by decide⟩ dX13_takeWay_17 (by decide) rfl (fun c1 => ?_) (fun c1 => ?_)
  · exact z_vret rfl dX13_takeWay_92 ⟨hl0, u1 c1⟩
  · refine z_aload_n (q := 21) 0 dX13_takeWay_20 rfl rfl ?_
    refine z_gf (q := 24) (ki := 9) (v := (2, 96)) fX13_32 rfl (z_ldr rfl (hl0.ref 88 rfl)) (hl0.i 88 (by decide) rfl) dX13_takeWay_21 rfl ?_
    refine z_bipush (q := 26) dX13_takeWay_24 rfl (by decide) ?_
    refine z_iload_n (q := 27) 1 dX13_takeWay_26 rfl rfl ?_
    refine z_imul (q := 28) dX13_takeWay_27 rfl ?_
    refine z_iload_n (q := 29) 3 dX13_takeWay_28 rfl rfl ?_
    refine z_iadd (q := 30) dX13_takeWay_29 rfl ?_
    refine z_aload_n (q := 31) 0 dX13_takeWay_30 rfl rfl ?_
    refine z_gf (q := 34) (ki := 9) (v := (2, 96)) fX13_32 rfl (z_ldr rfl (hl0.ref 88 rfl)) (hl0.i 88 (by decide) rfl) dX13_takeWay_31 rfl ?_
    refine z_bipush (q := 36) dX13_takeWay_34 rfl (by decide) ?_
    refine z_iload_n (q := 37) 2 dX13_takeWay_36 rfl rfl ?_
    refine z_imul (q := 38) dX13_takeWay_37 rfl ?_
    refine z_iload_n (q := 39) 3 dX13_takeWay_38 rfl rfl ?_
    refine z_iadd (q := 40) dX13_takeWay_39 rfl ?_
    refine z_iale (q := 41) (v := (h 96 ((12 * x2) + x3))) (hl0.a 96 (by decide) rfl) (p2 c1) (p3 c1) rfl dX13_takeWay_40 rfl ?_
    refine z_isn (q := 42) (hl0.i 96 (by decide) rfl) (hl0.n 96 (by decide) rfl) (p4 c1) (p5 c1) dX13_takeWay_41 rfl ?_
    have hl1 := hl0.wr (v := (h 96 ((12 * x2) + x3))) (hl0.i 96 (by decide) rfl) (i := ((12 * x1) + x3)) rfl
    refine z_aload_n (q := 43) 0 dX13_takeWay_42 rfl rfl ?_
    refine z_gf (q := 46) (ki := 10) (v := (2, 97)) fX13_35 rfl (z_ldr rfl (hl1.ref 89 rfl)) (hl1.i 88 (by decide) rfl) dX13_takeWay_43 rfl ?_
    refine z_bipush (q := 48) dX13_takeWay_46 rfl (by decide) ?_
    refine z_iload_n (q := 49) 1 dX13_takeWay_48 rfl rfl ?_
    refine z_imul (q := 50) dX13_takeWay_49 rfl ?_
    refine z_iload_n (q := 51) 3 dX13_takeWay_50 rfl rfl ?_
    refine z_iadd (q := 52) dX13_takeWay_51 rfl ?_
    refine z_aload_n (q := 53) 0 dX13_takeWay_52 rfl rfl ?_
    refine z_gf (q := 56) (ki := 10) (v := (2, 97)) fX13_35 rfl (z_ldr rfl (hl1.ref 89 rfl)) (hl1.i 88 (by decide) rfl) dX13_takeWay_53 rfl ?_
    refine z_bipush (q := 58) dX13_takeWay_56 rfl (by decide) ?_
    refine z_iload_n (q := 59) 2 dX13_takeWay_58 rfl rfl ?_
    refine z_imul (q := 60) dX13_takeWay_59 rfl ?_
    refine z_iload_n (q := 61) 3 dX13_takeWay_60 rfl rfl ?_
    refine z_iadd (q := 62) dX13_takeWay_61 rfl ?_
    refine z_iale (q := 63) (v := (h 97 ((12 * x2) + x3))) (hl1.a 97 (by decide) rfl) (p2 c1) (p3 c1) (w_na (by decide)) dX13_takeWay_62 rfl ?_
    refine z_isn (q := 64) (hl1.i 97 (by decide) rfl) (hl1.n 97 (by decide) rfl) (p4 c1) (p5 c1) dX13_takeWay_63 rfl ?_
    have hl2 := hl1.wr (v := (h 97 ((12 * x2) + x3))) (hl1.i 97 (by decide) rfl) (i := ((12 * x1) + x3)) rfl
    refine z_aload_n (q := 65) 0 dX13_takeWay_64 rfl rfl ?_
    refine z_gf (q := 68) (ki := 11) (v := (2, 98)) fX13_38 rfl (z_ldr rfl (hl2.ref 90 rfl)) (hl2.i 88 (by decide) rfl) dX13_takeWay_65 rfl ?_
    refine z_bipush (q := 70) dX13_takeWay_68 rfl (by decide) ?_
    refine z_iload_n (q := 71) 1 dX13_takeWay_70 rfl rfl ?_
    refine z_imul (q := 72) dX13_takeWay_71 rfl ?_
    refine z_iload_n (q := 73) 3 dX13_takeWay_72 rfl rfl ?_
    refine z_iadd (q := 74) dX13_takeWay_73 rfl ?_
    refine z_aload_n (q := 75) 0 dX13_takeWay_74 rfl rfl ?_
    refine z_gf (q := 78) (ki := 11) (v := (2, 98)) fX13_38 rfl (z_ldr rfl (hl2.ref 90 rfl)) (hl2.i 88 (by decide) rfl) dX13_takeWay_75 rfl ?_
    refine z_bipush (q := 80) dX13_takeWay_78 rfl (by decide) ?_
    refine z_iload_n (q := 81) 2 dX13_takeWay_80 rfl rfl ?_
    refine z_imul (q := 82) dX13_takeWay_81 rfl ?_
    refine z_iload_n (q := 83) 3 dX13_takeWay_82 rfl rfl ?_
    refine z_iadd (q := 84) dX13_takeWay_83 rfl ?_
    refine z_iale (q := 85) (v := (h 98 ((12 * x2) + x3))) (hl2.a 98 (by decide) rfl) (p2 c1) (p3 c1) ((w_na (by decide)).trans (w_na (by decide))) dX13_takeWay_84 rfl ?_
    refine z_isn (q := 86) (hl2.i 98 (by decide) rfl) (hl2.n 98 (by decide) rfl) (p4 c1) (p5 c1) dX13_takeWay_85 rfl ?_
    have hl3 := hl2.wr (v := (h 98 ((12 * x2) + x3))) (hl2.i 98 (by decide) rfl) (i := ((12 * x1) + x3)) rfl
    refine z_iinc (q := 89) (L' := [(0, 2, 88), (1, 0, x1), (2, 0, x2), (3, 0, (x3 + 1))]) 3 dX13_takeWay_86 rfl rfl (by decide) rfl ?_
    refine z_goto (t := 14) dX13_takeWay_89 (by decide) ?_
    exact u2 c1 hl3
