theorem b_J7_fill_53178_0 {D : zD} {d : Nat} {G : zG} {h : zH} {Q : zO → zG → zH → Prop} {x0 x1 : Int} (p1 : z_is G x0 50)
    (u1 : z_Y D M_J7_fill_53178 d 5 [(0, 2, x0), (1, 0, x1), (2, 0, 0), (3, 0, (G.2.2.2 x0))] [] G h Q) :
    z_Y D M_J7_fill_53178 d 0 [(0, 2, x0), (1, 0, x1)] [] G h Q := by
  intro hl0
  refine z_iconst (q := 1) dJ7_fill_53178_0 rfl ?_
  refine z_istore_n (q := 2) (L' := [(0, 2, x0), (1, 0, x1), (2, 0, 0)]) dJ7_fill_53178_1 rfl (by decide) rfl ?_
  refine z_aload_n (q := 3) 0 dJ7_fill_53178_2 rfl rfl ?_
  refine z_alen (q := 4) 50 (by decide) (by decide) (z_ati p1) dJ7_fill_53178_3 rfl ?_
  refine z_istore_n (q := 5) (L' := [(0, 2, x0), (1, 0, x1), (2, 0, 0), (3, 0, (G.2.2.2 x0))]) dJ7_fill_53178_4 rfl (by decide) rfl ?_
  exact u1 hl0
theorem b_J7_fill_53178_5 {D : zD} {d : Nat} {G : zG} {h : zH} {Q : zO → zG → zH → Prop} {x0 x1 x2 x3 : Int} (p1 : z_in x2) (p2 : z_in x3) (p3 : ¬ (x3 ≤ x2) → z_is G x0 50) (p4 : ¬ (x3 ≤ x2) → 0 ≤ x2) (p5 : ¬ (x3 ≤ x2) → x2 < (G.2.2.2 x0))
    (u1 : x3 ≤ x2 → Q (.inl none) G h)
    (u2 : ¬ (x3 ≤ x2) → z_Y D M_J7_fill_53178 d 5 [(0, 2, x0), (1, 0, x1), (2, 0, (x2 + 1)), (3, 0, x3)] [] G (z_wr h x0 x2 x1) Q) :
    z_Y D M_J7_fill_53178 d 5 [(0, 2, x0), (1, 0, x1), (2, 0, x2), (3, 0, x3)] [] G h Q := by
  intro hl0
  refine z_iload_n (q := 6) 2 dJ7_fill_53178_5 rfl rfl ?_
  refine z_iload_n (q := 7) 3 dJ7_fill_53178_6 rfl rfl ?_
  refine z_icmp_ge (q := 10) (t := 20) p1 p2 dJ7_fill_53178_7 (by decide) rfl (fun c1 => ?_) (fun c1 => ?_)
  · exact z_vret rfl dJ7_fill_53178_20 ⟨hl0, u1 c1⟩
  · refine z_aload_n (q := 11) 0 dJ7_fill_53178_10 rfl rfl ?_
    refine z_iload_n (q := 12) 2 dJ7_fill_53178_11 rfl rfl ?_
    refine z_iload_n (q := 13) 1 dJ7_fill_53178_12 rfl rfl ?_
    refine z_isn (q := 14) (p3 c1) rfl (p4 c1) (p5 c1) dJ7_fill_53178_13 rfl ?_
    have hl1 := hl0.wr (v := x1) (p3 c1) (i := x2) rfl
    refine z_iinc (q := 17) (L' := [(0, 2, x0), (1, 0, x1), (2, 0, (x2 + 1)), (3, 0, x3)]) 2 dJ7_fill_53178_14 rfl rfl (by decide) rfl ?_
    refine z_goto (t := 5) dJ7_fill_53178_17 (by decide) ?_
    exact u2 c1 hl1
theorem b_J7_fill_d0a16_0 {D : zD} {d : Nat} {G : zG} {h : zH} {Q : zO → zG → zH → Prop} {x0 x1 : Int} (p1 : z_is G x0 51)
    (u1 : z_Y D M_J7_fill_d0a16 d 6 [(0, 2, x0), (1, 1, x1), (3, 0, 0), (4, 0, (G.2.2.2 x0))] [] G h Q) :
    z_Y D M_J7_fill_d0a16 d 0 [(0, 2, x0), (1, 1, x1)] [] G h Q := by
  intro hl0
  refine z_iconst (q := 1) dJ7_fill_d0a16_0 rfl ?_
  refine z_istore_n (q := 2) (L' := [(0, 2, x0), (1, 1, x1), (3, 0, 0)]) dJ7_fill_d0a16_1 rfl (by decide) rfl ?_
  refine z_aload_n (q := 3) 0 dJ7_fill_d0a16_2 rfl rfl ?_
  refine z_alen (q := 4) 51 (by decide) (by decide) (z_ati p1) dJ7_fill_d0a16_3 rfl ?_
  refine z_istore (q := 6) (L' := [(0, 2, x0), (1, 1, x1), (3, 0, 0), (4, 0, (G.2.2.2 x0))]) dJ7_fill_d0a16_4 rfl (by decide) rfl ?_
  exact u1 hl0
theorem b_J7_fill_d0a16_6 {D : zD} {d : Nat} {G : zG} {h : zH} {Q : zO → zG → zH → Prop} {x0 x1 x3 x4 : Int} (p1 : z_in x3) (p2 : z_in x4) (p3 : ¬ (x4 ≤ x3) → z_is G x0 51) (p4 : ¬ (x4 ≤ x3) → 0 ≤ x3) (p5 : ¬ (x4 ≤ x3) → x3 < (G.2.2.2 x0))
    (u1 : x4 ≤ x3 → Q (.inl none) G h)
    (u2 : ¬ (x4 ≤ x3) → z_Y D M_J7_fill_d0a16 d 6 [(0, 2, x0), (1, 1, x1), (3, 0, (x3 + 1)), (4, 0, x4)] [] G (z_wr h x0 x3 x1) Q) :
    z_Y D M_J7_fill_d0a16 d 6 [(0, 2, x0), (1, 1, x1), (3, 0, x3), (4, 0, x4)] [] G h Q := by
  intro hl0
  refine z_iload_n (q := 7) 2 dJ7_fill_d0a16_6 rfl rfl ?_
  refine z_iload (q := 9) 3 dJ7_fill_d0a16_7 rfl rfl ?_
  refine z_icmp_ge (q := 12) (t := 22) p1 p2 dJ7_fill_d0a16_9 (by decide) rfl (fun c1 => ?_) (fun c1 => ?_)
  · exact z_vret rfl dJ7_fill_d0a16_22 ⟨hl0, u1 c1⟩
  · refine z_aload_n (q := 13) 0 dJ7_fill_d0a16_12 rfl rfl ?_
    refine z_iload_n (q := 14) 2 dJ7_fill_d0a16_13 rfl rfl ?_
    refine z_lload_n (q := 15) 1 dJ7_fill_d0a16_14 rfl rfl ?_
    refine z_lsn (q := 16) (p3 c1) rfl (p4 c1) (p5 c1) dJ7_fill_d0a16_15 rfl ?_
    have hl1 := hl0.wr (v := x1) (p3 c1) (i := x3) rfl
    refine z_iinc (q := 19) (L' := [(0, 2, x0), (1, 1, x1), (3, 0, (x3 + 1)), (4, 0, x4)]) 2 dJ7_fill_d0a16_16 rfl rfl (by decide) rfl ?_
    refine z_goto (t := 6) dJ7_fill_d0a16_19 (by decide) ?_
    exact u2 c1 hl1
