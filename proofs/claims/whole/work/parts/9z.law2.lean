/-! the law: its loop, its body -/
section LawL
variable {D : zD} {d : Nat}
def lwQ : zO → zG → zH → Prop := fun o G' h' => o = .inl (some (0, 1)) ∧ PI G' h'
theorem law_loop (hd : 40 ≤ d) (hs : ∀ j : Int, z_in (D.2.2.2.2.2.2 j)) (n0 : 0 ≤ D.2.2.2.2.2.1) (n1 : D.2.2.2.2.2.1 ≤ 3072) : ∀ (m : Nat) (i : Int) (G : zG) (h : zH) (S : zA), D.2.2.2.2.2.1 - i ≤ m → 0 ≤ i → i ≤ 4000 → lay G h → aok S → cAb G h S → mAb h S → z_F D M_law d 18 [(0, 2, -6), (1, 2, 0), (2, 2, 88), (3, 0, i)] [] G h (fun o G' h' => lay G' h' ∧ lwQ o G' h') := by
  intro m
  induction m with
  | zero =>
    intro i G h S e i0 i4 hl ok c mm
    refine z_iload_n (q := 19) 3 dL_law_18 rfl rfl ?_
    refine z_aload_n (q := 20) 0 dL_law_19 rfl rfl ?_
    refine z_alen (q := 21) 50 (by decide) (by decide) z_c6 dL_law_20 rfl ?_
    refine z_bipush (q := 23) dL_law_21 rfl (by decide) ?_
    refine z_isub (q := 24) dL_law_23 rfl ?_
    refine z_icmp_gt (q := 27) (t := 838) ⟨by omega, by omega⟩ ⟨by omega, by omega⟩ dL_law_24 (by decide) rfl (fun _ => ?_) (fun w => by omega)
    refine z_iconst (q := 839) dL_law_838 rfl ?_
    exact z_bret rfl (by decide) dL_law_839 ⟨hl, rfl, c.2.2.2.1.1⟩
  | succ m ih =>
    intro i G h S e i0 i4 hl ok c mm
    refine z_iload_n (q := 19) 3 dL_law_18 rfl rfl ?_
    refine z_aload_n (q := 20) 0 dL_law_19 rfl rfl ?_
    refine z_alen (q := 21) 50 (by decide) (by decide) z_c6 dL_law_20 rfl ?_
    refine z_bipush (q := 23) dL_law_21 rfl (by decide) ?_
    refine z_isub (q := 24) dL_law_23 rfl ?_
    refine z_icmp_gt (q := 27) (t := 838) ⟨by omega, by omega⟩ ⟨by omega, by omega⟩ dL_law_24 (by decide) rfl (fun _ => ?_) (fun w => ?_)
    · refine z_iconst (q := 839) dL_law_838 rfl ?_
      exact z_bret rfl (by decide) dL_law_839 ⟨hl, rfl, c.2.2.2.1.1⟩
    have i6 : i + 6 ≤ D.2.2.2.2.2.1 := by omega
    have K : ∀ (G' : zG) (h' : zH) (S' : zA), lay G' h' → aok S' → cAb G' h' S' → mAb h' S' → z_F D M_law d 832 [(0, 2, -6), (1, 2, 0), (2, 2, 88), (3, 0, i)] [] G' h' (fun o G' h' => lay G' h' ∧ lwQ o G' h') := by
      intro G' h' S' hl' ok' c' m'
      refine z_iinc (q := 835) (L' := [(0, 2, -6), (1, 2, 0), (2, 2, 88), (3, 0, (i + 6))]) 3 dL_law_832 rfl rfl (by decide) rfl ?_
      refine z_goto (t := 18) dL_law_835 (by decide) ?_
      exact ih (i + 6) G' h' S' (by omega) (by omega) (by omega) hl' ok' c' m'
    refine z_aload_n (q := 28) 0 dL_law_27 rfl rfl ?_
    refine z_iload_n (q := 29) 3 dL_law_28 rfl rfl ?_
    refine z_iale (q := 30) z_c6 (by omega) (by omega) rfl dL_law_29 rfl ?_
    refine z_bipush (q := 32) dL_law_30 rfl (by decide) ?_
    refine z_r_iand (q := 33) dL_law_32 rfl ?_
    have rg : z_iand (D.2.2.2.2.2.2 i) 31 = D.2.2.2.2.2.2 i % 32 := z_iand_mask _ 5 (by decide)
    generalize z_iand (D.2.2.2.2.2.2 i) 31 = v at *
    by_cases c0 : v = 0
    · refine z_tswIn (t := 124) 0 c0 ⟨by decide, by decide⟩ dL_law_33 (by decide) (by decide) rfl (by decide) ?_
      exact w_feed hd hs i0 i6 hl ok c mm K
    by_cases c1 : v = 1
    · refine z_tswIn (t := 187) 1 c1 ⟨by decide, by decide⟩ dL_law_33 (by decide) (by decide) rfl (by decide) ?_
      exact w_end hd hs i0 i6 hl ok c mm K
    by_cases c2 : v = 2
    · refine z_tswIn (t := 210) 2 c2 ⟨by decide, by decide⟩ dL_law_33 (by decide) (by decide) rfl (by decide) ?_
      exact w_table hd hs i0 i6 hl ok c mm K
    by_cases c3 : v = 3
    · refine z_tswIn (t := 233) 3 c3 ⟨by decide, by decide⟩ dL_law_33 (by decide) (by decide) rfl (by decide) ?_
      exact w_way hd hs i0 i6 hl ok c mm K
    by_cases c4 : v = 4
    · refine z_tswIn (t := 256) 4 c4 ⟨by decide, by decide⟩ dL_law_33 (by decide) (by decide) rfl (by decide) ?_
      exact w_fault hd hs i0 i6 hl ok c mm K
    by_cases c5 : v = 5
    · refine z_tswIn (t := 279) 5 c5 ⟨by decide, by decide⟩ dL_law_33 (by decide) (by decide) rfl (by decide) ?_
      exact w_size hd hs i0 i6 hl ok c mm K
    by_cases c6 : v = 6
    · refine z_tswIn (t := 312) 6 c6 ⟨by decide, by decide⟩ dL_law_33 (by decide) (by decide) rfl (by decide) ?_
      exact w_cell hd hs i0 i6 hl ok c mm K
    by_cases c7 : v = 7
    · refine z_tswIn (t := 356) 7 c7 ⟨by decide, by decide⟩ dL_law_33 (by decide) (by decide) rfl (by decide) ?_
      exact w_copy hd hs i0 i6 hl ok c mm K
    by_cases c8 : v = 8
    · refine z_tswIn (t := 389) 8 c8 ⟨by decide, by decide⟩ dL_law_33 (by decide) (by decide) rfl (by decide) ?_
      exact w_fits hd hs i0 i6 hl ok c mm K
    by_cases c9 : v = 9
    · refine z_tswIn (t := 422) 9 c9 ⟨by decide, by decide⟩ dL_law_33 (by decide) (by decide) rfl (by decide) ?_
      exact w_step hd hs i0 i6 hl ok c mm K
    by_cases c10 : v = 10
    · refine z_tswIn (t := 475) 10 c10 ⟨by decide, by decide⟩ dL_law_33 (by decide) (by decide) rfl (by decide) ?_
      exact w_walk hd hs i0 i6 hl ok c mm K
    by_cases c11 : v = 11
    · refine z_tswIn (t := 518) 11 c11 ⟨by decide, by decide⟩ dL_law_33 (by decide) (by decide) rfl (by decide) ?_
      exact w_steps hd hs i0 i6 hl ok c mm K
    by_cases c12 : v = 12
    · refine z_tswIn (t := 541) 12 c12 ⟨by decide, by decide⟩ dL_law_33 (by decide) (by decide) rfl (by decide) ?_
      exact w_stepAt hd hs i0 i6 hl ok c mm K
    by_cases c13 : v = 13
    · refine z_tswIn (t := 584) 13 c13 ⟨by decide, by decide⟩ dL_law_33 (by decide) (by decide) rfl (by decide) ?_
      exact w_chain hd hs i0 i6 hl ok c mm K
    by_cases c14 : v = 14
    · refine z_tswIn (t := 627) 14 c14 ⟨by decide, by decide⟩ dL_law_33 (by decide) (by decide) rfl (by decide) ?_
      exact w_find hd hs i0 i6 hl ok c mm K
    by_cases c15 : v = 15
    · refine z_tswIn (t := 690) 15 c15 ⟨by decide, by decide⟩ dL_law_33 (by decide) (by decide) rfl (by decide) ?_
      exact w_found hd hs i0 i6 hl ok c mm K
    by_cases c16 : v = 16
    · refine z_tswIn (t := 713) 16 c16 ⟨by decide, by decide⟩ dL_law_33 (by decide) (by decide) rfl (by decide) ?_
      exact w_take hd hs i0 i6 hl ok c mm K
    by_cases c17 : v = 17
    · refine z_tswIn (t := 746) 17 c17 ⟨by decide, by decide⟩ dL_law_33 (by decide) (by decide) rfl (by decide) ?_
      exact w_part hd hs i0 i6 hl ok c mm K
    by_cases c18 : v = 18
    · refine z_tswIn (t := 809) 18 c18 ⟨by decide, by decide⟩ dL_law_33 (by decide) (by decide) rfl (by decide) ?_
      exact w_count hd hs i0 i6 hl ok c mm K
    refine z_tswOut (t := 832) ⟨by omega, by omega⟩ dL_law_33 (by omega) (by decide) ?_
    exact K G h S hl ok c mm
theorem i0_fc : frI 88 iHc := by
  have f0 : frI 88 iB := fun _ _ => rfl
  have f1 := f0.w 0 0 1 (by decide)
  have f2 := f1.w 0 1 2 (by decide)
  have f3 := f2.w 0 2 3 (by decide)
  have f4 := f3.w 0 3 0 (by decide)
  have f5 := f4.w 0 4 0 (by decide)
  have f6 := f5.w 0 5 (-1) (by decide)
  have f7 := f6.w 5 0 6 (by decide)
  have f8 := f7.w 5 1 1 (by decide)
  have f9 := f8.w 5 2 1 (by decide)
  have f10 := f9.w 4 0 5 (by decide)
  have f11 := f10.w 4 1 0 (by decide)
  have f12 := f11.w 4 2 (-1) (by decide)
  have f13 := f12.w 0 6 4 (by decide)
  have f14 := f13.w 8 0 9 (by decide)
  have f15 := f14.w 8 1 0 (by decide)
  have f16 := f15.w 7 0 8 (by decide)
  have f17 := f16.w 7 1 0 (by decide)
  have f18 := f17.w 7 2 (-1) (by decide)
  have f19 := f18.w 7 9 10 (by decide)
  have f20 := f19.w 7 10 11 (by decide)
  have f21 := f20.w 0 7 7 (by decide)
  have f22 := f21.w 12 0 13 (by decide)
  have f23 := f22.w 12 1 14 (by decide)
  have f24 := f23.w 12 2 15 (by decide)
  have f25 := f24.w 12 3 16 (by decide)
  have f26 := f25.w 12 4 17 (by decide)
  have f27 := f26.w 12 5 18 (by decide)
  have f28 := f27.w 0 8 12 (by decide)
  have f29 := f28.w 20 0 21 (by decide)
  have f30 := f29.w 20 1 1 (by decide)
  have f31 := f30.w 20 2 1 (by decide)
  have f32 := f31.w 19 1 20 (by decide)
  have f33 := f32.w 22 0 23 (by decide)
  have f34 := f33.w 22 1 1 (by decide)
  have f35 := f34.w 22 2 1 (by decide)
  have f36 := f35.w 19 2 22 (by decide)
  have f37 := f36.w 19 0 12 (by decide)
  have f38 := f37.w 0 9 19 (by decide)
  have f39 := f38.w 25 0 26 (by decide)
  have f40 := f39.w 25 1 1 (by decide)
  have f41 := f40.w 25 2 1 (by decide)
  have f42 := f41.w 24 1 25 (by decide)
  have f43 := f42.w 27 0 28 (by decide)
  have f44 := f43.w 27 1 1 (by decide)
  have f45 := f44.w 27 2 1 (by decide)
  have f46 := f45.w 24 2 27 (by decide)
  have f47 := f46.w 24 0 12 (by decide)
  have f48 := f47.w 0 10 24 (by decide)
  have f49 := f48.w 29 0 30 (by decide)
  have f50 := f49.w 29 1 1 (by decide)
  have f51 := f50.w 29 2 1 (by decide)
  have f52 := f51.w 0 11 29 (by decide)
  have f53 := f52.w 31 0 32 (by decide)
  have f54 := f53.w 31 1 0 (by decide)
  have f55 := f54.w 0 12 31 (by decide)
  have f56 := f55.w 34 0 35 (by decide)
  have f57 := f56.w 34 1 1 (by decide)
  have f58 := f57.w 34 2 1 (by decide)
  have f59 := f58.w 33 1 34 (by decide)
  have f60 := f59.w 36 0 37 (by decide)
  have f61 := f60.w 36 1 1 (by decide)
  have f62 := f61.w 36 2 1 (by decide)
  have f63 := f62.w 33 2 36 (by decide)
  have f64 := f63.w 38 0 39 (by decide)
  have f65 := f64.w 38 1 1 (by decide)
  have f66 := f65.w 38 2 1 (by decide)
  have f67 := f66.w 33 3 38 (by decide)
  have f68 := f67.w 40 0 41 (by decide)
  have f69 := f68.w 40 1 1 (by decide)
  have f70 := f69.w 40 2 1 (by decide)
  have f71 := f70.w 33 4 40 (by decide)
  have f72 := f71.w 42 0 43 (by decide)
  have f73 := f72.w 42 1 1 (by decide)
  have f74 := f73.w 42 2 1 (by decide)
  have f75 := f74.w 33 5 42 (by decide)
  have f76 := f75.w 44 0 45 (by decide)
  have f77 := f76.w 44 1 1 (by decide)
  have f78 := f77.w 44 2 1 (by decide)
  have f79 := f78.w 33 6 44 (by decide)
  have f80 := f79.w 46 0 47 (by decide)
  have f81 := f80.w 46 1 1 (by decide)
  have f82 := f81.w 46 2 1 (by decide)
  have f83 := f82.w 33 7 46 (by decide)
  have f84 := f83.w 33 8 0 (by decide)
  have f85 := f84.w 33 9 48 (by decide)
  have f86 := f85.w 33 10 49 (by decide)
  have f87 := f86.w 33 11 50 (by decide)
  have f88 := f87.w 33 12 0 (by decide)
  have f89 := f88.w 51 0 0 (by decide)
  have f90 := f89.w 51 1 0 (by decide)
  have f91 := f90.w 51 2 52 (by decide)
  have f92 := f91.w 51 3 53 (by decide)
  have f93 := f92.w 51 4 54 (by decide)
  have f94 := f93.w 51 5 55 (by decide)
  have f95 := f94.w 33 13 51 (by decide)
  have f96 := f95.w 33 14 0 (by decide)
  have f97 := f96.w 33 15 0 (by decide)
  have f98 := f97.w 33 16 0 (by decide)
  have f99 := f98.w 33 0 12 (by decide)
  have f100 := f99.w 0 13 33 (by decide)
  have f101 := f100.w 56 0 57 (by decide)
  have f102 := f101.w 56 1 1 (by decide)
  have f103 := f102.w 56 2 1 (by decide)
  have f104 := f103.w 1 0 56 (by decide)
  have f105 := f104.w 58 0 59 (by decide)
  have f106 := f105.w 58 1 0 (by decide)
  have f107 := f106.w 2 0 58 (by decide)
  have f108 := f107.w 60 0 61 (by decide)
  have f109 := f108.w 60 1 1 (by decide)
  have f110 := f109.w 60 2 1 (by decide)
  have f111 := f110.w 1 1 60 (by decide)
  have f112 := f111.w 62 0 63 (by decide)
  have f113 := f112.w 62 1 0 (by decide)
  have f114 := f113.w 2 1 62 (by decide)
  have f115 := f114.w 64 0 65 (by decide)
  have f116 := f115.w 64 1 1 (by decide)
  have f117 := f116.w 64 2 1 (by decide)
  have f118 := f117.w 1 2 64 (by decide)
  have f119 := f118.w 66 0 67 (by decide)
  have f120 := f119.w 66 1 0 (by decide)
  have f121 := f120.w 2 2 66 (by decide)
  have f122 := f121.w 68 0 69 (by decide)
  have f123 := f122.w 68 1 1 (by decide)
  have f124 := f123.w 68 2 1 (by decide)
  have f125 := f124.w 1 3 68 (by decide)
  have f126 := f125.w 70 0 71 (by decide)
  have f127 := f126.w 70 1 0 (by decide)
  have f128 := f127.w 2 3 70 (by decide)
  have f129 := f128.w 72 0 73 (by decide)
  have f130 := f129.w 72 1 1 (by decide)
  have f131 := f130.w 72 2 1 (by decide)
  have f132 := f131.w 1 4 72 (by decide)
  have f133 := f132.w 74 0 75 (by decide)
  have f134 := f133.w 74 1 0 (by decide)
  have f135 := f134.w 2 4 74 (by decide)
  have f136 := f135.w 76 0 77 (by decide)
  have f137 := f136.w 76 1 1 (by decide)
  have f138 := f137.w 76 2 1 (by decide)
  have f139 := f138.w 1 5 76 (by decide)
  have f140 := f139.w 78 0 79 (by decide)
  have f141 := f140.w 78 1 0 (by decide)
  have f142 := f141.w 2 5 78 (by decide)
  have f143 := f142.w 80 0 81 (by decide)
  have f144 := f143.w 80 1 1 (by decide)
  have f145 := f144.w 80 2 1 (by decide)
  have f146 := f145.w 1 6 80 (by decide)
  have f147 := f146.w 82 0 83 (by decide)
  have f148 := f147.w 82 1 0 (by decide)
  have f149 := f148.w 2 6 82 (by decide)
  have f150 := f149.w 84 0 85 (by decide)
  have f151 := f150.w 84 1 1 (by decide)
  have f152 := f151.w 84 2 1 (by decide)
  have f153 := f152.w 1 7 84 (by decide)
  have f154 := f153.w 86 0 87 (by decide)
  have f155 := f154.w 86 1 0 (by decide)
  have f156 := f155.w 2 7 86 (by decide)
  exact f156
theorem law_all (hd : 40 ≤ d) (hs : ∀ j : Int, z_in (D.2.2.2.2.2.2 j)) (n0 : 0 ≤ D.2.2.2.2.2.1) (n1 : D.2.2.2.2.2.1 ≤ 3072) : z_F D M_law d 0 [(0, 2, -6)] [] (gL 0) iB (fun o G' h' => lay G' h' ∧ lwQ o G' h') := by
  have f0 : frI 0 iB := fun _ _ => rfl
  refine n_new (q := 3) (k := 0) cb9 k121 k122 k97 rfl f0 dL_law_0 rfl ?_
  refine z_dup (q := 4) (by decide) dL_law_3 rfl ?_
  refine n_inv (q := 7) (d2 := d - 1) (rest := [(2, 0)]) (av := []) (by decide) (i_X11_0 (by omega) (f0.up (k' := 1) (by decide))) mo_X11_init np_X11_init rfl rfl rfl k125 k123 k124 (by omega) rfl (nle rfl) dL_law_4 rfl ?_
  show z_F D M_law d 7 [(0, 2, -6)] [(2, 0)] (gL 88) iHc _
  refine z_astore_n (q := 8) (L' := [(0, 2, -6), (1, 2, 0)]) dL_law_7 rfl (by decide) rfl ?_
  refine n_new (q := 11) (k := 88) cb11 k1091 k1092 k106 rfl i0_fc dL_law_8 rfl ?_
  refine z_dup (q := 12) (by decide) dL_law_11 rfl ?_
  refine n_inv (q := 15) (d2 := d - 1) (rest := [(2, 88)]) (av := []) (by decide) (i_X13_88 (by omega) (i0_fc.up (k' := 89) (by decide))) mo_X13_init np_X13_init rfl rfl rfl k1095 k1093 k1094 (by omega) rfl (nle rfl) dL_law_12 rfl ?_
  show z_F D M_law d 15 [(0, 2, -6), (1, 2, 0)] [(2, 88)] (gL 114) iHm _
  refine z_astore_n (q := 16) (L' := [(0, 2, -6), (1, 2, 0), (2, 2, 88)]) dL_law_15 rfl (by decide) rfl ?_
  refine z_iconst (q := 17) dL_law_16 rfl ?_
  refine z_istore_n (q := 18) (L' := [(0, 2, -6), (1, 2, 0), (2, 2, 88), (3, 0, 0)]) dL_law_17 rfl (by decide) rfl ?_
  exact law_loop hd hs n0 n1 3072 0 (gL 114) iHm S0 (by omega) (by decide) (by decide) i0_lay i0_ok i0_c i0_m
end LawL
