section Chg2
variable {D : zD} {d : Nat} {G : zG} {h h0 : zH} {Q : zO → zG → zH → Prop}
theorem sStep_1 {a b : Int} {T : zTb} (q : nC T.2.1 1 a b) : sStep 1 a b T = sTurn T := by rw [sStep, zif1 q]; rfl
theorem nC_1 {a b : Int} {T : zTb} (q : nC T.2.1 1 a b) : (0 ≤ a ∧ a ≤ 0) ∧ b = 0 := q
theorem sStep_2 {a b : Int} {T : zTb} (q : nC T.2.1 2 a b) : sStep 2 a b T = sDrop a T := by rw [sStep, zif1 q]; rfl
theorem nC_2 {a b : Int} {T : zTb} (q : nC T.2.1 2 a b) : (0 ≤ a ∧ a ≤ T.2.1 - 1) ∧ b = 0 := q
theorem sStep_3 {a b : Int} {T : zTb} (q : nC T.2.1 3 a b) : sStep 3 a b T = sSplit a b T := by rw [sStep, zif1 q]; rfl
theorem nC_3 {a b : Int} {T : zTb} (q : nC T.2.1 3 a b) : (0 ≤ a ∧ a ≤ T.2.1 - 1) ∧ 0 ≤ b ∧ b ≤ 3 := q
theorem sStep_4 {a b : Int} {T : zTb} (q : nC T.2.1 4 a b) : sStep 4 a b T = sFill a T := by rw [sStep, zif1 q]; rfl
theorem nC_4 {a b : Int} {T : zTb} (q : nC T.2.1 4 a b) : (0 ≤ a ∧ a ≤ T.2.1 - 1) ∧ b = 0 := q
theorem sStep_5 {a b : Int} {T : zTb} (q : nC T.2.1 5 a b) : sStep 5 a b T = sJoin a b T := by rw [sStep, zif1 q]; rfl
theorem nC_5 {a b : Int} {T : zTb} (q : nC T.2.1 5 a b) : (0 ≤ a ∧ a ≤ T.2.1 - 2) ∧ 0 ≤ b ∧ b ≤ 3 := q
theorem sStep_6 {a b : Int} {T : zTb} (q : nC T.2.1 6 a b) : sStep 6 a b T = sFold a T := by rw [sStep, zif1 q]; rfl
theorem nC_6 {a b : Int} {T : zTb} (q : nC T.2.1 6 a b) : (1 ≤ a ∧ a ≤ T.2.1 - 1) ∧ b = 0 := q
theorem sStep_7 {a b : Int} {T : zTb} (q : nC T.2.1 7 a b) : sStep 7 a b T = sUnfold T := by rw [sStep, zif1 q]; rfl
theorem nC_7 {a b : Int} {T : zTb} (q : nC T.2.1 7 a b) : (0 ≤ a ∧ a ≤ 0) ∧ b = 0 := q
theorem sStep_8 {a b : Int} {T : zTb} (q : nC T.2.1 8 a b) : sStep 8 a b T = sSort a T := by rw [sStep, zif1 q]; rfl
theorem nC_8 {a b : Int} {T : zTb} (q : nC T.2.1 8 a b) : (0 ≤ a ∧ a ≤ T.2.1 - 1) ∧ b = 0 := q
theorem sStep_9 {a b : Int} {T : zTb} (q : nC T.2.1 9 a b) : sStep 9 a b T = sSingle T := by rw [sStep, zif1 q]; rfl
theorem nC_9 {a b : Int} {T : zTb} (q : nC T.2.1 9 a b) : (0 ≤ a ∧ a ≤ 0) ∧ b = 0 := q
theorem sStep_10 {a b : Int} {T : zTb} (q : nC T.2.1 10 a b) : sStep 10 a b T = sCount a T := by rw [sStep, zif1 q]; rfl
theorem nC_10 {a b : Int} {T : zTb} (q : nC T.2.1 10 a b) : (0 ≤ a ∧ a ≤ T.2.1 - 1) ∧ b = 0 := q
theorem sStep_11 {a b : Int} {T : zTb} (q : nC T.2.1 11 a b) : sStep 11 a b T = sSum a b T := by rw [sStep, zif1 q]; rfl
theorem nC_11 {a b : Int} {T : zTb} (q : nC T.2.1 11 a b) : (0 ≤ a ∧ a ≤ T.2.1 - 1) ∧ (0 ≤ b ∧ b ≤ T.2.1 - 1) ∧ ¬ a = b := q
theorem sStep_12 {a b : Int} {T : zTb} (q : nC T.2.1 12 a b) : sStep 12 a b T = sKeep a T := by rw [sStep, zif1 q]; rfl
theorem nC_12 {a b : Int} {T : zTb} (q : nC T.2.1 12 a b) : (0 ≤ a ∧ a ≤ T.2.1 - 1) ∧ b = 0 := q
theorem sStep_13 {a b : Int} {T : zTb} (q : nC T.2.1 13 a b) : sStep 13 a b T = sHead T := by rw [sStep, zif1 q]; rfl
theorem nC_13 {a b : Int} {T : zTb} (q : nC T.2.1 13 a b) : (0 ≤ a ∧ a ≤ 0) ∧ b = 0 := q
theorem sStep_14 {a b : Int} {T : zTb} (q : nC T.2.1 14 a b) : sStep 14 a b T = sSwap a T := by rw [sStep, zif1 q]; rfl
theorem nC_14 {a b : Int} {T : zTb} (q : nC T.2.1 14 a b) : (0 ≤ a ∧ a ≤ T.2.1 - 2) ∧ b = 0 := q
theorem c_change (hd : 5 ≤ d) {i o n a b : Int} {T : zTb} (ap : apS G i o) (ki : isC h i T) (oT : okT T) (nT : noA T) (hn : z_in n) (ha : z_in a) (hb : z_in b) : z_CY D M_X3_change d [(2, 12), (2, i), (2, o), (0, n), (0, a), (0, b)] G h (pC G o h (sStep n a b T)) := by
  have sh := oT.1
  have e2 := ki.2.1
  refine z_begin mo_X3_change rfl (nle rfl) (b_X3_change_0 ap.1 (z_Ki.of (d2 := d - 1) (by omega) (a_X3_numbersCanBe (by omega) (h i 2) n a b ⟨by omega, by omega⟩ hn ha hb) fun o' G' h' _ hh => ⟨_, hh.1, ?_⟩))
  rw [hh.2.1, hh.2.2, e2]
  refine b_X3_change_12 (zb_in _) (fun _ _ _ _ _ _ _ _ _ _ _ _ _ _ _ => hn) (fun q c => ?_) (fun q _ c => ?_) (fun q _ _ c => ?_) (fun q _ _ _ c => ?_) (fun q _ _ _ _ c => ?_) (fun q _ _ _ _ _ c => ?_) (fun q _ _ _ _ _ _ c => ?_) (fun q _ _ _ _ _ _ _ c => ?_) (fun q _ _ _ _ _ _ _ _ c => ?_) (fun q _ _ _ _ _ _ _ _ _ c => ?_) (fun q _ _ _ _ _ _ _ _ _ _ c => ?_) (fun q _ _ _ _ _ _ _ _ _ _ _ c => ?_) (fun q _ _ _ _ _ _ _ _ _ _ _ _ c => ?_) (fun q _ _ _ _ _ _ _ _ _ _ _ _ _ c => ?_) (fun q d1 d2 d3 d4 d5 d6 d7 d8 d9 d10 d11 d12 d13 d14 => ?_) (fun q => ?_)
  · subst c
    have q := zb_ne q
    have w := nC_1 q
    refine z_Ki.of (d2 := d - 1) (by omega) (c_turn (by omega) ap ki oT ) fun out G' h' _ hh => ?_
    obtain ⟨x, ex, hx⟩ := pC01 hh
    exact ⟨x, ex, b_X3_change_93 hx (by rw [← ex, sStep_1 q]; exact hh)⟩
  · subst c
    have q := zb_ne q
    have w := nC_2 q
    refine z_Ki.of (d2 := d - 1) (by omega) (c_drop (by omega) ap ki oT (by omega) (by omega)) fun out G' h' _ hh => ?_
    obtain ⟨x, ex, hx⟩ := pC01 hh
    exact ⟨x, ex, b_X3_change_101 hx (by rw [← ex, sStep_2 q]; exact hh)⟩
  · subst c
    have q := zb_ne q
    have w := nC_3 q
    refine z_Ki.of (d2 := d - 1) (by omega) (c_split (by omega) ap ki oT nT hb (by omega) (by omega)) fun out G' h' _ hh => ?_
    obtain ⟨x, ex, hx⟩ := pC01 hh
    exact ⟨x, ex, b_X3_change_111 hx (by rw [← ex, sStep_3 q]; exact hh)⟩
  · subst c
    have q := zb_ne q
    have w := nC_4 q
    refine z_Ki.of (d2 := d - 1) (by omega) (c_fill (by omega) ap ki oT (by omega) (by omega)) fun out G' h' _ hh => ?_
    obtain ⟨x, ex, hx⟩ := pC01 hh
    exact ⟨x, ex, b_X3_change_119 hx (by rw [← ex, sStep_4 q]; exact hh)⟩
  · subst c
    have q := zb_ne q
    have w := nC_5 q
    refine z_Ki.of (d2 := d - 1) (by omega) (c_join (by omega) ap ki oT nT hb (by omega) (by omega)) fun out G' h' _ hh => ?_
    obtain ⟨x, ex, hx⟩ := pC01 hh
    exact ⟨x, ex, b_X3_change_129 hx (by rw [← ex, sStep_5 q]; exact hh)⟩
  · subst c
    have q := zb_ne q
    have w := nC_6 q
    refine z_Ki.of (d2 := d - 1) (by omega) (c_fold (by omega) ap ki oT (by omega) (by omega)) fun out G' h' _ hh => ?_
    obtain ⟨x, ex, hx⟩ := pC01 hh
    exact ⟨x, ex, b_X3_change_137 hx (by rw [← ex, sStep_6 q]; exact hh)⟩
  · subst c
    have q := zb_ne q
    have w := nC_7 q
    refine z_Ki.of (d2 := d - 1) (by omega) (c_unfold (by omega) ap ki oT ) fun out G' h' _ hh => ?_
    obtain ⟨x, ex, hx⟩ := pC01 hh
    exact ⟨x, ex, b_X3_change_144 hx (by rw [← ex, sStep_7 q]; exact hh)⟩
  · subst c
    have q := zb_ne q
    have w := nC_8 q
    refine z_Ki.of (d2 := d - 1) (by omega) (c_sort (by omega) ap ki oT nT (by omega) (by omega)) fun out G' h' _ hh => ?_
    obtain ⟨x, ex, hx⟩ := pC01 hh
    exact ⟨x, ex, b_X3_change_153 hx (by rw [← ex, sStep_8 q]; exact hh)⟩
  · subst c
    have q := zb_ne q
    have w := nC_9 q
    refine z_Ki.of (d2 := d - 1) (by omega) (c_single (by omega) ap ki oT ) fun out G' h' _ hh => ?_
    obtain ⟨x, ex, hx⟩ := pC01 hh
    exact ⟨x, ex, b_X3_change_160 hx (by rw [← ex, sStep_9 q]; exact hh)⟩
  · subst c
    have q := zb_ne q
    have w := nC_10 q
    refine z_Ki.of (d2 := d - 1) (by omega) (c_tally (by omega) ap ki oT (by omega) (by omega)) fun out G' h' _ hh => ?_
    obtain ⟨x, ex, hx⟩ := pC01 hh
    exact ⟨x, ex, b_X3_change_169 hx (by rw [← ex, sStep_10 q]; exact hh)⟩
  · subst c
    have q := zb_ne q
    have w := nC_11 q
    refine z_Ki.of (d2 := d - 1) (by omega) (c_sum (by omega) ap ki oT nT (by omega) (by omega) (by omega) (by omega)) fun out G' h' _ hh => ?_
    obtain ⟨x, ex, hx⟩ := pC01 hh
    exact ⟨x, ex, b_X3_change_180 hx (by rw [← ex, sStep_11 q]; exact hh)⟩
  · subst c
    have q := zb_ne q
    have w := nC_12 q
    refine z_Ki.of (d2 := d - 1) (by omega) (c_keep (by omega) ap ki oT (by omega) (by omega)) fun out G' h' _ hh => ?_
    obtain ⟨x, ex, hx⟩ := pC01 hh
    exact ⟨x, ex, b_X3_change_189 hx (by rw [← ex, sStep_12 q]; exact hh)⟩
  · subst c
    have q := zb_ne q
    have w := nC_13 q
    refine z_Ki.of (d2 := d - 1) (by omega) (c_head (by omega) ap ki oT ) fun out G' h' _ hh => ?_
    obtain ⟨x, ex, hx⟩ := pC01 hh
    exact ⟨x, ex, b_X3_change_195 hx (by rw [← ex, sStep_13 q]; exact hh)⟩
  · subst c
    have q := zb_ne q
    have w := nC_14 q
    refine z_Ki.of (d2 := d - 1) (by omega) (c_swap (by omega) ap ki oT (by omega) (by omega)) fun out G' h' _ hh => ?_
    obtain ⟨x, ex, hx⟩ := pC01 hh
    exact ⟨x, ex, b_X3_change_203 hx (by rw [← ex, sStep_14 q]; exact hh)⟩
  · have : sStep n a b T = none := by
      rw [sStep, zif1 (zb_ne q), if_neg d1, if_neg d2, if_neg d3, if_neg d4, if_neg d5, if_neg d6, if_neg d7, if_neg d8, if_neg d9, if_neg d10, if_neg d11, if_neg d12, if_neg d13, if_neg d14]
    rw [this]
    exact ⟨rfl, frS.rf, rfl⟩
  · rw [sStep, zif0 (zb_eq (Classical.not_not.mp q))]
    exact ⟨rfl, frS.rf, rfl⟩
/-- no ANY, as the class counts it -/
theorem anys_0 {i : Int} {T : zTb} (ki : isC h i T) (oT : okT T) : zct (fun j => h (i + 1) j = -1) (h i 1 * h i 2).toNat = 0 ↔ noA T := by
  have sh := oT.1
  have rc := rc_le sh.1 sh.2.1 sh.2.2.1 sh.2.2.2
  have e1 := ki.1; have e2 := ki.2.1
  rw [e1, e2]
  refine ⟨fun z r c b1 b2 b3 b4 => ?_, fun z => ?_⟩
  · have o1 := oT.2 r c b1 b2 b3 b4
    have ix := ix_lt b1 b2 b3 b4
    by_cases e : T.2.2 r c = -1
    · have := zct_lt (p := fun j => h (i + 1) j = -1) ix.1 ix.2 (by rw [ki.2.2 r c b1 b2 b3 b4]; exact e)
      have := (zct_r (p := fun j => h (i + 1) j = -1) ix.1).1
      omega
    · omega
  · by_cases c : zct (fun j => h (i + 1) j = -1) (T.1 * T.2.1).toNat = 0
    · exact c
    · have rg := zct_r (p := fun j => h (i + 1) j = -1) (show 0 ≤ T.1 * T.2.1 by omega)
      obtain ⟨q, q0, q1, qp, -⟩ := zct_sr (p := fun j => h (i + 1) j = -1) (g := 0) (show 0 ≤ T.1 * T.2.1 by omega) (by omega) (by omega)
      obtain ⟨r, c, a1, a2, a3, a4, rfl⟩ := ix_of (by omega) q0 q1
      have qp : h (i + 1) (r * T.2.1 + c) = -1 := qp
      rw [ki.2.2 r c a1 a2 a3 a4] at qp
      have := z r c a1 a2 a3 a4
      omega
noncomputable def sMake (n a b : Int) (T : zTb) : Option zTb := zif (noA T) (sStep n a b T) none
theorem c_make (hd : 6 ≤ d) {i o n a b : Int} {T : zTb} (ap : apS G i o) (ki : isC h i T) (oT : okT T) (hn : z_in n) (ha : z_in a) (hb : z_in b) : z_CY D M_X3_make d [(2, 12), (2, i), (2, o), (0, n), (0, a), (0, b)] G h (pC G o h (sMake n a b T)) := by
  have sh := oT.1
  have rc := rc_le sh.1 sh.2.1 sh.2.2.1 sh.2.2.2
  have e1 := ki.1; have e2 := ki.2.1
  have an := anys_0 ki oT
  have rg := zct_rg (fun j => h (i + 1) j = -1) (h i 1 * h i 2).toNat
  rw [e1, e2] at rg
  refine z_begin mo_X3_make rfl (nle rfl) (b_X3_make_0 (by omega) ap.1 (isC_okS ki oT) (isC_okC ki oT) (by rw [e1, e2]; exact ⟨by omega, by omega⟩) (fun c => ?_) (fun c => ?_))
  · rw [sMake, zif0 (fun w => c (an.2 w))]
    exact ⟨rfl, frS.rf, rfl⟩
  · have nT := an.1 (Classical.not_not.mp c)
    rw [sMake, zif1 nT]
    refine z_Ki.of (d2 := d - 1) (by omega) (c_change (by omega) ap ki oT nT hn ha hb) fun out G' h' _ hh => ?_
    obtain ⟨x, ex, hx⟩ := pC01 hh
    refine ⟨x, ex, b_X3_make_18 ⟨by omega, by omega⟩ (fun c => ?_) (fun c => ?_)⟩
    · rw [← c, ← ex]; exact hh
    · rw [show (1 : Int) = x by omega, ← ex]; exact hh
end Chg2
