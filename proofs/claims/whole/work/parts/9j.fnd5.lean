section Fnd5
variable {D : zD} {d : Nat} {G : zG} {h h0 h1 : zH} {two : Prop} {W V : zTb}
/-- find, with numbers that are in range -/
theorem m_find (hd : 16 ≤ d) {t w u v most : Int} {P : zSt} (ht : 0 ≤ t ∧ t ≤ 7) (hw : 0 ≤ w ∧ w ≤ 7) (tw : (two ∧ (0 ≤ u ∧ u ≤ 7) ∧ (0 ≤ v ∧ v ≤ 7) ∧ isM h u P.2 ∧ isM h v V) ∨ (¬ two ∧ u = -1 ∧ v = -1 ∧ V = P.2)) (hm : 0 ≤ most ∧ most ≤ 3) (kt : isM h t P.1) (kw : isM h w W) (oP : okP P) (oW : okT W) (oV : okT V) :
    z_CY D M_X13_find d [(2, 88), (0, t), (0, w), (0, u), (0, v), (0, most)] G h (feQ two W V (bF two (eW W V) most.toNat 0 0 (1, fun _ => P)) G h) := by
  have uv : (u = -1 ↔ v = -1) ∧ (-1 ≤ u ∧ u ≤ 7) ∧ (-1 ≤ v ∧ v ≤ 7) ∧ (two ↔ ¬ u = -1) := by
    rcases tw with ⟨q1, q2, q3, -⟩ | ⟨q1, q2, q3, -⟩
    · refine ⟨by omega, by omega, by omega, ⟨fun _ => by omega, fun _ => q1⟩⟩
    · refine ⟨by omega, by omega, by omega, ⟨fun z => absurd z q1, fun z => absurd q2 z⟩⟩
  obtain ⟨uv1, uv2, uv3, uv4⟩ := uv
  -- from the marks on
  have at111 : ∀ x : Int, x = z_b two → z_Y D M_X13_find d 111 [(0, 2, 88), (1, 0, t), (2, 0, w), (3, 0, u), (4, 0, v), (5, 0, most)] [(0, x), (2, 88)] G (z_wr (z_wr (z_wr (z_wr h 88 29 0) 88 30 0) 88 31 0) 88 41 0) (feQ two W V (bF two (eW W V) most.toNat 0 0 (1, fun _ => P)) G h) := by
    intro x ex
    have zb := z_b01 two
    refine b_X13_find_111 (by omega) ?_
    obtain ⟨H, eH⟩ : ∃ H, H = z_wr (z_wr (z_wr (z_wr (z_wr (z_wr (z_wr h 88 29 0) 88 30 0) 88 31 0) 88 41 0) 88 32 x) 88 33 w) 88 34 v := ⟨_, rfl⟩
    rw [← eH]
    have oH : ∀ b j : Int, ¬ b = 88 → H b j = h b j := fun b j q => by rw [eH, w_na q, w_na q, w_na q, w_na q, w_na q, w_na q, w_na q]
    have oH8 : ∀ j : Int, j < 29 → H 88 j = h 88 j := fun j q => by rw [eH, w_nj (by omega), w_nj (by omega), w_nj (by omega), w_nj (by omega), w_nj (by omega), w_nj (by omega), w_nj (by omega)]
    have H29 : H 88 29 = 0 := by rw [eH, w_nj (by omega), w_nj (by omega), w_nj (by omega), w_nj (by omega), w_nj (by omega), w_nj (by omega), w_s]
    have H30 : H 88 30 = 0 := by rw [eH, w_nj (by omega), w_nj (by omega), w_nj (by omega), w_nj (by omega), w_nj (by omega), w_s]
    have H31 : H 88 31 = 0 := by rw [eH, w_nj (by omega), w_nj (by omega), w_nj (by omega), w_nj (by omega), w_s]
    have H41 : H 88 41 = 0 := by rw [eH, w_nj (by omega), w_nj (by omega), w_nj (by omega), w_s]
    have H32 : H 88 32 = z_b two := by rw [eH, w_nj (by omega), w_nj (by omega), w_s, ex]
    have H33 : H 88 33 = w := by rw [eH, w_nj (by omega), w_s]
    have H34 : H 88 34 = v := by rw [eH, w_s]
    refine l_fnd128 (h0 := H) (fun g f e104 => ?_) 4096 0 H (by omega) (by omega) (fun _ _ _ => rfl) (fun i a b => by omega)
    have gM : ∀ {k : Int} {T : zTb}, isM h k T → isM g k T := fun q => ⟨by rw [f 89 _ (by omega), oH 89 _ (by omega)]; exact q.1, by rw [f 90 _ (by omega), oH 90 _ (by omega)]; exact q.2.1, fun r c x1 x2 x3 x4 => by rw [f 91 _ (by omega), oH 91 _ (by omega)]; exact q.2.2 r c x1 x2 x3 x4⟩
    have fF : frB mFd h g := fun a j q => by
      unfold mFd at q
      by_cases z : a = 88
      · subst z; rw [f 88 j (by omega), oH8 j (by omega)]
      · rw [f a j (by omega), oH a j z]
    -- behind the tables
    have fin : ∀ g' : zH, frB mW g g' → isM g' 8 P.1 → (two → isM g' 9 P.2) → z_Y D M_X13_find d 173 [(0, 2, 88), (5, 0, most)] [] G g' (feQ two W V (bF two (eW W V) most.toNat 0 0 (1, fun _ => P)) G h) := by
      intro g' fg m8 m9
      have e32 : g' 88 32 = z_b two := by rw [fg 88 32 (by unfold mW; omega), f 88 32 (by omega)]; exact H32
      obtain ⟨t1, t2⟩ := tw_z e32
      have kp : ∀ {k : Int} {T : zTb}, k < 8 → isM h k T → isM g' k T := fun k8 q => isM_B (gM q) fg (by unfold mW; omega) (by unfold mW; omega) (fun j _ _ => by unfold mW; omega)
      have go : z_Y D M_X13_find d 192 [(0, 2, 88), (5, 0, most)] [] G g' (feQ two W V (bF two (eW W V) most.toNat 0 0 (1, fun _ => P)) G h) := by
        refine (l_fnd192 (wi := w) (vi := v) (by omega) oP oW oV hm.1 hm.2 ⟨m8, m9, e32⟩ ⟨by omega, by rw [fg 88 33 (by unfold mW; omega), f 88 33 (by omega)]; exact H33, kp (by omega) kw⟩ (fun z => ?_) (fun z => ?_) (by rw [fg 88 29 (by unfold mW; omega), f 88 29 (by omega)]; exact H29) (by rw [fg 88 30 (by unfold mW; omega), f 88 30 (by omega)]; exact H30) (by rw [fg 88 31 (by unfold mW; omega), f 88 31 (by omega)]; exact H31) (by rw [fg 88 41 (by unfold mW; omega), f 88 41 (by omega)]; exact H41) (fun i a b => by rw [fg 104 i (by unfold mW; omega)]; exact e104 i a b)).mono fun out G' h' _ q => ⟨q.1, q.2.1, fF.tr ((fg.imp fun _ _ q => Or.inl q).tr q.2.2.1), q.2.2.2⟩
        · rcases tw with ⟨-, q2, q3, q4, q5⟩ | ⟨q1, -⟩
          · exact ⟨by omega, by rw [fg 88 34 (by unfold mW; omega), f 88 34 (by omega)]; exact H34, kp (by omega) q5⟩
          · exact absurd z q1
        · rcases tw with ⟨q1, -⟩ | ⟨-, -, -, q⟩
          · exact absurd q1 z
          · exact q
      refine b_X13_find_173 (z_Kv.of (d2 := d - 1) (by omega) (a_clean (by omega) (by omega) (by omega) m8 oP.1) ?_)
      rintro out G' h' hl' ⟨rfl, rfl, rfl⟩
      refine ⟨rfl, b_X13_find_179 t2 (fun _ => go) (fun c => ?_)⟩
      have z : two := Classical.byContradiction fun q => c (t1.2 q)
      refine z_Kv.of (d2 := d - 1) (by omega) (a_clean (by omega) (by omega) (by omega) (m9 z) oP.2) ?_
      rintro out G' h'' hl' ⟨rfl, rfl, rfl⟩
      exact ⟨rfl, go⟩
    refine z_Kv.of (d2 := d - 1) (by omega) (m_become (by omega) (by omega) (by omega) (by omega) (gM kt)) ?_
    rintro out G' g1 hl1 ⟨r1, rfl, f1, m8⟩
    have F1 : frB mW g g1 := f1.imp fun x j q => mT_W (by omega) q
    have e32 : g1 88 32 = z_b two := by rw [F1 88 32 (by unfold mW; omega), f 88 32 (by omega)]; exact H32
    obtain ⟨t1, t2⟩ := tw_z e32
    refine ⟨r1, b_X13_find_159 t2 (fun c => fin g1 F1 m8 fun z => absurd z (t1.1 c)) (fun c => ?_)⟩
    have z : two := Classical.byContradiction fun q => c (t1.2 q)
    rcases tw with ⟨-, q2, q3, q4, q5⟩ | ⟨q1, -⟩
    · have mu : isM g1 u P.2 := isM_B (gM q4) f1 (by unfold mT; omega) (by unfold mT; omega) (fun j _ _ => by unfold mT; omega)
      refine z_Kv.of (d2 := d - 1) (by omega) (m_become (by omega) (by omega) (by omega) (by omega) mu) ?_
      rintro out G' g2 hl2 ⟨r2, rfl, f2, m9⟩
      refine ⟨r2, fin g2 (F1.tr (f2.imp fun x j q => mT_W (by omega) q)) (isM_B m8 f2 (by unfold mT; omega) (by unfold mT; omega) (fun j _ _ => by unfold mT; omega)) fun _ => m9⟩
    · exact absurd z q1
  have at61 : ∀ x : Int, x = 0 ∨ x = 1 → z_Y D M_X13_find d 61 [(0, 2, 88), (1, 0, t), (2, 0, w), (3, 0, u), (4, 0, v), (5, 0, most)] [(0, x), (0, x)] G h (feQ two W V (bF two (eW W V) most.toNat 0 0 (1, fun _ => P)) G h) := by
    intro x hx
    refine b_X13_find_61 (by omega) ⟨by omega, by omega⟩ ⟨by omega, by omega⟩ (fun _ => ⟨by omega, by omega⟩) (fun _ => ⟨by omega, by omega⟩) (fun _ _ => ⟨by omega, by omega⟩) (fun c => absurd rfl c) (fun _ _ c => at111 0 ?_) (fun _ _ c => at111 1 ?_) (fun _ c => absurd hm c)
    · rw [z_b0 fun z => uv4.1 z c]
    · rw [z_b1 (uv4.2 c)]
  have at40 : z_Y D M_X13_find d 40 [(0, 2, 88), (1, 0, t), (2, 0, w), (3, 0, u), (4, 0, v), (5, 0, most)] [] G h (feQ two W V (bF two (eW W V) most.toNat 0 0 (1, fun _ => P)) G h) := by
    refine b_X13_find_40 ⟨by omega, by omega⟩ (fun c => ?_) (fun c => ?_)
    · exact b_X13_find_50 ⟨by omega, by omega⟩ (fun _ => at61 0 (by omega)) (fun c2 => by omega)
    · exact b_X13_find_50 ⟨by omega, by omega⟩ (fun c2 => by omega) (fun _ => at61 1 (by omega))
  have at26 : z_Y D M_X13_find d 26 [(0, 2, 88), (1, 0, t), (2, 0, w), (3, 0, u), (4, 0, v), (5, 0, most)] [] G h (feQ two W V (bF two (eW W V) most.toNat 0 0 (1, fun _ => P)) G h) :=
    b_X13_find_26 (by omega) ⟨by omega, by omega⟩ (fun _ => at40) (fun _ _ => at40) (fun c c2 => by omega)
  exact z_begin mo_X13_find rfl (nle rfl) (b_X13_find_0 (by omega) ⟨by omega, by omega⟩ (fun _ => ⟨by omega, by omega⟩) (fun _ _ => ⟨by omega, by omega⟩) (fun _ _ _ => at26) (fun _ _ _ _ => at26) (fun _ _ c c2 => by omega) (fun _ c => absurd hw c) (fun c => absurd ht c))
end Fnd5
