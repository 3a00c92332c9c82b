section Stp18
variable {D : zD} {d : Nat} {G : zG} {h h0 : zH} {Q : zO → zG → zH → Prop}
theorem c_unfold (hd : 3 ≤ d) {i o : Int} {T : zTb} (ap : apS G i o) (ki : isC h i T) (oT : okT T) : z_CY D M_X3_unfold d [(2, 12), (2, i), (2, o)] G h (pC G o h (sUnfold T)) := by
  intro hl
  have sh := oT.1
  have e1 := ki.1
  have e2 := ki.2.1
  have n18 := ap.n18
  have n13 := ap.n18 13 (by omega)
  have n14 := ap.n18 14 (by omega)
  have n15 := ap.n18 15 (by omega)
  have n16 := ap.n18 16 (by omega)
  refine z_begin mo_X3_unfold rfl (nle rfl) (b_X3_unfold_0 ap.1 ⟨by omega, by omega⟩ (fun c => ?_) (fun c => ?_)) hl
  · rw [e2] at c ⊢
    obtain ⟨A, eA⟩ : ∃ A, A = T.2.1 - 2 := ⟨_, rfl⟩
    rw [← eA] at c ⊢
    refine z_Ki.of (d2 := d - 1) (by omega) (c_group (by omega) ap.1 (hl.i 13 (by decide) rfl) (hl.n 13 (by decide) rfl) (hl.i 14 (by decide) rfl) (hl.n 14 (by decide) rfl) (by omega) ⟨by omega, by omega, by omega, by omega⟩ ki oT (by omega) (by omega) (by omega)) ?_
    rintro out G' h1 hl1 ⟨r1, rfl, pg⟩
    have f1 : frS o h h1 := fun a j a1 a2 a3 => pg.1 a j (by omega) (by omega)
    have k1 := isC_fr ap ki f1
    refine ⟨_, r1, b_X3_unfold_28 (z_Ki.of (d2 := d - 1) (by omega) (c_group (by omega) ap.1 (hl.i 15 (by decide) rfl) (hl.n 15 (by decide) rfl) (hl.i 16 (by decide) rfl) (hl.n 16 (by decide) rfl) (by omega) ⟨by omega, by omega, by omega, by omega⟩ k1 oT (by omega) (by omega) (by omega)) ?_)⟩
    rintro out G' h2 hl2 ⟨r2, rfl, pg2⟩
    have f2 : frS o h h2 := f1.tr fun a j a1 a2 a3 => pg2.1 a j (by omega) (by omega)
    have k2 := isC_fr ap ki f2
    have us : uS T A h2 := ⟨fun q q0 q1 => ⟨by rw [pg2.1 13 q (by omega) (by omega)]; exact pg.2.1 q q0 q1, pg2.2.1 q q0 q1⟩, fun q q0 q1 qF => by rw [pg2.1 14 _ (by omega) (by omega)]; exact pg.2.2 q q0 q1 qF, pg2.2.2⟩
    have rg := zct_r (p := zF T 0 A) (show 0 ≤ T.1 by omega)
    have rg2 := zct_r (p := zF T A (A + 1)) (show 0 ≤ T.1 by omega)
    have z1 : ∀ q : Int, 0 ≤ q → q < T.1 → z_in (h2 13 q) := fun q q0 q1 => by
      have := zgi12 (f := 0) (t := A) oT q0 q1
      rw [(us.1 q q0 q1).1]; exact ⟨by omega, by omega⟩
    have z2 : ∀ q : Int, 0 ≤ q → q < T.1 → z_in (h2 15 q) := fun q q0 q1 => by
      have := zgi12 (f := A) (t := A + 1) oT q0 q1
      rw [(us.1 q q0 q1).2]; exact ⟨by omega, by omega⟩
    have ezu : (∃ s q : Int, 0 ≤ q ∧ q < s ∧ s < T.1 ∧ h2 13 s = h2 13 q ∧ h2 15 s = h2 15 q) ↔ zuT T := by
      unfold zuT
      rw [← eA]
      refine ⟨fun ⟨s, q, a1, a2, a3, a4, a5⟩ => ⟨s, q, a1, a2, a3, ?_, ?_⟩, fun ⟨s, q, a1, a2, a3, a4, a5⟩ => ⟨s, q, a1, a2, a3, ?_, ?_⟩⟩
      · rwa [(us.1 s (by omega) a3).1, (us.1 q a1 (by omega)).1] at a4
      · rwa [(us.1 s (by omega) a3).2, (us.1 q a1 (by omega)).2] at a5
      · rwa [(us.1 s (by omega) a3).1, (us.1 q a1 (by omega)).1]
      · rwa [(us.1 s (by omega) a3).2, (us.1 q a1 (by omega)).2]
    refine ⟨_, r2, b_X3_unfold_46 ap.1 (z_Ki.of (d2 := d - 1) (by omega) (by rw [k2.1]; exact a_twice ⟨by omega, by omega⟩ z1 z2) ?_)⟩
    rintro out G' h3 hl3 ⟨r3, rfl, rfl⟩
    refine ⟨_, r3, ?_⟩
    have b01 := z_b01 (∃ s q : Int, 0 ≤ q ∧ q < s ∧ s < T.1 ∧ h3 13 s = h3 13 q ∧ h3 15 s = h3 15 q)
    refine b_X3_unfold_56 (by omega) ⟨by omega, by omega⟩ (fun _ => ap.2.1) (fun _ => ⟨by omega, by omega⟩) (fun _ => ⟨by omega, by omega⟩) (fun c1 => ?_) (fun c1 c2 => ?_) (fun c1 c2 => ?_)
    · have w : zuT T := ezu.1 (Classical.byContradiction fun w => c1 (z_b0 w))
      unfold sUnfold
      rw [zif0 (fun q => q.2.1 w)]
      exact ⟨rfl, f2, rfl⟩
    · have nt : ¬ zuT T := fun w => c1 (by rw [z_b1 (ezu.2 w)]; omega)
      have oU : shT (sUnfU T) := by
        refine ⟨?_, ?_, ?_, ?_⟩
        · show 1 ≤ 1 + zct (zF T 0 (T.2.1 - 2)) T.1.toNat; rw [← eA]; omega
        · show 1 + zct (zF T 0 (T.2.1 - 2)) T.1.toNat ≤ 12; rw [← eA]; omega
        · show 1 ≤ T.2.1 - 2 + zct (zF T (T.2.1 - 2) (T.2.1 - 2 + 1)) T.1.toNat; rw [← eA]; omega
        · show T.2.1 - 2 + zct (zF T (T.2.1 - 2) (T.2.1 - 2 + 1)) T.1.toNat ≤ 6; rw [← eA]; omega
      have eR : 1 + zct (zF T 0 A) T.1.toNat = (sUnfU T).1 := by rw [eA]; rfl
      have eC : A + zct (zF T A (A + 1)) T.1.toNat = (sUnfU T).2.1 := by rw [eA]; rfl
      unfold sUnfold
      rw [zif1 (by rw [← eA]; exact ⟨by omega, nt, by omega, by omega⟩), eR, eC]
      refine z_Kv.of (d2 := d - 1) (by omega) (a_J7_filll (o + 1) 0 72 (hl.ti ap.2.1) (hl.tn ap.2.1) (by omega) (by omega)) ?_
      rintro out G' h4 hl4 ⟨r4, rfl, rfl⟩
      have ff := frS_new (h := h3) (o := o) (T := sUnfU T)
      have n0 : ¬ o = o + 1 := by omega
      refine ⟨r4, b_X3_unfold_84 (l_unf87 hd ap ki oT eA (by omega) rfl oU nt rfl rfl (zct (zF T A (A + 1)) T.1.toNat).toNat 0 _ (by omega) (by omega) (f2.tr fun a j a1 a2 a3 => by rw [zfi_na a2]; exact ff a j a1 a2 a3) (uS_k us fun a j ha => by rw [zfi_na (n18 a (by omega)).2.2.2, w_na (n18 a (by omega)).2.2.1, w_na (n18 a (by omega)).2.2.1]) ?_)⟩
      have nw := isP_new (h := h3) (o := o) (T := sUnfU T)
      refine ⟨by rw [zfi_na n0]; exact nw.1, by rw [zfi_na n0]; exact nw.2.1, fun r c b1 b2 b3 b4 p => ?_⟩
      have rc := rc_le oU.1 oU.2.1 oU.2.2.1 oU.2.2.2
      have ix := ix_lt b1 b2 b3 b4
      rw [zfi_in ix.1 (by omega)]
      rcases p with (p | p) | p
      · show 0 = (sUnfU T).2.2 r c
        unfold sUnfU
        dsimp only
        rw [← eA, if_pos p.1, if_pos p.2]
      · show 0 = (sUnfU T).2.2 r c
        unfold sUnfU
        dsimp only
        rw [← eA, if_neg (by omega), if_neg (by omega), zif0 p.2.2]
      · omega
    · unfold sUnfold
      rw [zif0 (fun q => by rw [← eA] at q; exact c2 ⟨⟨by omega, q.2.2.1⟩, by omega, q.2.2.2⟩)]
      exact ⟨rfl, f2, rfl⟩
  · unfold sUnfold
    rw [zif0 (fun q => by omega)]
    exact ⟨rfl, frS.rf, rfl⟩
end Stp18
