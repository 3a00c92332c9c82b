noncomputable def sRows (n : Int) (g : Int → Int) (T : zTb) : zTb := (n, T.2.1, fun r c => T.2.2 (g r) c)
noncomputable def sKeep (a : Int) (T : zTb) : Option zTb := zif (1 ≤ zct (fun r => ¬ T.2.2 r a = 0) T.1.toNat ∧ zct (fun r => ¬ T.2.2 r a = 0) T.1.toNat < T.1) (some (sRows (zct (fun r => ¬ T.2.2 r a = 0) T.1.toNat) (zse (fun r => ¬ T.2.2 r a = 0) T.1.toNat) T)) none
noncomputable def sSingle (T : zTb) : Option zTb := zif (zct (zF T 0 T.2.1) T.1.toNat < T.1) (some (sRows (zct (zF T 0 T.2.1) T.1.toNat) (zse (zF T 0 T.2.1) T.1.toNat) T)) none
section Stp10
variable {D : zD} {d : Nat} {G : zG} {h h0 h1 : zH} {Q : zO → zG → zH → Prop}
theorem pC_tr {o : Int} {res : Option zTb} {out : zO} {G' : zG} {h' : zH} (f : frS o h0 h1) (k : pC G o h1 res out G' h') : pC G o h0 res out G' h' := ⟨k.1, f.tr k.2.1, k.2.2⟩
theorem apS.n18 {i o : Int} (ap : apS G i o) (a : Int) (ha : 13 ≤ a ∧ a ≤ 18) : ¬ a = i ∧ ¬ a = i + 1 ∧ ¬ a = o ∧ ¬ a = o + 1 := by
  obtain ⟨-, -, -, -, -, q1, q2, q3, q4⟩ := ap
  omega
/-- a chosen row's number -/
theorem sel_of {a : Int} {p : Int → Prop} {R : Int} (hR : 0 ≤ R) (k : ∀ q : Int, 0 ≤ q → q < R → p q → h a (zct p q.toNat) = q) {x : Int} (x0 : 0 ≤ x) (x1 : x < zct p R.toNat) : h a x = zse p R.toNat x ∧ 0 ≤ zse p R.toNat x ∧ zse p R.toNat x < R := by
  obtain ⟨q, q0, q1, qp, qe⟩ := zct_sr hR x0 x1
  have e1 := k q q0 q1 qp
  have e2 := zse_q q0 q1 qp
  rw [qe] at e1 e2
  exact ⟨e1.trans e2.symm, by omega, by omega⟩
/-! keep -/
theorem l_keep6 (hd : 3 ≤ d) {i o a : Int} {T : zTb} (ap : apS G i o) (ki : isC h0 i T) (oT : okT T) (ha : 0 ≤ a) (ha' : a < T.2.1) {p : Int → Prop} (ep : p = fun r => ¬ T.2.2 r a = 0) : ∀ (m : Nat) (x5 : Int) (h : zH), x5 = T.1 - m → 0 ≤ x5 → frS o h0 h → (∀ q : Int, 0 ≤ q → q < x5 → p q → h 18 (zct p q.toNat) = q) →
    z_Y D M_X3_keep d 6 [(0, 2, 12), (1, 2, i), (2, 2, o), (3, 0, a), (4, 0, zct p x5.toNat), (5, 0, x5)] [] G h (pC G o h0 (sKeep a T)) := by
  have sh := oT.1
  intro m
  induction m with
  | zero =>
    intro x5 h e h5 f k
    have k' := isC_fr ap ki f
    have e1 := k'.1; have e2 := k'.2.1
    have e5 : x5 = T.1 := by omega
    have rg := zct_r (p := p) h5
    refine b_X3_keep_6 (by omega) ap.1 ⟨by omega, by omega⟩ ⟨by omega, by omega⟩ (fun _ => ⟨by omega, by omega⟩) (fun _ _ => ap.2.1) (fun _ _ => ⟨by omega, by omega⟩) (fun c => by omega) (fun c => by omega) (fun c => by omega) (fun c => by omega) (fun c => by omega) (fun c c2 => ?_) (fun c c2 c3 => ?_) (fun c c2 c3 => ?_) (fun c => by omega) (fun c => by omega)
    · unfold sKeep
      rw [← ep, zif0 (fun w => by rw [e5] at c2; omega)]
      exact ⟨rfl, f, rfl⟩
    · unfold sKeep
      rw [← ep, zif1 (by rw [e5] at c2 c3 rg; omega)]
      rw [e2]
      rw [e5] at k c2 c3 rg ⊢
      have n18 := ap.n18 18 (by omega)
      have ff := frS_new (h := h) (o := o) (T := sRows (zct p T.1.toNat) (zse p T.1.toNat) T)
      refine (l_keep72 (n := zct p T.1.toNat) (g := zse p T.1.toNat) (U := sRows (zct p T.1.toNat) (zse p T.1.toNat) T) hd ap (isC_fr ap k' ff) oT rfl rfl (fun _ _ => rfl) ⟨by dsimp only [sRows]; omega, by dsimp only [sRows]; omega, by dsimp only [sRows]; omega, by dsimp only [sRows]; omega⟩ (by omega) (fun x x0 x1 => ?_) (zct p T.1.toNat).toNat 0 _ (by omega) (by omega) frS.rf (fun _ => rfl) (isP_new.imp fun r c b1 b2 b3 b4 p => by omega)).mono fun out G' h' _ hh => pC_tr (f.tr ff) hh
      rw [w_na n18.2.2.1, w_na n18.2.2.1]
      exact sel_of (by omega) k x0 x1
    · unfold sKeep
      rw [← ep, zif0 (fun w => by rw [e5] at c3 rg; omega)]
      exact ⟨rfl, f, rfl⟩
  | succ m ih =>
    intro x5 h e h5 f k
    have k' := isC_fr ap ki f
    have e1 := k'.1; have e2 := k'.2.1
    have j1 := isC_ix k' oT (r := x5) (c := a) (by omega) (by omega) (by omega) (by omega)
    have ss := zct_s (p := p) h5
    have rg := zct_r (p := p) h5
    have px : p x5 ↔ ¬ T.2.2 x5 a = 0 := by rw [ep]
    refine b_X3_keep_6 (by omega) ap.1 ⟨by omega, by omega⟩ ⟨by omega, by omega⟩ (fun c => by omega) (fun c => by omega) (fun c => by omega) (fun _ => j1.1) (fun _ => j1.2.1) (fun _ => j1.2.2.2) (fun _ _ => by omega) (fun _ _ => by omega) (fun c => by omega) (fun c => by omega) (fun c => by omega) (fun c c2 => ?_) (fun c c2 => ?_)
    · rw [j1.2.2.1] at c2
      have np : ¬ p x5 := fun w => px.1 w c2
      rw [z_b0 np] at ss
      rw [show zct p x5.toNat = zct p (x5 + 1).toNat by omega]
      refine ih (x5 + 1) h (by omega) (by omega) f fun q q0 q1 pq => k q q0 ?_ pq
      have : ¬ q = x5 := fun w => np (by rw [← w]; exact pq)
      omega
    · rw [j1.2.2.1] at c2
      have pp : p x5 := px.2 c2
      rw [z_b1 pp] at ss
      rw [← ss]
      refine ih (x5 + 1) _ (by omega) (by omega) (f.w (Or.inr (Or.inr (by omega)))) fun q q0 q1 pq => ?_
      by_cases w : q = x5
      · subst w
        rw [w_s]
      · have := zct_lt q0 (show q < x5 by omega) pq
        rw [w_nj (by omega)]
        exact k q q0 (by omega) pq
theorem c_keep (hd : 3 ≤ d) {i o a : Int} {T : zTb} (ap : apS G i o) (ki : isC h i T) (oT : okT T) (ha : 0 ≤ a) (ha' : a < T.2.1) : z_CY D M_X3_keep d [(2, 12), (2, i), (2, o), (0, a)] G h (pC G o h (sKeep a T)) := by
  have sh := oT.1
  exact z_begin mo_X3_keep rfl (nle rfl) (b_X3_keep_0 (l_keep6 hd ap ki oT ha ha' rfl T.1.toNat 0 h (by omega) (by omega) frS.rf (fun q q0 q1 => by omega)))
/-! single -/
theorem c_single (hd : 3 ≤ d) {i o : Int} {T : zTb} (ap : apS G i o) (ki : isC h i T) (oT : okT T) : z_CY D M_X3_single d [(2, 12), (2, i), (2, o)] G h (pC G o h (sSingle T)) := by
  intro hl
  have sh := oT.1
  have e2 := ki.2.1
  have n13 := ap.n18 13 (by omega)
  have n14 := ap.n18 14 (by omega)
  refine z_begin mo_X3_single rfl (nle rfl) (b_X3_single_0 ap.1 (z_Ki.of (d2 := d - 1) (by omega) (by rw [e2]; exact c_group (by omega) ap.1 (hl.i 13 (by decide) rfl) (hl.n 13 (by decide) rfl) (hl.i 14 (by decide) rfl) (hl.n 14 (by decide) rfl) (by omega) ⟨by omega, by omega, by omega, by omega⟩ ki oT (by omega) (by omega) (by omega)) ?_)) hl
  rintro out G' h1 hl1 ⟨r1, rfl, pg⟩
  refine ⟨_, r1, ?_⟩
  generalize ep : zF T 0 T.2.1 = p at *
  have f1 : frS o h h1 := fun a j a1 a2 a3 => pg.1 a j (by omega) (by omega)
  have k' := isC_fr ap ki f1
  have e1' := k'.1; have e2' := k'.2.1
  have rg := zct_r (p := p) (show 0 ≤ T.1 by omega)
  have one : 1 ≤ zct p T.1.toNat := by
    have p0 : p 0 := by rw [← ep]; intro q q0 q1; omega
    have := zct_lt (p := p) (a := 0) (b := T.1) (by omega) (by omega) p0
    have e0 : zct p (0 : Int).toNat = 0 := rfl
    omega
  refine b_X3_single_17 (by omega) ap.1 ⟨by omega, by omega⟩ ⟨by omega, by omega⟩ (fun _ => ap.2.1) (fun _ => ⟨by omega, by omega⟩) (fun c => ?_) (fun c c3 => ?_) (fun c c3 => by omega)
  · unfold sSingle
    rw [ep, zif0 (fun w => by omega)]
    exact ⟨rfl, f1, rfl⟩
  · unfold sSingle
    rw [ep, zif1 (by omega), e2']
    have ff := frS_new (h := h1) (o := o) (T := sRows (zct p T.1.toNat) (zse p T.1.toNat) T)
    refine (l_single43 (n := zct p T.1.toNat) (g := zse p T.1.toNat) (U := sRows (zct p T.1.toNat) (zse p T.1.toNat) T) hd ap (isC_fr ap k' ff) oT rfl rfl (fun _ _ => rfl) ⟨by dsimp only [sRows]; omega, by dsimp only [sRows]; omega, by dsimp only [sRows]; omega, by dsimp only [sRows]; omega⟩ (by omega) (fun x x0 x1 => ?_) (zct p T.1.toNat).toNat 0 _ (by omega) (by omega) frS.rf (fun _ => rfl) (isP_new.imp fun r c b1 b2 b3 b4 p => by omega)).mono fun out G' h' _ hh => pC_tr (f1.tr ff) hh
    rw [w_na n14.2.2.1, w_na n14.2.2.1]
    have pg3 := pg.2.2
    rw [ep] at pg3
    exact sel_of (by omega) pg3 x0 x1
end Stp10
