theorem zvl_rg : ∀ (k : Nat) (v acc m : Int), (∀ i : Nat, i < k → 48 ≤ v / 256 ^ i % 256 ∧ v / 256 ^ i % 256 ≤ 57) → 0 ≤ acc → acc < m → 0 ≤ zvl k v acc ∧ zvl k v acc < m * 10 ^ k
  | 0, v, acc, m, _, h0, h1 => by simp only [zvl, Int.pow_zero, Int.mul_one]; exact ⟨h0, h1⟩
  | k + 1, v, acc, m, hd, h0, h1 => by
    have d := hd k (by omega)
    have := zvl_rg k v (10 * acc + v / 256 ^ k % 256 - 48) (m * 10) (fun i hi => hd i (by omega)) (by omega) (by omega)
    rw [zvl, Int.pow_succ, Int.mul_comm (10 ^ k) 10, ← Int.mul_assoc]
    exact this
theorem zval_rg {v : Int} (h : znum v) : 0 ≤ zval v ∧ zval v ≤ 999999 := by
  have := zvl_rg (zlen v).toNat v 0 1 h.2.2 (by omega) (by omega)
  have p : (10 : Int) ^ (zlen v).toNat ≤ 10 ^ 6 := ipl (b := 10) (by decide) (by have := h.2.1; omega)
  have e6 : (10 : Int) ^ 6 = 1000000 := by decide
  unfold zval
  omega
section Stp15
variable {D : zD} {d : Nat} {G : zG} {h h0 : zH} {Q : zO → zG → zH → Prop}
/-- amounts of the first r rows -/
def aS (T : zTb) (a : Int) (w : Int → Int) (r : Int) (h : zH) : Prop := (∀ q : Int, 0 ≤ q → q < T.1 → h 13 q = zgi T a (a + 1) q) ∧ (∀ q : Int, 0 ≤ q → q < T.1 → zF T a (a + 1) q → h 14 (zct (zF T a (a + 1)) q.toNat) = q) ∧ ∀ g : Int, 0 ≤ g → g < 12 → h 17 g = zsm w (fun s => zgi T a (a + 1) s = g) r.toNat
theorem aS_step {T : zTb} {a r v : Int} {w : Int → Int} (k : aS T a w r h) (r0 : 0 ≤ r) (r1 : r < T.1) (hv : v = h 17 (h 13 r) + w r) : aS T a w (r + 1) (z_wr h 17 (h 13 r) v) := by
  refine ⟨fun q q0 q1 => by rw [w_na (by omega)]; exact k.1 q q0 q1, fun q q0 q1 qF => by rw [w_na (by omega)]; exact k.2.1 q q0 q1 qF, fun g g0 g1 => ?_⟩
  have e := k.1 r r0 r1
  rw [zsm_s r0]
  by_cases c : g = h 13 r
  · rw [c, w_s, hv, ← c, k.2.2 g g0 g1, zif1 (by rw [c]; exact e.symm)]
  · rw [w_nj c, k.2.2 g g0 g1, zif0 (fun q => c (by rw [e]; exact q.symm))]
    omega
theorem aS_0 {T : zTb} {a : Int} {w : Int → Int} {h1 : zH} (pg : pG T a (a + 1) 13 14 T.1 h h1) : aS T a w 0 (zfi h1 17 12 0) := ⟨fun q q0 q1 => by rw [zfi_na (by omega)]; exact pg.2.1 q q0 q1, fun q q0 q1 qF => by rw [zfi_na (by omega)]; exact pg.2.2 q q0 q1 qF, fun g g0 g1 => by rw [zfi_in g0 g1]; rfl⟩
theorem pC01 {o : Int} {res : Option zTb} {out : zO} {G' : zG} {h' : zH} (k : pC G o h res out G' h') : ∃ x : Int, out = .inl (some (0, x)) ∧ (x = 0 ∨ x = 1) := by
  obtain ⟨-, -, k⟩ := k
  cases res with
  | some U => exact ⟨1, k.1, Or.inr rfl⟩
  | none => exact ⟨0, k, Or.inl rfl⟩
theorem zam_rg {T : zTb} {a : Int} {w : Int → Int} (oT : okT T) (hw : ∀ s : Int, 0 ≤ s → s < T.1 → 0 ≤ w s ∧ w s ≤ 999999) (g : Int) : 0 ≤ zam T a w g ∧ zam T a w g < 2147483648 := by
  have sh := oT.1
  have := zsm_rg (w := w) (p := fun s => zgi T a (a + 1) s = g) T.1.toNat fun s a b => hw s a (by omega)
  unfold zam
  omega
theorem frS_fill {o a n v : Int} (f : frS o h0 h) (ha : 13 ≤ a ∧ a ≤ 18) : frS o h0 (zfi h a n v) := fun x j n1 n2 n3 => by rw [zfi_na (fun e => n3 (by rw [e]; exact ha))]; exact f x j n1 n2 n3
theorem zgi12 {T : zTb} {f t r : Int} (oT : okT T) (r0 : 0 ≤ r) (r1 : r < T.1) : 0 ≤ zgi T f t r ∧ zgi T f t r < 12 := by
  have sh := oT.1
  have a := zgi_rg (T := T) (f := f) (t := t) r0 r1
  have b := zct_r (p := zF T f t) (show 0 ≤ T.1 by omega)
  omega
theorem l_tally29 (hd : 3 ≤ d) {i o a : Int} {T : zTb} (ap : apS G i o) (ki : isC h0 i T) (oT : okT T) (ha : 0 ≤ a) (ha' : a < T.2.1) : ∀ (m : Nat) (r : Int) (h : zH), r = T.1 - m → 0 ≤ r → frS o h0 h → aS T a (fun _ => 1) r h →
    z_Y D M_X3_tally d 29 [(0, 2, 12), (1, 2, i), (2, 2, o), (3, 0, a), (4, 0, zct (zF T a (a + 1)) T.1.toNat), (5, 0, r)] [] G h (pC G o h0 (sCount a T)) := by
  have sh := oT.1
  intro m
  induction m with
  | zero =>
    intro r h e r0 f k
    have k' := isC_fr ap ki f
    have e1 := k'.1
    have rg := zct_r (p := zF T a (a + 1)) (show 0 ≤ T.1 by omega)
    refine b_X3_tally_29 ap.1 ⟨by omega, by omega⟩ ⟨by omega, by omega⟩ (fun c => by omega) (fun c => by omega) (fun c => by omega) (fun c => by omega) (fun _ => z_Ki.of (d2 := d - 1) (by omega) (c_wa (w := fun _ => 1) (by omega) ap k' oT ha ha' k.2.1 (fun g g0 g1 => ?_) (zam_rg oT fun s _ _ => by omega)) fun out G' h' _ hh => ?_) (fun c => by omega)
    · have := k.2.2 g g0 (by omega)
      rwa [show r = T.1 by omega] at this
    · obtain ⟨x, ex, hx⟩ := pC01 hh
      refine ⟨x, ex, b_X3_tally_69 hx ?_⟩
      rw [← ex]
      exact pC_tr f (hh.1 ▸ hh)
  | succ m ih =>
    intro r h e r0 f k
    have k' := isC_fr ap ki f
    have e1 := k'.1
    have e13 := k.1 r r0 (by omega)
    have g12 := zgi12 (f := a) (t := a + 1) oT r0 (by omega)
    exact b_X3_tally_29 ap.1 ⟨by omega, by omega⟩ ⟨by omega, by omega⟩ (fun c => by omega) (fun c => by omega) (fun c => by omega) (fun c => by omega) (fun c => by omega) (fun c => ih (r + 1) _ (by omega) (by omega) (f.w (Or.inr (Or.inr (by omega)))) (aS_step k r0 (by omega) rfl))
theorem c_tally (hd : 3 ≤ d) {i o a : Int} {T : zTb} (ap : apS G i o) (ki : isC h i T) (oT : okT T) (ha : 0 ≤ a) (ha' : a < T.2.1) : z_CY D M_X3_tally d [(2, 12), (2, i), (2, o), (0, a)] G h (pC G o h (sCount a T)) := by
  intro hl
  have sh := oT.1
  have n13 := ap.n18 13 (by omega)
  have n14 := ap.n18 14 (by omega)
  refine z_begin mo_X3_tally rfl (nle rfl) (b_X3_tally_0 (z_Ki.of (d2 := d - 1) (by omega) (c_group (by omega) ap.1 (hl.i 13 (by decide) rfl) (hl.n 13 (by decide) rfl) (hl.i 14 (by decide) rfl) (hl.n 14 (by decide) rfl) (by omega) ⟨by omega, by omega, by omega, by omega⟩ ki oT (by omega) (by omega) (by omega)) ?_)) hl
  rintro out G' h1 hl1 ⟨r1, rfl, pg⟩
  refine ⟨_, r1, b_X3_tally_16 (z_Kv.of (d2 := d - 1) (by omega) (a_J7_filli 17 0 12 (hl.i 17 (by decide) rfl) (hl.n 17 (by decide) rfl) (by omega) (by omega)) ?_)⟩
  rintro out G' h2 hl2 ⟨r2, rfl, rfl⟩
  have f1 : frS o h h1 := fun a j a1 a2 a3 => pg.1 a j (by omega) (by omega)
  exact ⟨r2, b_X3_tally_26 (l_tally29 hd ap ki oT ha ha' T.1.toNat 0 _ (by omega) (by omega) (frS_fill f1 (by omega)) (aS_0 pg))⟩
theorem l_sum29 (hd : 3 ≤ d) {i o a b : Int} {T : zTb} (ap : apS G i o) (ki : isC h0 i T) (oT : okT T) (nT : noA T) (ha : 0 ≤ a) (ha' : a < T.2.1) (hb : 0 ≤ b) (hb' : b < T.2.1) : ∀ (m : Nat) (r : Int) (h : zH), r = T.1 - m → 0 ≤ r → frS o h0 h → aS T a (fun s => zval (T.2.2 s b)) r h → (∀ q : Int, 0 ≤ q → q < r → znum (T.2.2 q b)) →
    z_Y D M_X3_sum d 29 [(0, 2, 12), (1, 2, i), (2, 2, o), (3, 0, a), (4, 0, b), (5, 0, zct (zF T a (a + 1)) T.1.toNat), (6, 0, r)] [] G h (pC G o h0 (sSum a b T)) := by
  have sh := oT.1
  intro m
  induction m with
  | zero =>
    intro r h e r0 f k kn
    have k' := isC_fr ap ki f
    have e1 := k'.1
    have rg := zct_r (p := zF T a (a + 1)) (show 0 ≤ T.1 by omega)
    refine b_X3_sum_29 hd ap.1 ⟨by omega, by omega⟩ ⟨by omega, by omega⟩ (fun c => by omega) (fun c => by omega) (fun c => by omega) (fun c => by omega) (fun c => by omega) (fun c => by omega) (fun c => by omega) (fun c => by omega) (fun c => by omega) (fun _ => z_Ki.of (d2 := d - 1) (by omega) (c_wa (w := fun s => zval (T.2.2 s b)) (by omega) ap k' oT ha ha' k.2.1 (fun g g0 g1 => ?_) (zam_rg oT fun s s0 s1 => zval_rg (kn s s0 (by omega)))) fun out G' h' _ hh => ?_) (fun c => by omega) (fun c => by omega)
    · have := k.2.2 g g0 (by omega)
      rwa [show r = T.1 by omega] at this
    · obtain ⟨x, ex, hx⟩ := pC01 hh
      refine ⟨x, ex, b_X3_sum_93 hx ?_⟩
      rw [← ex]
      unfold sSum
      rw [zif1 (fun q q0 q1 => kn q q0 (by omega))]
      exact pC_tr f (hh.1 ▸ hh)
  | succ m ih =>
    intro r h e r0 f k kn
    have k' := isC_fr ap ki f
    have e1 := k'.1
    have e13 := k.1 r r0 (by omega)
    have g12 := zgi12 (f := a) (t := a + 1) oT r0 (by omega)
    have j1 := isC_ix k' oT r0 (by omega) hb hb'
    have w1 := nT r b (by omega) (by omega) (by omega) (by omega)
    have w2 := oT.2 r b (by omega) (by omega) (by omega) (by omega)
    refine b_X3_sum_29 hd ap.1 ⟨by omega, by omega⟩ ⟨by omega, by omega⟩ (fun c => j1.1) (fun c => j1.2.1) (fun c => by rw [j1.2.2.1]; omega) (fun c => by rw [j1.2.2.1]; exact w2.2) (fun _ _ => by omega) (fun _ _ => by omega) (fun _ _ => by omega) (fun _ _ => by omega) (fun _ _ => by rw [j1.2.2.1]; exact w1) (fun c => by omega) (fun c c2 => ?_) (fun c c2 => ?_)
    · rw [j1.2.2.1] at c2 ⊢
      refine ih (r + 1) _ (by omega) (by omega) (f.w (Or.inr (Or.inr (by omega)))) (aS_step k r0 (by omega) rfl) fun q q0 q1 => ?_
      by_cases e5 : q = r
      · rw [e5]; exact c2
      · exact kn q q0 (by omega)
    · rw [j1.2.2.1] at c2
      unfold sSum
      rw [zif0 (fun w => c2 (w r r0 (by omega)))]
      exact ⟨rfl, f, rfl⟩
theorem c_sum (hd : 3 ≤ d) {i o a b : Int} {T : zTb} (ap : apS G i o) (ki : isC h i T) (oT : okT T) (nT : noA T) (ha : 0 ≤ a) (ha' : a < T.2.1) (hb : 0 ≤ b) (hb' : b < T.2.1) : z_CY D M_X3_sum d [(2, 12), (2, i), (2, o), (0, a), (0, b)] G h (pC G o h (sSum a b T)) := by
  intro hl
  have sh := oT.1
  have n13 := ap.n18 13 (by omega)
  have n14 := ap.n18 14 (by omega)
  refine z_begin mo_X3_sum rfl (nle rfl) (b_X3_sum_0 (z_Ki.of (d2 := d - 1) (by omega) (c_group (by omega) ap.1 (hl.i 13 (by decide) rfl) (hl.n 13 (by decide) rfl) (hl.i 14 (by decide) rfl) (hl.n 14 (by decide) rfl) (by omega) ⟨by omega, by omega, by omega, by omega⟩ ki oT (by omega) (by omega) (by omega)) ?_)) hl
  rintro out G' h1 hl1 ⟨r1, rfl, pg⟩
  refine ⟨_, r1, b_X3_sum_16 (z_Kv.of (d2 := d - 1) (by omega) (a_J7_filli 17 0 12 (hl.i 17 (by decide) rfl) (hl.n 17 (by decide) rfl) (by omega) (by omega)) ?_)⟩
  rintro out G' h2 hl2 ⟨r2, rfl, rfl⟩
  have f1 : frS o h h1 := fun a j a1 a2 a3 => pg.1 a j (by omega) (by omega)
  exact ⟨r2, b_X3_sum_26 (l_sum29 hd ap ki oT nT ha ha' hb hb' T.1.toNat 0 _ (by omega) (by omega) (frS_fill f1 (by omega)) (aS_0 pg) (fun q q0 q1 => by omega))⟩
end Stp15
