/-- a row filled -/
noncomputable def zfi (h : zH) (a n v : Int) : zH := fun b j => if b = a ∧ 0 ≤ j ∧ j < n then v else h b j
theorem zfi_0 {h : zH} {a v : Int} : zfi h a 0 v = h := by
  funext b j
  unfold zfi
  rw [if_neg (fun q => by omega)]
theorem zfi_s {h : zH} {a n v : Int} (hn : 0 ≤ n) : z_wr (zfi h a n v) a n v = zfi h a (n + 1) v := by
  funext b j
  unfold z_wr zfi
  by_cases e : b = a
  · subst e
    by_cases e2 : j = n
    · rw [if_pos ⟨rfl, e2⟩, if_pos ⟨rfl, by omega⟩]
    · rw [if_neg (fun q => e2 q.2)]
      by_cases e3 : 0 ≤ j ∧ j < n
      · rw [if_pos ⟨rfl, e3⟩, if_pos ⟨rfl, by omega⟩]
      · rw [if_neg (fun q => e3 q.2), if_neg (fun q => e3 ⟨q.2.1, by omega⟩)]
  · rw [if_neg (fun q => e q.1), if_neg (fun q => e q.1), if_neg (fun q => e q.1)]
theorem zfi_na {h : zH} {a n v b j : Int} (hb : ¬ b = a) : zfi h a n v b j = h b j := by
  unfold zfi; rw [if_neg (fun q => hb q.1)]
theorem zfi_in {h : zH} {a n v j : Int} (h0 : 0 ≤ j) (h1 : j < n) : zfi h a n v a j = v := by
  unfold zfi; rw [if_pos ⟨rfl, h0, h1⟩]
section Stp13
variable {D : zD} {d : Nat} {G : zG} {h h0 : zH} {Q : zO → zG → zH → Prop}
theorem l_filli {a v n : Int} (ta : z_is G a 50) (hn : G.2.2.2 a = n) (hn' : n < 2147483648) : ∀ (m : Nat) (x : Int), x = n - m → 0 ≤ x → z_Y D M_J7_fill_53178 d 5 [(0, 2, a), (1, 0, v), (2, 0, x), (3, 0, n)] [] G (zfi h a x v) (fun o G' h' => o = .inl none ∧ G' = G ∧ h' = zfi h a n v) := by
  intro m
  induction m with
  | zero =>
    intro x e x0
    exact b_J7_fill_53178_5 ⟨by omega, by omega⟩ ⟨by omega, by omega⟩ (fun _ => ta) (fun c => by omega) (fun c => by omega) (fun _ => ⟨rfl, rfl, by rw [show x = n by omega]⟩) (fun c => by omega)
  | succ m ih =>
    intro x e x0
    refine b_J7_fill_53178_5 ⟨by omega, by omega⟩ ⟨by omega, by omega⟩ (fun _ => ta) (fun c => by omega) (fun c => by omega) (fun c => by omega) (fun c => ?_)
    rw [zfi_s x0]
    exact ih (x + 1) (by omega) (by omega)
theorem a_J7_filli (a v n : Int) (ta : z_is G a 50) (hn : G.2.2.2 a = n) (hn0 : 0 ≤ n) (hn' : n < 2147483648) : z_Ev D M_J7_fill_53178 d [(2, a), (0, v)] G h (zfi h a n v) := by
  have k := l_filli (D := D) (d := d) (h := h) (v := v) ta hn hn' n.toNat 0 (by omega) (by omega)
  rw [zfi_0, ← hn] at k
  rw [← hn]
  exact z_begin mo_J7_fill_53178 rfl (nle rfl) (b_J7_fill_53178_0 ta k)
theorem l_filll {a v n : Int} (ta : z_is G a 51) (hn : G.2.2.2 a = n) (hn' : n < 2147483648) : ∀ (m : Nat) (x : Int), x = n - m → 0 ≤ x → z_Y D M_J7_fill_d0a16 d 6 [(0, 2, a), (1, 1, v), (3, 0, x), (4, 0, n)] [] G (zfi h a x v) (fun o G' h' => o = .inl none ∧ G' = G ∧ h' = zfi h a n v) := by
  intro m
  induction m with
  | zero =>
    intro x e x0
    exact b_J7_fill_d0a16_6 ⟨by omega, by omega⟩ ⟨by omega, by omega⟩ (fun _ => ta) (fun c => by omega) (fun c => by omega) (fun _ => ⟨rfl, rfl, by rw [show x = n by omega]⟩) (fun c => by omega)
  | succ m ih =>
    intro x e x0
    refine b_J7_fill_d0a16_6 ⟨by omega, by omega⟩ ⟨by omega, by omega⟩ (fun _ => ta) (fun c => by omega) (fun c => by omega) (fun c => by omega) (fun c => ?_)
    rw [zfi_s x0]
    exact ih (x + 1) (by omega) (by omega)
theorem a_J7_filll (a v n : Int) (ta : z_is G a 51) (hn : G.2.2.2 a = n) (hn0 : 0 ≤ n) (hn' : n < 2147483648) : z_Ev D M_J7_fill_d0a16 d [(2, a), (1, v)] G h (zfi h a n v) := by
  have k := l_filll (D := D) (d := d) (h := h) (v := v) ta hn hn' n.toNat 0 (by omega) (by omega)
  rw [zfi_0, ← hn] at k
  rw [← hn]
  exact z_begin mo_J7_fill_d0a16 rfl (nle rfl) (b_J7_fill_d0a16_0 ta k)
end Stp13
/-! sums over chosen rows -/
noncomputable def zsm (w : Int → Int) (p : Int → Prop) : Nat → Int
  | 0 => 0
  | n + 1 => zsm w p n + zif (p n) (w n) 0
theorem zsm_s {w : Int → Int} {p : Int → Prop} {r : Int} (h : 0 ≤ r) : zsm w p (r + 1).toNat = zsm w p r.toNat + zif (p r) (w r) 0 := by
  rw [show (r + 1).toNat = r.toNat + 1 by omega, zsm, show ((r.toNat : Nat) : Int) = r by omega]
theorem zsm_rg {w : Int → Int} {p : Int → Prop} : ∀ n : Nat, (∀ s : Int, 0 ≤ s → s < n → 0 ≤ w s ∧ w s ≤ 999999) → 0 ≤ zsm w p n ∧ zsm w p n ≤ n * 999999
  | 0, _ => by simp [zsm]
  | n + 1, k => by
    have := zsm_rg (p := p) n fun s a b => k s a (by omega)
    have k1 := k n (by omega) (by omega)
    rw [zsm]
    by_cases c : p n
    · rw [zif1 c]; omega
    · rw [zif0 c]; omega
noncomputable def zam (T : zTb) (a : Int) (w : Int → Int) (g : Int) : Int := zsm w (fun s => zgi T a (a + 1) s = g) T.1.toNat
noncomputable def sAmU (a : Int) (w : Int → Int) (T : zTb) : zTb := (zct (zF T a (a + 1)) T.1.toNat, 2, fun g c => if c = 0 then T.2.2 (zse (zF T a (a + 1)) T.1.toNat g) a else ztx 6 (zam T a w g))
noncomputable def sAmt (a : Int) (w : Int → Int) (T : zTb) : Option zTb := zif (∀ g : Int, 0 ≤ g → g < zct (zF T a (a + 1)) T.1.toNat → zam T a w g < 1000000) (some (sAmU a w T)) none
noncomputable def sCount (a : Int) (T : zTb) : Option zTb := sAmt a (fun _ => 1) T
noncomputable def sSum (a b : Int) (T : zTb) : Option zTb := zif (∀ r : Int, 0 ≤ r → r < T.1 → znum (T.2.2 r b)) (sAmt a (fun s => zval (T.2.2 s b)) T) none
theorem zgi_iff {T : zTb} {f t s q : Int} (hs : 0 ≤ s) (hq : 0 ≤ q) (hF : zF T f t q) : zgi T f t s = zct (zF T f t) q.toNat ↔ zag T f t s q := by
  refine ⟨fun e => ?_, fun k => zgi_of hs hq hF k⟩
  obtain ⟨s', ⟨a, b⟩, c, e2, -⟩ := zF_of (T := T) (f := f) (t := t) hs
  rw [zgi_of hs a c e2] at e
  have := zct_ij a hq c hF e
  rw [← this]
  exact e2
section Stp14
variable {D : zD} {d : Nat} {G : zG} {h h0 : zH} {Q : zO → zG → zH → Prop}
theorem l_wa15 (hd : 2 ≤ d) {i o a : Int} {w : Int → Int} {T : zTb} (ap : apS G i o) (ki : isC h0 i T) (oT : okT T) (ha : 0 ≤ a) (ha' : a < T.2.1) (oU : shT (sAmU a w T)) {n : Int} (en : n = zct (zF T a (a + 1)) T.1.toNat) (k14 : ∀ q : Int, 0 ≤ q → q < T.1 → zF T a (a + 1) q → h0 14 (zct (zF T a (a + 1)) q.toNat) = q) (k17 : ∀ g : Int, 0 ≤ g → g < n → h0 17 g = zam T a w g) (kw : ∀ g : Int, 0 ≤ zam T a w g ∧ zam T a w g < 2147483648) : ∀ (m : Nat) (x : Int) (h : zH), x = n - m → 0 ≤ x → frS o h0 h → (∀ k : Int, h 14 k = h0 14 k ∧ h 17 k = h0 17 k) → (∀ g : Int, 0 ≤ g → g < x → zam T a w g < 1000000) → isP h o (sAmU a w T) (fun r _ => r < x) →
    z_Y D M_X3_writeAmounts d 15 [(0, 2, 12), (1, 2, i), (2, 2, o), (3, 0, a), (4, 0, n), (5, 0, x)] [] G h (pC G o h0 (sAmt a w T)) := by
  have sh := oT.1
  have rg := zct_r (p := zF T a (a + 1)) (show 0 ≤ T.1 by omega)
  have n14 := ap.n18 14 (by omega)
  have n17 := ap.n18 17 (by omega)
  intro m
  induction m with
  | zero =>
    intro x h e x0 f hk hs k
    refine b_X3_writeAmounts_15 hd ⟨by omega, by omega⟩ ⟨by omega, by omega⟩ (fun c => by omega) (fun c => by omega) (fun c => by omega) (fun c => by omega) (fun c => by omega) (fun c => by omega) (fun c => by omega) (fun c => by omega) (fun c => by omega) (fun c => by omega) (fun c => by omega) (fun c => by omega) (fun c => by omega) (fun _ => ?_) (fun c => by omega) (fun c => by omega)
    unfold sAmt
    rw [zif1 (fun g g0 g1 => hs g g0 (by omega))]
    exact ⟨rfl, f, rfl, k.all fun r c b1 b2 b3 b4 => by have b2 : r < zct (zF T a (a + 1)) T.1.toNat := b2; omega⟩
  | succ m ih =>
    intro x h e x0 f hk hs k
    have k' := isC_fr ap ki f
    obtain ⟨q, q0, q1, qF, qe⟩ := zct_sr (p := zF T a (a + 1)) (g := x) (show 0 ≤ T.1 by omega) x0 (by omega)
    have e14 : h 14 x = q := by rw [(hk x).1, ← qe]; exact k14 q q0 q1 qF
    have e17 : h 17 x = zam T a w x := by rw [(hk x).2]; exact k17 x x0 (by omega)
    have es : zse (zF T a (a + 1)) T.1.toNat x = q := by rw [← qe]; exact zse_q q0 q1 qF
    have j1 := isC_ix k' oT q0 q1 ha ha'
    have j2 := isP_ix (r := x) (c := 0) k oU x0 (show x < zct (zF T a (a + 1)) T.1.toNat by omega) (by omega) (show (0 : Int) < 2 by omega)
    have j3 := isP_ix (r := x) (c := 1) k oU x0 (show x < zct (zF T a (a + 1)) T.1.toNat by omega) (by omega) (show (1 : Int) < 2 by omega)
    have am := kw x
    refine b_X3_writeAmounts_15 hd ⟨by omega, by omega⟩ ⟨by omega, by omega⟩ (fun c => by omega) (fun c => by omega) (fun c => by rw [e17]; exact ⟨by omega, by omega⟩) (fun _ _ => ap.1) (fun _ _ => by rw [e14]; exact j1.1) (fun _ _ => by rw [e14]; exact j1.2.1) (fun _ _ => ap.2.1) (fun _ _ => j2.1) (fun _ _ => j2.2) (fun _ _ => by rw [e17]; exact am.1) (fun _ c => c) (fun _ _ => j3.1) (fun _ _ => j3.2) (fun c => by omega) (fun c c2 => ?_) (fun c c2 => ?_)
    · rw [e17] at c2
      rw [e14, j1.2.2.1, e17]
      refine ih (x + 1) _ (by omega) (by omega) ((f.w (Or.inr (Or.inl rfl))).w (Or.inr (Or.inl rfl))) (fun k => by rw [w_na n14.2.2.2, w_na n14.2.2.2, w_na n17.2.2.2, w_na n17.2.2.2]; exact hk k) (fun g g0 g1 => ?_) ?_
      · by_cases e5 : g = x
        · rw [e5]; exact c2
        · exact hs g g0 (by omega)
      · have q1 := isP_put2 (P' := fun r c => r < x ∨ (r = x ∧ c = 0)) k (r := x) (c := 0) (v := T.2.2 q a) (by omega) (show (0 : Int) < 2 by omega) (by unfold sAmU; dsimp only; rw [if_pos rfl, es]) (fun r c b1 b2 b3 b4 p => by omega)
        have q2 := isP_put2 (P' := fun r _ => r < x + 1) q1 (r := x) (c := 1) (v := ztx 6 (zam T a w x)) (by omega) (show (1 : Int) < 2 by omega) (by unfold sAmU; dsimp only; rw [if_neg (by omega)]) (fun r c b1 b2 b3 b4 p => by have b4 : c < 2 := b4; omega)
        rw [w_na (show ¬ o = o + 1 by omega)] at q2
        exact q2
    · rw [e17] at c2
      unfold sAmt
      rw [zif0 (fun ww => c2 (ww x x0 (by omega)))]
      exact ⟨rfl, f, rfl⟩
theorem c_wa (hd : 2 ≤ d) {i o a : Int} {w : Int → Int} {T : zTb} (ap : apS G i o) (ki : isC h i T) (oT : okT T) (ha : 0 ≤ a) (ha' : a < T.2.1) (k14 : ∀ q : Int, 0 ≤ q → q < T.1 → zF T a (a + 1) q → h 14 (zct (zF T a (a + 1)) q.toNat) = q) (k17 : ∀ g : Int, 0 ≤ g → g < zct (zF T a (a + 1)) T.1.toNat → h 17 g = zam T a w g) (kw : ∀ g : Int, 0 ≤ zam T a w g ∧ zam T a w g < 2147483648) : z_CY D M_X3_writeAmounts d [(2, 12), (2, i), (2, o), (0, a), (0, zct (zF T a (a + 1)) T.1.toNat)] G h (pC G o h (sAmt a w T)) := by
  have sh := oT.1
  have rg := zct_r (p := zF T a (a + 1)) (show 0 ≤ T.1 by omega)
  have n14 := ap.n18 14 (by omega)
  have n17 := ap.n18 17 (by omega)
  have one : 1 ≤ zct (zF T a (a + 1)) T.1.toNat := by
    have := zct_lt (p := zF T a (a + 1)) (a := 0) (b := T.1) (by omega) (by omega) (fun q q0 q1 => by omega)
    have e0 : zct (zF T a (a + 1)) (0 : Int).toNat = 0 := rfl
    omega
  refine z_begin mo_X3_writeAmounts rfl (nle rfl) (b_X3_writeAmounts_0 (by omega) ap.2.1 ⟨by omega, by omega⟩ (fun c => ?_) (fun c => absurd ⟨⟨by omega, by omega⟩, by omega, by omega⟩ c))
  have ff := frS_new (h := h) (o := o) (T := sAmU a w T)
  refine (l_wa15 hd ap (isC_fr ap ki ff) oT ha ha' ⟨one, by show zct (zF T a (a + 1)) T.1.toNat ≤ 12; omega, by show (1 : Int) ≤ 2; omega, by show (2 : Int) ≤ 6; omega⟩ rfl (fun q q0 q1 qF => by rw [w_na n14.2.2.1, w_na n14.2.2.1]; exact k14 q q0 q1 qF) (fun g g0 g1 => by rw [w_na n17.2.2.1, w_na n17.2.2.1]; exact k17 g g0 g1) kw (zct (zF T a (a + 1)) T.1.toNat).toNat 0 _ (by omega) (by omega) frS.rf (fun _ => ⟨rfl, rfl⟩) (fun g g0 g1 => by omega) (isP_new.imp fun r c b1 b2 b3 b4 p => by omega)).mono fun out G' h' _ hh => pC_tr ff hh
end Stp14
