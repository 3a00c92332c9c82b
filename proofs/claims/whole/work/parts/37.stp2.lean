section Stp2
variable {D : zD} {d : Nat} {G : zG} {h h0 : zH} {Q : zO → zG → zH → Prop}
def shT (T : zTb) : Prop := 1 ≤ T.1 ∧ T.1 ≤ 12 ∧ 1 ≤ T.2.1 ∧ T.2.1 ≤ 6
theorem isC_ix {t r c : Int} {T : zTb} (k : isC h t T) (o : okT T) (h1 : 0 ≤ r) (h2 : r < T.1) (h3 : 0 ≤ c) (h4 : c < T.2.1) : 0 ≤ r * h t 2 + c ∧ r * h t 2 + c < 72 ∧ h (t + 1) (r * h t 2 + c) = T.2.2 r c ∧ z_in64 (h (t + 1) (r * h t 2 + c)) := by
  obtain ⟨⟨a1, a2, a3, a4⟩, ok⟩ := o
  have rc := rc_le a1 a2 a3 a4
  have ix := ix_lt h1 h2 h3 h4
  have oo := ok r c h1 h2 h3 h4
  rw [k.2.1, k.2.2 r c h1 h2 h3 h4]
  exact ⟨by omega, by omega, rfl, by omega, by omega⟩
theorem isP_ix {t r c : Int} {T : zTb} {P : Int → Int → Prop} (k : isP h t T P) (o : shT T) (h1 : 0 ≤ r) (h2 : r < T.1) (h3 : 0 ≤ c) (h4 : c < T.2.1) : 0 ≤ r * h t 2 + c ∧ r * h t 2 + c < 72 := by
  obtain ⟨a1, a2, a3, a4⟩ := o
  have rc := rc_le a1 a2 a3 a4
  have ix := ix_lt h1 h2 h3 h4
  rw [k.2.1]
  omega
theorem isP_put2 {t r c v : Int} {T : zTb} {P P' : Int → Int → Prop} (k : isP h t T P) (h3 : 0 ≤ c) (h4 : c < T.2.1) (hv : v = T.2.2 r c) (hp : ∀ r' c' : Int, 0 ≤ r' → r' < T.1 → 0 ≤ c' → c' < T.2.1 → P' r' c' → P r' c' ∨ (r' = r ∧ c' = c)) : isP (z_wr h (t + 1) (r * h t 2 + c) v) t T P' := by
  rw [k.2.1]
  exact (isP_put k h3 h4 hv).imp hp
theorem isP_new {o : Int} {T : zTb} : isP (z_wr (z_wr h o 1 T.1) o 2 T.2.1) o T (fun _ _ => False) := ⟨by rw [w_nj (by omega), w_s], w_s, fun _ _ _ _ _ _ p => p.elim⟩
theorem frS_new {o : Int} {T : zTb} : frS o h (z_wr (z_wr h o 1 T.1) o 2 T.2.1) := (frS.rf.w (Or.inl rfl)).w (Or.inl rfl)
/-! turn -/
theorem l_turn29 (hd : 2 ≤ d) {i o x2 : Int} {T U : zTb} (ap : apS G i o) (ki : isC h0 i T) (oT : okT T) (eU : U = (T.2.1, T.1, fun r c => T.2.2 c r)) (oU : shT U) (h2 : 0 ≤ x2) (h2' : x2 < T.1)
    (kk : ∀ h, frS o h0 h → isP h o U (fun _ c => c < x2 + 1) → z_Y D M_X3_turn d 19 [(0, 2, i), (1, 2, o), (2, 0, x2 + 1)] [] G h Q) : ∀ (n : Nat) (x3 : Int) (h : zH), x3 = T.2.1 - n → 0 ≤ x3 → frS o h0 h → isP h o U (fun r c => c < x2 ∨ (c = x2 ∧ r < x3)) →
    z_Y D M_X3_turn d 29 [(0, 2, i), (1, 2, o), (2, 0, x2), (3, 0, x3)] [] G h Q := by
  subst eU
  have sh := oT.1
  intro n
  induction n with
  | zero =>
    intro x3 h e h3 f k
    have k' := isC_fr ap ki f
    have e1 := k'.1; have e2 := k'.2.1
    exact b_X3_turn_29 hd ap.1 ⟨by omega, by omega⟩ ⟨by omega, by omega⟩ (fun c => by omega) (fun c => by omega) (fun _ => ap.2.1) (fun c => by omega) (fun c => by omega) (fun _ => kk h f (k.imp fun r c b1 b2 b3 b4 p => by dsimp only at b2 b4; omega)) (fun c => by omega)
  | succ n ih =>
    intro x3 h e h3 f k
    have k' := isC_fr ap ki f
    have e1 := k'.1; have e2 := k'.2.1
    have j1 := isC_ix k' oT h2 h2' h3 (by omega)
    have j2 := isP_ix (r := x3) (c := x2) k oU h3 (show x3 < T.2.1 by omega) h2 h2'
    exact b_X3_turn_29 hd ap.1 ⟨by omega, by omega⟩ ⟨by omega, by omega⟩ (fun c => j1.1) (fun c => j1.2.1) (fun _ => ap.2.1) (fun c => j2.1) (fun c => j2.2) (fun c => by omega) (fun c => ih (x3 + 1) _ (by omega) (by omega) (f.w (Or.inr (Or.inl rfl))) (isP_put2 k h2 h2' j1.2.2.1 fun r c b1 b2 b3 b4 p => by omega))
theorem l_turn19 (hd : 2 ≤ d) {i o : Int} {T U : zTb} (ap : apS G i o) (ki : isC h0 i T) (oT : okT T) (eU : U = (T.2.1, T.1, fun r c => T.2.2 c r)) (oU : shT U) : ∀ (n : Nat) (x2 : Int) (h : zH), x2 = T.1 - n → 0 ≤ x2 → frS o h0 h → isP h o U (fun _ c => c < x2) →
    z_Y D M_X3_turn d 19 [(0, 2, i), (1, 2, o), (2, 0, x2)] [] G h (pC G o h0 (some U)) := by
  have sh := oT.1
  intro n
  induction n with
  | zero =>
    intro x2 h e h2 f k
    have k' := isC_fr ap ki f
    have e1 := k'.1; have e2 := k'.2.1
    exact b_X3_turn_19 ap.1 ⟨by omega, by omega⟩ ⟨by omega, by omega⟩ (fun _ => ⟨rfl, f, rfl, k.all fun r c b1 b2 b3 b4 => by subst eU; dsimp only at b4; omega⟩) (fun c => by omega)
  | succ n ih =>
    intro x2 h e h2 f k
    have k' := isC_fr ap ki f
    have e1 := k'.1; have e2 := k'.2.1
    refine b_X3_turn_19 ap.1 ⟨by omega, by omega⟩ ⟨by omega, by omega⟩ (fun c => by omega) (fun c => l_turn29 hd ap ki oT eU oU h2 (by omega) ?_ T.2.1.toNat 0 h (by omega) (by omega) f (k.imp fun r c b1 b2 b3 b4 p => by omega))
    intro h' f' k'
    exact ih (x2 + 1) h' (by omega) (by omega) f' k'
theorem c_turn (hd : 2 ≤ d) {i o : Int} {T : zTb} (ap : apS G i o) (ki : isC h i T) (oT : okT T) : z_CY D M_X3_turn d [(2, i), (2, o)] G h (pC G o h (sTurn T)) := by
  have sh := oT.1
  have e1 := ki.1; have e2 := ki.2.1
  refine z_begin mo_X3_turn rfl (nle rfl) (b_X3_turn_0 hd ap.1 ap.2.1 ⟨by omega, by omega⟩ ⟨by omega, by omega⟩ (fun c => ?_) (fun c => ?_))
  · unfold sTurn
    rw [zif1 (by omega), e1, e2]
    exact l_turn19 hd ap ki oT rfl ⟨by dsimp only; omega, by dsimp only; omega, by dsimp only; omega, by dsimp only; omega⟩ T.1.toNat 0 _ (by omega) (by omega) (frS_new (T := (T.2.1, T.1, fun r c => T.2.2 c r))) ((isP_new (T := (T.2.1, T.1, fun r c => T.2.2 c r))).imp fun r c b1 b2 b3 b4 p => by omega)
  · unfold sTurn
    rw [zif0 (by omega)]
    exact ⟨rfl, frS.rf, rfl⟩
end Stp2
