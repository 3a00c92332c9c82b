/-! what may change: by address and place -/
def frB (P : Int → Int → Prop) (h h' : zH) : Prop := ∀ a j : Int, ¬ P a j → h' a j = h a j
theorem frB.rf {P : Int → Int → Prop} {h : zH} : frB P h h := fun _ _ _ => rfl
theorem frB.tr {P : Int → Int → Prop} {h h1 h2 : zH} (a : frB P h h1) (b : frB P h1 h2) : frB P h h2 := fun x j n => (b x j n).trans (a x j n)
theorem frB.imp {P P' : Int → Int → Prop} {h h1 : zH} (a : frB P h h1) (k : ∀ x j : Int, P x j → P' x j) : frB P' h h1 := fun x j n => a x j fun p => n (k x j p)
theorem frB.w {P : Int → Int → Prop} {h h1 : zH} (a : frB P h h1) {b i v : Int} (hb : P b i) : frB P h (z_wr h1 b i v) := fun x j n => by
  by_cases e : x = b ∧ j = i
  · exact absurd (by rw [e.1, e.2]; exact hb) n
  · have : z_wr h1 b i v x j = h1 x j := by unfold z_wr; rw [if_neg e]
    rw [this]; exact a x j n
theorem frB.c {P : Int → Int → Prop} {h h1 : zH} (a : frB P h h1) {u sp b dp n : Int} (hb : ∀ j : Int, dp ≤ j → j < dp + n → P b j) : frB P h (z_cp h1 u sp b dp n) := fun x j nn => by
  unfold z_cp
  by_cases e : x = b ∧ dp ≤ j ∧ j < dp + n
  · exact absurd (by rw [e.1]; exact hb j e.2.1 e.2.2) nn
  · rw [if_neg e]; exact a x j nn
theorem wr_id {h : zH} {a i : Int} : z_wr h a i (h a i) = h := by
  funext b j
  unfold z_wr
  by_cases e : b = a ∧ j = i
  · rw [if_pos e, e.1, e.2]
  · rw [if_neg e]
theorem isC_B {P : Int → Int → Prop} {h h' : zH} {t : Int} {T : zTb} (k : isC h t T) (f : frB P h h') (n1 : ∀ j : Int, ¬ P t j) (n2 : ∀ j : Int, ¬ P (t + 1) j) : isC h' t T := isC_keep k (fun j => f t j (n1 j)) (fun j => f (t + 1) j (n2 j))
theorem isM_B {P : Int → Int → Prop} {h h' : zH} {k : Int} {T : zTb} (m : isM h k T) (f : frB P h h') (n1 : ¬ P 89 k) (n2 : ¬ P 90 k) (n3 : ∀ j : Int, 72 * k ≤ j → j < 72 * k + 72 → ¬ P 91 j) : isM h' k T :=
  ⟨by rw [f 89 k n1]; exact m.1, by rw [f 90 k n2]; exact m.2.1, fun r c a1 a2 a3 a4 => by rw [f 91 _ (n3 _ (by omega) (by omega))]; exact m.2.2 r c a1 a2 a3 a4⟩
section Frb
variable {D : zD} {d : Nat} {G : zG} {h h0 h1 : zH} {Q : zO → zG → zH → Prop}
theorem c_become (hd : 1 ≤ d) {t u : Int} {T : zTb} (tt : z_is G t 3) (tu : z_is G u 3) (k : isC h u T) (oT : okT T) : z_CY D M_X4_become d [(2, t), (2, u)] G h (fun out G' h' => out = .inl none ∧ G' = G ∧ frB (fun a _ => a = t ∨ a = t + 1) h h' ∧ isC h' t T) := by
  intro hl
  have n1 : ¬ u + 1 = t := z_isne (hl.ti tu) tt (by decide)
  obtain ⟨a1, a2, a3, a4⟩ := oT.1
  have rc := rc_le a1 a2 a3 a4
  have p0 : 0 ≤ T.1 * T.2.1 := Int.mul_nonneg (by omega) (by omega)
  refine (a_X4_become hd t u T.1 T.2.1 tt tu k.1 k.2.1 p0 (by omega)).mono (fun o G' h' _ q => ?_) hl
  refine ⟨q.1, q.2.1, ?_, ?_⟩
  · rw [q.2.2]
    exact ((frB.rf.w (Or.inl rfl)).w (Or.inl rfl)).c (fun j _ _ => Or.inr rfl)
  · rw [q.2.2]
    have n0 : ¬ t = t + 1 := by omega
    refine ⟨by rw [c_na n0, w_nj (by omega), w_s], by rw [c_na n0, w_s], fun r c b1 b2 b3 b4 => ?_⟩
    have ix := ix_lt b1 b2 b3 b4
    unfold z_cp
    rw [if_pos ⟨rfl, by omega, by omega⟩, w_na n1, w_na n1, show (0 : Int) + (r * T.2.1 + c - 0) = r * T.2.1 + c by omega]
    exact k.2.2 r c b1 b2 b3 b4
/-- a table of the model's -/
def mT (k a j : Int) : Prop := ((a = 89 ∨ a = 90) ∧ j = k) ∨ (a = 91 ∧ 72 * k ≤ j ∧ j < 72 * k + 72)
theorem l_mbecome0 {k : Int} (k0 : 0 ≤ k) (k1 : k < 12) : ∀ (m : Nat) (x : Int), x = 72 - m → 0 ≤ x → z_Y D M_X13_become d 26 [(0, 2, 88), (1, 0, k), (2, 0, k), (3, 0, x)] [] G h (fun o G' h' => o = .inl none ∧ G' = G ∧ h' = h) := by
  intro m
  induction m with
  | zero =>
    intro x e x0
    exact b_X13_become_26 ⟨by omega, by omega⟩ (fun c => by omega) (fun c => by omega) (fun c => by omega) (fun c => by omega) (fun _ => ⟨rfl, rfl, rfl⟩) (fun c => by omega)
  | succ m ih =>
    intro x e x0
    refine b_X13_become_26 ⟨by omega, by omega⟩ (fun c => by omega) (fun c => by omega) (fun c => by omega) (fun c => by omega) (fun c => by omega) (fun c => ?_)
    rw [wr_id]
    exact ih (x + 1) (by omega) (by omega)
theorem m_become {k u : Int} {T : zTb} (k0 : 0 ≤ k) (k1 : k < 12) (u0 : 0 ≤ u) (u1 : u < 12) (m : isM h u T) : z_CY D M_X13_become d [(2, 88), (0, k), (0, u)] G h (fun out G' h' => out = .inl none ∧ G' = G ∧ frB (mT k) h h' ∧ isM h' k T) := by
  by_cases ne : k = u
  · subst ne
    have q := l_mbecome0 (D := D) (d := d) (G := G) (h := h) k0 k1 72 0 (by omega) (by omega)
    refine (z_begin mo_X13_become rfl (nle rfl) (b_X13_become_0 u0 u1 k0 k1 (Q := fun o G' h' => o = .inl none ∧ G' = G ∧ h' = h) (by rw [wr_id, wr_id]; exact q)) : z_CY D M_X13_become d [(2, 88), (0, k), (0, k)] G h _).mono fun o G' h' _ q => ⟨q.1, q.2.1, ?_, ?_⟩
    · rw [q.2.2]; exact frB.rf
    · rw [q.2.2]; exact m
  · refine (a_X13_become k u k0 k1 u0 u1 ne).mono fun o G' h' _ q => ⟨q.1, q.2.1, ?_, ?_⟩
    · rw [q.2.2]
      exact ((frB.rf.w (Or.inl ⟨Or.inl rfl, rfl⟩)).w (Or.inl ⟨Or.inr rfl, rfl⟩)).c (fun j j0 j1 => Or.inr ⟨rfl, j0, j1⟩)
    · rw [q.2.2]; exact isM_bec k0 k1 ne m
/-- what the model works on: its last four tables and the rows of its steps -/
def mW (a j : Int) : Prop := (a = 88 ∧ (j = 3 ∨ j = 4)) ∨ ((a = 89 ∨ a = 90) ∧ 8 ≤ j) ∨ (a = 91 ∧ 576 ≤ j) ∨ (92 ≤ a ∧ a ≤ 94)
theorem frM.B (f : frM h h1) : frB mW h h1 := fun a j n => f a j (fun q => n (Or.inl q)) (fun q => n (Or.inr (Or.inl ⟨q.1, by omega⟩))) (fun q => n (Or.inr (Or.inr (Or.inl ⟨q.1, by omega⟩)))) (fun q => n (Or.inr (Or.inr (Or.inr q))))
theorem mT_W {k : Int} (hk : 8 ≤ k) {a j : Int} (q : mT k a j) : mW a j := by
  rcases q with q | q
  · exact Or.inr (Or.inl ⟨q.1, by omega⟩)
  · exact Or.inr (Or.inr (Or.inl ⟨q.1, by omega⟩))
/-! ways: how many steps, and their codes -/
abbrev zWy : Type := Int × (Int → Int)
def isW (h : zH) (w : Int) (W : zWy) : Prop := h w 1 = W.1 ∧ ∀ i : Int, 0 ≤ i → i < W.1 → h (w + 1) i = W.2 i
def okW (W : zWy) : Prop := 0 ≤ W.1 ∧ W.1 ≤ 12 ∧ ∀ i : Int, 0 ≤ i → i < W.1 → 64 ≤ W.2 i ∧ W.2 i < 960
def isV (h : zH) (k : Int) (W : zWy) : Prop := h 95 k = W.1 ∧ ∀ i : Int, 0 ≤ i → i < W.1 → h 96 (12 * k + i) = W.2 i / 64 ∧ h 97 (12 * k + i) = W.2 i / 8 % 8 ∧ h 98 (12 * k + i) = W.2 i % 8
theorem isW_B {P : Int → Int → Prop} {w : Int} {W : zWy} (k : isW h w W) (f : frB P h h1) (n1 : ∀ j : Int, ¬ P w j) (n2 : ∀ j : Int, ¬ P (w + 1) j) : isW h1 w W := ⟨by rw [f w 1 (n1 1)]; exact k.1, fun i a b => by rw [f (w + 1) i (n2 i)]; exact k.2 i a b⟩
theorem isV_B {P : Int → Int → Prop} {w : Int} {W : zWy} (k : isV h w W) (f : frB P h h1) (n1 : ∀ a j : Int, 95 ≤ a → a ≤ 98 → ¬ P a j) : isV h1 w W := ⟨by rw [f 95 w (n1 _ _ (by omega) (by omega))]; exact k.1, fun i a b => by rw [f 96 _ (n1 _ _ (by omega) (by omega)), f 97 _ (n1 _ _ (by omega) (by omega)), f 98 _ (n1 _ _ (by omega) (by omega))]; exact k.2 i a b⟩
/-- a way walked: the step that can't be, or -1; what came of it -/
noncomputable def wkR (c : Int → Int) : Nat → Int → zTb → Int × zTb
  | 0, _, T => (-1, T)
  | n + 1, i, T => match sMake (c i / 64) (c i / 8 % 8) (c i % 8) T with
    | some U => wkR c n (i + 1) U
    | none => (i, T)
theorem wkR_s {c : Int → Int} {n : Nat} {i : Int} {T U : zTb} (e : sMake (c i / 64) (c i / 8 % 8) (c i % 8) T = some U) : wkR c (n + 1) i T = wkR c n (i + 1) U := by rw [wkR, e]
theorem wkR_n {c : Int → Int} {n : Nat} {i : Int} {T : zTb} (e : sMake (c i / 64) (c i / 8 % 8) (c i % 8) T = none) : wkR c (n + 1) i T = (i, T) := by rw [wkR, e]
theorem sMake_ok {n a b : Int} {T U : zTb} (oT : okT T) (e : sMake n a b T = some U) : okT U ∧ noA U := by
  unfold sMake at e
  by_cases q : noA T
  · rw [zif1 q] at e; exact sStep_ok oT q e
  · rw [zif0 q] at e; cases e
theorem wkR_ok {c : Int → Int} : ∀ (n : Nat) (i : Int) (T : zTb), okT T → okT (wkR c n i T).2 := by
  intro n
  induction n with
  | zero => intro i T o; exact o
  | succ n ih =>
    intro i T o
    cases e : sMake (c i / 64) (c i / 8 % 8) (c i % 8) T with
    | none => rw [wkR_n e]; exact o
    | some U => rw [wkR_s e]; exact ih _ _ (sMake_ok o e).1
theorem wkR_rg {c : Int → Int} : ∀ (n : Nat) (i : Int) (T : zTb), 0 ≤ i → (wkR c n i T).1 = -1 ∨ (i ≤ (wkR c n i T).1 ∧ (wkR c n i T).1 < i + n) := by
  intro n
  induction n with
  | zero => intro i T o; exact Or.inl rfl
  | succ n ih =>
    intro i T o
    cases e : sMake (c i / 64) (c i / 8 % 8) (c i % 8) T with
    | none => rw [wkR_n e]; exact Or.inr ⟨Int.le_refl _, by show i < _; omega⟩
    | some U =>
      rw [wkR_s e]
      rcases ih (i + 1) U (by omega) with q | q
      · exact Or.inl q
      · exact Or.inr ⟨by omega, by omega⟩
/-! ways of the class -/
theorem a_X9_codeAt {w i : Int} {W : zWy} (tw : z_is G w 7) (k : isW h w W) (oW : okW W) (i0 : 0 ≤ i) (i1 : i < W.1) : z_Ei D M_X9_codeAt d [(2, w), (0, i)] G h (W.2 i) h := by
  have e1 := k.1
  have e2 := oW.2.1
  have e3 := oW.1
  refine z_begin mo_X9_codeAt rfl (nle rfl) (b_X9_codeAt_0 ⟨by omega, by omega⟩ (fun _ => tw) (fun _ => ⟨by omega, by omega⟩) (fun _ _ => i0) (fun _ _ => by omega) (fun c => by omega) (fun _ c => by omega) (fun _ _ => ⟨?_, rfl, rfl⟩))
  rw [k.2 i i0 i1]
theorem c_wbecome (hd : 1 ≤ d) {w v : Int} {W : zWy} (tw : z_is G w 7) (tv : z_is G v 7) (k : isW h v W) (oW : okW W) : z_CY D M_X9_become d [(2, w), (2, v)] G h (fun out G' h' => out = .inl none ∧ G' = G ∧ frB (fun a _ => a = w ∨ a = w + 1) h h' ∧ isW h' w W) := by
  intro hl
  have n1 : ¬ w + 1 = w := by omega
  have n2 : ¬ v = w + 1 := z_isne tv (hl.wi tw) (by decide)
  refine z_begin mo_X9_become rfl (nle rfl) (b_X9_become_0 hd tv tw (by omega) ⟨rfl, rfl, (frB.rf.c (fun j _ _ => Or.inr rfl)).w (Or.inl rfl), ⟨by rw [w_s]; exact k.1, fun i i0 i1 => ?_⟩⟩) hl
  have e2 := oW.2.1
  rw [w_na n1]
  unfold z_cp
  rw [if_pos ⟨rfl, by omega, by omega⟩, show (0 : Int) + (i - 0) = i by omega]
  exact k.2 i i0 i1
theorem c_wadd {w v : Int} {W : zWy} (tw : z_is G w 7) (k : isW h w W) (oW : okW W) (l12 : W.1 < 12) : z_CY D M_X9_add d [(2, w), (0, v)] G h (fun out G' h' => out = .inl (some (0, 1)) ∧ G' = G ∧ frB (fun a _ => a = w ∨ a = w + 1) h h' ∧ isW h' w (W.1 + 1, fun i => if i = W.1 then v else W.2 i)) := by
  have e1 := k.1
  have e3 := oW.1
  refine z_begin mo_X9_add rfl (nle rfl) (b_X9_add_0 tw ⟨by omega, by omega⟩ (fun _ => by omega) (fun c => c) (fun _ => ⟨rfl, rfl, (frB.rf.w (Or.inr rfl)).w (Or.inl rfl), ⟨by rw [w_s, e1], fun i i0 i1 => ?_⟩⟩) (fun c => by omega))
  have i1 : i < W.1 + 1 := i1
  rw [w_na (by omega), e1]
  dsimp only
  by_cases e : i = W.1
  · rw [e, w_s, if_pos rfl]
  · rw [w_nj e, if_neg e]; exact k.2 i i0 (by omega)
end Frb
