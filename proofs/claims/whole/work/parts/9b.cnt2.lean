/-! countWays, whole -/
section Cnt2
variable {D : zD} {d : Nat} {G : zG} {h h0 h1 : zH} {Q : zO → zG → zH → Prop} {two : Prop} {W V B : zTb} {wi vi : Int} {lvl : Int → Int} {l : Int} {s : bS}
theorem cap_1 : cap 1 = 1 := by unfold cap; rw [if_pos (by show ((1 : Nat) : Int) < 1000000; omega)]; rfl
theorem l_cw45 (hd : 9 ≤ d) (o : lvO lvl l) (e0 : lvl (l + 1) = s.1) (tg : tgB two lvl l s) (l3 : l ≤ 3)
    (K : ∀ g : zH, ctI two W V B wi vi lvl l s h0 (-1) 0 g → Q (.inl none) G (z_wr g 88 31 (g 105 0))) :
    ∀ (m : Nat) (k : Int) (g : zH), k + 1 = m → k < l → (∀ x : Int, x ≤ lvl k → ctI two W V B wi vi lvl l s h0 k x g) → z_Y D M_X13_countWays d 45 [(0, 2, 88), (2, 0, k)] [] G g Q := by
  intro m
  induction m with
  | zero =>
    intro k g e kl c
    refine b_X13_countWays_45 ⟨by omega, by omega⟩ (fun c => by omega) (fun c => by omega) (fun _ => K g ?_) (fun c => by omega)
    have c := c (lvl k) (Int.le_refl _)
    refine ⟨c.1, c.2.1, c.2.2.1, fun l' a b t t0 t1 q => c.2.2.2 l' a b t t0 t1 (Or.inl (by omega))⟩
  | succ m ih =>
    intro k g e kl c
    have c0 := c (lvl k) (Int.le_refl _)
    refine b_X13_countWays_45 ⟨by omega, by omega⟩ (fun _ => by omega) (fun _ => by omega) (fun c => by omega) (fun _ => ?_)
    rw [c0.2.1 k (by omega) (by omega)]
    have lm := o.2.2 k (by omega) (by omega)
    refine l_cw56 hd o e0 tg l3 (by omega) kl (fun g' c' => ?_) (lvl (k + 1) - lvl k).toNat (lvl k) g (by omega) (Int.le_refl _) c0
    refine ih (k + -1) g' (by omega) (by omega) fun x xl => ⟨c'.1, c'.2.1, c'.2.2.1, fun l' a b t t0 t1 q => ?_⟩
    have q : k - 1 < l' := by
      rcases q with q | q
      · omega
      · exfalso
        obtain ⟨q1, q2⟩ := q
        rw [q1] at t0
        omega
    refine c'.2.2.2 l' a b t t0 t1 ?_
    by_cases z : l' = k
    · right; subst z; exact ⟨rfl, t1⟩
    · left; omega
theorem l_cw7 (hd : 9 ≤ d) (o : lvO lvl l) (e0 : lvl (l + 1) = s.1) (tg : tgB two lvl l s) (l3 : l ≤ 3)
    (K : ∀ g : zH, ctI two W V B wi vi lvl l s h0 (-1) 0 g → Q (.inl none) G (z_wr g 88 31 (g 105 0))) :
    ∀ (m : Nat) (x : Int) (g : zH), s.1 = x + m → lvl l ≤ x → ctI two W V B wi vi lvl l s h0 l x g → z_Y D M_X13_countWays d 7 [(0, 2, 88), (1, 0, l), (2, 0, x)] [] G g Q := by
  have o1 := o.1
  intro m
  induction m with
  | zero =>
    intro x g e x0 c
    have s15 := c.1.1.1
    have lb := lv_bd o e0 s15.2.2 l (by omega) (by omega)
    refine b_X13_countWays_7 ⟨by omega, by omega⟩ (by rw [s15.1]; exact ⟨by omega, by omega⟩) (fun c => absurd (by rw [s15.1]; omega) c) (fun c => absurd (by rw [s15.1]; omega) c) (fun c => absurd (by rw [s15.1]; omega) c) (fun _ => ?_) (fun c => absurd (by rw [s15.1]; omega) c) (fun c => absurd (by rw [s15.1]; omega) c)
    refine l_cw45 hd o e0 tg l3 K l.toNat (l - 1) g (by omega) (by omega) fun y yl => ⟨c.1, c.2.1, c.2.2.1, fun l' a b t t0 t1 q => ?_⟩
    have el : l' = l := by
      rcases q with q | q
      · omega
      · exfalso
        obtain ⟨q1, q2⟩ := q
        rw [q1] at t0
        omega
    subst el
    exact c.2.2.2 l' a b t t0 t1 (Or.inr ⟨rfl, by omega⟩)
  | succ m ih =>
    intro x g e x0 c
    have s15 := c.1.1.1
    have lb := lv_bd o e0 s15.2.2 l (by omega) (by omega)
    have v := c.1.2.2.2.2.2.1 x (by omega) (by omega)
    have zb := z_b01 (eW W V (s.2 x))
    have fin : ∀ y : Int, y = z_b (eW W V (s.2 x)) → z_Y D M_X13_countWays d 34 [(0, 2, 88), (1, 0, l), (2, 0, x)] [(0, y), (0, x), (2, 105)] G g Q := by
      intro y ey
      refine b_X13_countWays_34 (by omega) (by omega) (ih (x + 1) _ (by omega) (by omega) ⟨msI_105 c.1, fun j j0 j1 => by rw [w_na (by omega)]; exact c.2.1 j j0 j1, c.2.2.1.w (Or.inr rfl), fun l' a b t t0 t1 q => ?_⟩)
      by_cases z : t = x
      · subst z
        have el : l' = l := by
          rcases q with q | q
          · omega
          · exact q.1
        subst el
        rw [w_s, ey, Int.sub_self]
        unfold pL
        show _ = cap (if eE (eW W V) s t = true then [[]] else [] : List (List Int)).length
        by_cases y : eW W V (s.2 t)
        · rw [z_b1 y, if_pos (show eE (eW W V) s t = true from zB1.2 y)]; exact cap_1.symm
        · rw [z_b0 y, if_neg (show ¬ eE (eW W V) s t = true from fun w => y (zB1.1 w))]; exact ((cap_z _).2 rfl).symm
      · rw [w_nj z]; exact c.2.2.2 l' a b t t0 t1 (by omega)
    refine b_X13_countWays_7 ⟨by omega, by omega⟩ (by rw [s15.1]; exact ⟨by omega, by omega⟩) (fun _ => by omega) (fun _ => by omega) (fun _ => by rw [v]; exact ⟨by omega, by omega⟩) (fun c => absurd c (by rw [s15.1]; omega)) (fun _ w => fin 0 (by rw [v] at w; omega)) (fun _ w => fin 1 (by rw [v] at w; omega))
/-- what countWays leaves -/
theorem m_countWays (hd : 9 ≤ d) (ms : msI two W V B wi vi h s) (lr : lvR h lvl l) (o : lvO lvl l) (e0 : lvl (l + 1) = s.1) (tg : tgB two lvl l s) (l3 : l ≤ 3) (L1 : 0 < lvl 1) : z_CY D M_X13_countWays d [(2, 88), (0, l)] G h (fun out G' h' => out = .inl none ∧ G' = G ∧ frB (fun a j => mC a j ∨ (a = 88 ∧ j = 31)) h h' ∧ h' 88 31 = cap (pL two W V lvl l s l.toNat 0) ∧ ∀ l' : Int, 0 ≤ l' → l' ≤ l → ∀ t : Int, lvl l' ≤ t → t < lvl (l' + 1) → h' 105 t = cap (pL two W V lvl l s (l - l').toNat t)) := by
  have o1 := o.1
  have lm := o.2.2 l o.1 (Int.le_refl _)
  refine z_begin mo_X13_countWays rfl (nle rfl) (b_X13_countWays_0 o1 (by omega) ?_)
  rw [lr l o1 (by omega)]
  refine l_cw7 (h0 := h) hd o e0 tg l3 (fun g c => ⟨rfl, rfl, ?_, ?_, fun l' a b t t0 t1 => ?_⟩) (s.1 - lvl l).toNat (lvl l) h (by omega) (Int.le_refl _) ⟨ms, lr, frB.rf, fun l' a b t t0 t1 q => by
    rcases q with q | q
    · omega
    · obtain ⟨q1, q2⟩ := q
      rw [q1] at t0; omega⟩
  · exact (c.2.2.1.imp fun _ _ q => Or.inl q).w (Or.inr ⟨rfl, rfl⟩)
  · have q := c.2.2.2 0 (by omega) o1 0 (by rw [o.2.1]; exact Int.le_refl _) L1 (Or.inl (by omega))
    rw [w_s, q, Int.sub_zero]
  · rw [w_na (by omega)]
    exact c.2.2.2 l' a b t t0 t1 (Or.inl (by omega))
end Cnt2
