/-! the model's tables -/
def nrm (T : zTb) (r c : Int) : Int := if r < T.1 ∧ c < T.2.1 then T.2.2 r c else 0
def isM (h : zH) (k : Int) (T : zTb) : Prop := h 89 k = T.1 ∧ h 90 k = T.2.1 ∧ ∀ r c : Int, 0 ≤ r → r < 12 → 0 ≤ c → c < 6 → h 91 (72 * k + 6 * r + c) = nrm T r c
def isN (h : zH) (k : Int) (T : zTb) (P : Int → Int → Prop) : Prop := h 89 k = T.1 ∧ h 90 k = T.2.1 ∧ ∀ r c : Int, 0 ≤ r → r < 12 → 0 ≤ c → c < 6 → P r c → h 91 (72 * k + 6 * r + c) = nrm T r c
/-- what a step of the model may touch -/
def frM (h h' : zH) : Prop := ∀ a j : Int, ¬ (a = 88 ∧ (j = 3 ∨ j = 4)) → ¬ ((a = 89 ∨ a = 90) ∧ j = 10) → ¬ (a = 91 ∧ 720 ≤ j ∧ j < 792) → ¬ (92 ≤ a ∧ a ≤ 94) → h' a j = h a j
theorem frM.rf {h : zH} : frM h h := fun _ _ _ _ _ _ => rfl
theorem frM.tr {h h1 h2 : zH} (a : frM h h1) (b : frM h1 h2) : frM h h2 := fun x j n1 n2 n3 n4 => (b x j n1 n2 n3 n4).trans (a x j n1 n2 n3 n4)
noncomputable def zfr (h : zH) (a s n v : Int) : zH := fun b j => if b = a ∧ s ≤ j ∧ j < s + n then v else h b j
theorem zfr_0 {h : zH} {a s v : Int} : zfr h a s 0 v = h := by
  funext b j
  unfold zfr
  rw [if_neg (fun q => by omega)]
theorem zfr_s {h : zH} {a s n v : Int} (hn : 0 ≤ n) : z_wr (zfr h a s n v) a (s + n) v = zfr h a s (n + 1) v := by
  funext b j
  unfold z_wr zfr
  by_cases e : b = a
  · subst e
    by_cases e2 : j = s + n
    · rw [if_pos ⟨rfl, e2⟩, if_pos ⟨rfl, by omega⟩]
    · rw [if_neg (fun q => e2 q.2)]
      by_cases e3 : s ≤ j ∧ j < s + n
      · rw [if_pos ⟨rfl, e3⟩, if_pos ⟨rfl, by omega⟩]
      · rw [if_neg (fun q => e3 q.2), if_neg (fun q => e3 ⟨q.2.1, by omega⟩)]
  · rw [if_neg (fun q => e q.1), if_neg (fun q => e q.1), if_neg (fun q => e q.1)]
theorem zfr_na {h : zH} {a s n v b j : Int} (hb : ¬ b = a) : zfr h a s n v b j = h b j := by
  unfold zfr; rw [if_neg (fun q => hb q.1)]
section Mst
variable {D : zD} {d : Nat} {G : zG} {h h0 : zH} {Q : zO → zG → zH → Prop}
theorem a_X13_cellAt (hd : 2 ≤ d) (r c k v : Int) (hk : h 88 3 = k) (h0 : 0 ≤ 72 * k + 6 * r + c) (h1 : 72 * k + 6 * r + c < 864) (hv : h 91 (72 * k + 6 * r + c) = v) : z_El D M_X13_cellAt d [(2, 88), (0, r), (0, c)] G h v h := by
  subst hk; subst hv
  exact z_begin mo_X13_cellAt rfl (nle rfl) (b_X13_cellAt_0 hd h0 h1 ⟨rfl, rfl, rfl⟩)
theorem a_X13_put (hd : 2 ≤ d) (r c v : Int) (h0 : 0 ≤ 72 * 10 + 6 * r + c) (h1 : 72 * 10 + 6 * r + c < 864) : z_Ev D M_X13_put d [(2, 88), (0, r), (0, c), (1, v)] G h (z_wr h 91 (72 * 10 + 6 * r + c) v) :=
  z_begin mo_X13_put rfl (nle rfl) (b_X13_put_0 hd h0 h1 ⟨rfl, rfl, rfl⟩)
theorem l_mshape {k : Int} (k0 : 0 ≤ k) (k1 : k < 12) : ∀ (m : Nat) (x : Int), x = 72 - m → 0 ≤ x → z_Y D M_X13_shape d 17 [(0, 2, 88), (1, 0, k), (4, 0, x)] [] G (zfr h 91 (72 * k) x 0) (fun o G' h' => o = .inl none ∧ G' = G ∧ h' = zfr h 91 (72 * k) 72 0) := by
  intro m
  induction m with
  | zero =>
    intro x e x0
    exact b_X13_shape_17 ⟨by omega, by omega⟩ (fun c => by omega) (fun c => by omega) (fun _ => ⟨rfl, rfl, by rw [show x = 72 by omega]⟩) (fun c => by omega)
  | succ m ih =>
    intro x e x0
    refine b_X13_shape_17 ⟨by omega, by omega⟩ (fun c => by omega) (fun c => by omega) (fun c => by omega) (fun c => ?_)
    rw [zfr_s x0]
    exact ih (x + 1) (by omega) (by omega)
theorem a_X13_shape (k r c : Int) (k0 : 0 ≤ k) (k1 : k < 12) : z_Ev D M_X13_shape d [(2, 88), (0, k), (0, r), (0, c)] G h (zfr (z_wr (z_wr h 89 k r) 90 k c) 91 (72 * k) 72 0) := by
  have q := l_mshape (D := D) (d := d) (G := G) (h := z_wr (z_wr h 89 k r) 90 k c) k0 k1 72 0 (by omega) (by omega)
  rw [zfr_0] at q
  exact z_begin mo_X13_shape rfl (nle rfl) (b_X13_shape_0 k0 k1 q)
theorem l_mbecome {k u : Int} (k0 : 0 ≤ k) (k1 : k < 12) (u0 : 0 ≤ u) (u1 : u < 12) (ne : ¬ k = u) : ∀ (m : Nat) (x : Int), x = 72 - m → 0 ≤ x → z_Y D M_X13_become d 26 [(0, 2, 88), (1, 0, k), (2, 0, u), (3, 0, x)] [] G (z_cp h 91 (72 * u) 91 (72 * k) x) (fun o G' h' => o = .inl none ∧ G' = G ∧ h' = z_cp h 91 (72 * u) 91 (72 * k) 72) := by
  intro m
  induction m with
  | zero =>
    intro x e x0
    exact b_X13_become_26 ⟨by omega, by omega⟩ (fun c => by omega) (fun c => by omega) (fun c => by omega) (fun c => by omega) (fun _ => ⟨rfl, rfl, by rw [show x = 72 by omega]⟩) (fun c => by omega)
  | succ m ih =>
    intro x e x0
    refine b_X13_become_26 ⟨by omega, by omega⟩ (fun c => by omega) (fun c => by omega) (fun c => by omega) (fun c => by omega) (fun c => by omega) (fun c => ?_)
    have st : z_wr (z_cp h 91 (72 * u) 91 (72 * k) x) 91 (72 * k + x) (z_cp h 91 (72 * u) 91 (72 * k) x 91 (72 * u + x)) = z_cp h 91 (72 * u) 91 (72 * k) (x + 1) := by
      funext b j
      unfold z_wr z_cp
      by_cases e1 : b = 91
      · subst e1
        by_cases e2 : j = 72 * k + x
        · rw [if_pos ⟨rfl, e2⟩, if_neg (fun q => by omega), if_pos ⟨rfl, by omega, by omega⟩, e2, show 72 * u + (72 * k + x - 72 * k) = 72 * u + x by omega]
        · rw [if_neg (fun q => e2 q.2)]
          by_cases e3 : 72 * k ≤ j ∧ j < 72 * k + x
          · rw [if_pos ⟨rfl, e3⟩, if_pos ⟨rfl, by omega, by omega⟩]
          · rw [if_neg (fun q => e3 q.2), if_neg (fun q => e3 ⟨q.2.1, by omega⟩)]
      · rw [if_neg (fun q => e1 q.1), if_neg (fun q => e1 q.1), if_neg (fun q => e1 q.1)]
    rw [st]
    exact ih (x + 1) (by omega) (by omega)
theorem a_X13_become (k u : Int) (k0 : 0 ≤ k) (k1 : k < 12) (u0 : 0 ≤ u) (u1 : u < 12) (ne : ¬ k = u) : z_Ev D M_X13_become d [(2, 88), (0, k), (0, u)] G h (z_cp (z_wr (z_wr h 89 k (h 89 u)) 90 k (h 90 u)) 91 (72 * u) 91 (72 * k) 72) := by
  have q := l_mbecome (D := D) (d := d) (G := G) (h := z_wr (z_wr h 89 k (h 89 u)) 90 k (h 90 u)) k0 k1 u0 u1 ne 72 0 (by omega) (by omega)
  have e0 : z_cp (z_wr (z_wr h 89 k (h 89 u)) 90 k (h 90 u)) 91 (72 * u) 91 (72 * k) 0 = z_wr (z_wr h 89 k (h 89 u)) 90 k (h 90 u) := cp_0
  rw [e0] at q
  exact z_begin mo_X13_become rfl (nle rfl) (b_X13_become_0 u0 u1 k0 k1 q)
theorem isM_bec {k u : Int} {T : zTb} (k0 : 0 ≤ k) (k1 : k < 12) (ne : ¬ k = u) (m : isM h u T) : isM (z_cp (z_wr (z_wr h 89 k (h 89 u)) 90 k (h 90 u)) 91 (72 * u) 91 (72 * k) 72) k T := by
  refine ⟨by rw [c_na (by omega), w_na (by omega), w_s]; exact m.1, by rw [c_na (by omega), w_s]; exact m.2.1, fun r c r0 r1 c0 c1 => ?_⟩
  unfold z_cp
  rw [if_pos ⟨rfl, by omega, by omega⟩, w_na (by omega), w_na (by omega), show 72 * u + (72 * k + 6 * r + c - 72 * k) = 72 * u + 6 * r + c by omega]
  exact m.2.2 r c r0 r1 c0 c1
/-- hasAny -/
theorem l_any14 (hd : 2 ≤ d) {k x : Int} {T : zTb} (m : isM h k T) (oT : okT T) (k0 : 0 ≤ k) (k1 : k < 12) (x0 : 0 ≤ x) (x1 : x < T.1)
    (kk : (∀ c : Int, 0 ≤ c → c < T.2.1 → ¬ T.2.2 x c = -1) → z_Y D M_X13_hasAny d 2 [(0, 2, 88), (1, 0, k), (2, 0, x + 1)] [] G h Q) (k2 : (∃ c : Int, 0 ≤ c ∧ c < T.2.1 ∧ T.2.2 x c = -1) → Q (.inl (some (0, 1))) G h) : ∀ (mm : Nat) (y : Int), y = T.2.1 - mm → 0 ≤ y → (∀ c : Int, 0 ≤ c → c < y → ¬ T.2.2 x c = -1) →
    z_Y D M_X13_hasAny d 14 [(0, 2, 88), (1, 0, k), (2, 0, x), (3, 0, y)] [] G h Q := by
  have sh := oT.1
  have e2 := m.2.1
  intro mm
  induction mm with
  | zero =>
    intro y e y0 hs
    exact b_X13_hasAny_14 hd k0 k1 ⟨by omega, by omega⟩ ⟨by omega, by omega⟩ (fun c => by omega) (fun c => by omega) (fun c => by omega) (fun _ => kk fun c c0 c1 => hs c c0 (by omega)) (fun c => by omega) (fun c => by omega)
  | succ mm ih =>
    intro y e y0 hs
    have ev : h 91 (72 * k + 6 * x + y) = T.2.2 x y := by rw [m.2.2 x y x0 (by omega) y0 (by omega), nrm, if_pos ⟨x1, by omega⟩]
    have o1 := oT.2 x y x0 x1 y0 (by omega)
    refine b_X13_hasAny_14 hd k0 k1 ⟨by omega, by omega⟩ ⟨by omega, by omega⟩ (fun c => by omega) (fun c => by omega) (fun c => by rw [ev]; exact ⟨by omega, by omega⟩) (fun c => by omega) (fun c c2 => ih (y + 1) (by omega) (by omega) fun q q0 q1 => ?_) (fun c c2 => k2 ⟨y, y0, by omega, by rw [← ev]; exact Classical.not_not.mp c2⟩)
    rw [ev] at c2
    by_cases e5 : q = y
    · rw [e5]; exact c2
    · exact hs q q0 (by omega)
theorem l_any2 (hd : 2 ≤ d) {k : Int} {T : zTb} (m : isM h k T) (oT : okT T) (k0 : 0 ≤ k) (k1 : k < 12) : ∀ (mm : Nat) (x : Int), x = T.1 - mm → 0 ≤ x → (∀ r c : Int, 0 ≤ r → r < x → 0 ≤ c → c < T.2.1 → ¬ T.2.2 r c = -1) →
    z_Y D M_X13_hasAny d 2 [(0, 2, 88), (1, 0, k), (2, 0, x)] [] G h (fun o G' h' => o = .inl (some (0, z_b (¬ noA T))) ∧ G' = G ∧ h' = h) := by
  have sh := oT.1
  have e1 := m.1
  intro mm
  induction mm with
  | zero =>
    intro x e x0 hs
    refine b_X13_hasAny_2 k0 k1 ⟨by omega, by omega⟩ ⟨by omega, by omega⟩ (fun _ => ⟨?_, rfl, rfl⟩) (fun c => by omega)
    rw [z_b0 (fun w => w fun r c b1 b2 b3 b4 => by
      have o1 := oT.2 r c b1 b2 b3 b4
      have := hs r c b1 (by omega) b3 b4
      omega)]
  | succ mm ih =>
    intro x e x0 hs
    refine b_X13_hasAny_2 k0 k1 ⟨by omega, by omega⟩ ⟨by omega, by omega⟩ (fun c => by omega) (fun c => l_any14 hd m oT k0 k1 x0 (by omega) (fun w => ih (x + 1) (by omega) (by omega) fun r c b1 b2 b3 b4 => ?_) (fun ⟨c, c0, c1, c2⟩ => ⟨?_, rfl, rfl⟩) T.2.1.toNat 0 (by omega) (by omega) (fun c c0 c1 => by omega))
    · by_cases e5 : r = x
      · rw [e5]; exact w c b3 b4
      · exact hs r c b1 (by omega) b3 b4
    · rw [z_b1 (fun w => by have := w x c x0 (by omega) c0 c1; omega)]
theorem a_X13_hasAny (hd : 2 ≤ d) {k : Int} {T : zTb} (m : isM h k T) (oT : okT T) (k0 : 0 ≤ k) (k1 : k < 12) : z_Ei D M_X13_hasAny d [(2, 88), (0, k)] G h (z_b (¬ noA T)) h := by
  have sh := oT.1
  exact z_begin mo_X13_hasAny rfl (nle rfl) (b_X13_hasAny_0 (l_any2 hd m oT k0 k1 T.1.toNat 0 (by omega) (by omega) (fun r c a b => by omega)))
end Mst
