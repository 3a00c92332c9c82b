/-! the model's ways, told -/
theorem tk_tk {α : Type} {A B : List α} : (A.take 60 ++ B).take 60 = (A ++ B).take 60 := by
  rw [List.take_append, List.take_append, List.take_take, List.length_take]
  by_cases z : A.length ≤ 60
  · rw [Nat.min_self, Nat.min_eq_right z]
  · rw [Nat.min_self, Nat.min_eq_left (show 60 ≤ A.length by omega), Nat.sub_self, show 60 - A.length = 0 by omega]
/-- the list that is told -/
def tdM (l : Int) (h : zH) (T : List (List Int)) : Prop := T.length ≤ 60 ∧ h 88 41 = (T.length : Int) ∧ (¬ T = [] → h 88 42 = l) ∧ ∀ (i : Nat) (p : List Int), T[i]? = some p → (p.length : Int) = l ∧ ∀ (k : Nat) (c : Int), p[k]? = some c → h 111 (4 * i + k) = c / 64 ∧ h 112 (4 * i + k) = c / 8 % 8 ∧ h 113 (4 * i + k) = c % 8
/-- the steps made so far -/
def rwM (h : zH) (p : List Int) : Prop := ∀ (k : Nat) (c : Int), p[k]? = some c → h 108 k = c / 64 ∧ h 109 k = c / 8 % 8 ∧ h 110 k = c % 8
def mTl (a j : Int) : Prop := mW a j ∨ (a = 88 ∧ (j = 41 ∨ j = 42)) ∨ (108 ≤ a ∧ a ≤ 113)
section Tel
variable {D : zD} {d : Nat} {G : zG} {h h0 h1 : zH} {Q : zO → zG → zH → Prop} {two : Prop} {W V B : zTb} {wi vi : Int} {lvl : Int → Int} {l : Int} {s : bS}
/-- the way at hand is told -/
theorem l_tel18 {T : List (List Int)} {p : List Int} (l0 : 0 ≤ l) (l3 : l ≤ 3) (lp : (p.length : Int) = l) (t60 : T.length < 60) (td : tdM l h0 T) (rw0 : rwM h0 p) : ∀ (m k : Nat) (g : zH), p.length = k + m → (∀ a j : Int, ¬ ((111 ≤ a ∧ a ≤ 113) ∧ 4 * (T.length : Int) ≤ j) → g a j = h0 a j) → (∀ (i : Nat) (c : Int), i < k → p[i]? = some c → g 111 (4 * T.length + i) = c / 64 ∧ g 112 (4 * T.length + i) = c / 8 % 8 ∧ g 113 (4 * T.length + i) = c % 8) →
    z_Y D M_X13_tellWays d 18 [(0, 2, 88), (3, 0, l), (4, 0, (k : Int))] [] G g (fun out G' h' => out = .inl none ∧ G' = G ∧ frB mTl h0 h' ∧ tdM l h' (T ++ [p]) ∧ ∀ a j : Int, 108 ≤ a → a ≤ 110 → h' a j = h0 a j) := by
  obtain ⟨d1, d2, d3, d4⟩ := td
  intro m
  induction m with
  | zero =>
    intro k g e f fn
    have g41 : g 88 41 = (T.length : Int) := (f 88 41 (by omega)).trans d2
    refine b_X13_tellWays_18 ⟨by omega, by omega⟩ ⟨by omega, by omega⟩ (fun c => by omega) (fun c => by omega) (fun c => by omega) (fun c => by omega) (fun _ => ?_) (fun c => by omega)
    rw [g41]
    have o : ∀ a j : Int, ¬ a = 88 → z_wr (z_wr g 88 42 l) 88 41 ((T.length : Int) + 1) a j = g a j := fun a j q => by rw [w_na q, w_na q]
    refine ⟨rfl, rfl, fun a j q => ?_, ⟨by rw [List.length_append]; show T.length + 1 ≤ 60; omega, by rw [w_s, List.length_append]; show _ = ((T.length + 1 : Nat) : Int); omega, fun _ => by rw [w_nj (by omega), w_s], fun i q hq => ?_⟩, fun a j a1 a2 => by rw [o a j (by omega)]; exact f a j (by omega)⟩
    · unfold mTl at q
      have : z_wr (z_wr g 88 42 l) 88 41 ((T.length : Int) + 1) a j = g a j := by unfold z_wr; rw [if_neg (by omega), if_neg (by omega)]
      rw [this]; exact f a j (by omega)
    · by_cases z : i < T.length
      · rw [List.getElem?_append_left z] at hq
        obtain ⟨y1, y2⟩ := d4 i q hq
        refine ⟨y1, fun k' c hc => ?_⟩
        have kl := (List.getElem?_eq_some_iff.mp hc).1
        rw [o 111 _ (by omega), o 112 _ (by omega), o 113 _ (by omega), f 111 _ (by omega), f 112 _ (by omega), f 113 _ (by omega)]
        exact y2 k' c hc
      · rw [List.getElem?_append_right (by omega)] at hq
        have l2 : i - T.length < 1 := (List.getElem?_eq_some_iff.mp hq).1
        rw [show i - T.length = 0 by omega] at hq
        cases hq
        have ei : i = T.length := by omega
        subst ei
        refine ⟨lp, fun k' c hc => ?_⟩
        have kl := (List.getElem?_eq_some_iff.mp hc).1
        rw [o 111 _ (by omega), o 112 _ (by omega), o 113 _ (by omega)]
        exact fn k' c (by omega) hc
  | succ m ih =>
    intro k g e f fn
    have g41 : g 88 41 = (T.length : Int) := (f 88 41 (by omega)).trans d2
    have kl : k < p.length := by omega
    have hk : p[k]? = some p[k] := List.getElem?_eq_getElem kl
    obtain ⟨v1, v2, v3⟩ := rw0 k _ hk
    refine b_X13_tellWays_18 ⟨by omega, by omega⟩ ⟨by omega, by omega⟩ (fun _ => by omega) (fun _ => by omega) (fun _ => by rw [g41]; omega) (fun _ => by rw [g41]; omega) (fun c => by omega) (fun _ => ?_)
    rw [g41, f 108 _ (by omega), f 109 _ (by omega), f 110 _ (by omega), v1, v2, v3, show (k : Int) + 1 = ((k + 1 : Nat) : Int) by omega]
    refine ih (k + 1) _ (by omega) (fun a j q => ?_) (fun i c hi hc => ?_)
    · have : z_wr (z_wr (z_wr g 111 (4 * T.length + k) (p[k] / 64)) 112 (4 * T.length + k) (p[k] / 8 % 8)) 113 (4 * T.length + k) (p[k] % 8) a j = g a j := by unfold z_wr; rw [if_neg (by omega), if_neg (by omega), if_neg (by omega)]
      rw [this]; exact f a j q
    · by_cases z : i = k
      · subst z
        rw [hk] at hc
        cases hc
        exact ⟨by rw [w_na (by omega), w_na (by omega), w_s], by rw [w_na (by omega), w_s], by rw [w_s]⟩
      · rw [w_na (by omega), w_na (by omega), w_nj (by omega), w_na (by omega), w_nj (by omega), w_na (by omega), w_nj (by omega), w_na (by omega), w_na (by omega)]
        exact fn i c (by omega) hc
end Tel
