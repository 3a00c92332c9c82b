/-! the model's take -/
section Take
variable {D : zD} {d : Nat} {G : zG} {h h0 h1 : zH}
def mTk (w a j : Int) : Prop := (a = 95 ∧ j = w) ∨ (96 ≤ a ∧ a ≤ 98 ∧ 12 * w ≤ j ∧ j < 12 * w + 12)
theorem l_take40 {w l : Int} {i : Nat} {p : List Int} (w0 : 0 ≤ w) (w8 : w ≤ 7) (i60 : i < 60) (l3 : l ≤ 3) (lp : (p.length : Int) = l) (e42 : h0 88 42 = l) (pr : ∀ (k : Nat) (c : Int), p[k]? = some c → h0 111 (4 * i + k) = c / 64 ∧ h0 112 (4 * i + k) = c / 8 % 8 ∧ h0 113 (4 * i + k) = c % 8) : ∀ (m k : Nat) (g : zH), p.length = k + m → frB (mTk w) h0 g → g 95 w = l → (∀ (j : Nat) (c : Int), j < k → p[j]? = some c → g 96 (12 * w + j) = c / 64 ∧ g 97 (12 * w + j) = c / 8 % 8 ∧ g 98 (12 * w + j) = c % 8) →
    z_Y D M_X13_take d 40 [(0, 2, 88), (1, 0, (i : Int)), (2, 0, w), (3, 0, (k : Int))] [] G g (fun out G' h' => out = .inl (some (0, l)) ∧ G' = G ∧ frB (mTk w) h0 h' ∧ isV h' w (pW p)) := by
  intro m
  induction m with
  | zero =>
    intro k g e f e95 fn
    have g42 : g 88 42 = l := by rw [f 88 42 (by unfold mTk; omega)]; exact e42
    refine b_X13_take_40 ⟨by omega, by omega⟩ (by rw [g42]; exact ⟨by omega, by omega⟩) (fun c => absurd (by rw [g42]; omega) c) (fun c => absurd (by rw [g42]; omega) c) (fun c => absurd (by rw [g42]; omega) c) (fun c => absurd (by rw [g42]; omega) c) (fun _ => ⟨by rw [g42], rfl, f, by rw [e95]; exact lp.symm, fun j j0 j1 => ?_⟩) (fun c => absurd (by rw [g42]; omega) c)
    have j1 : j < (p.length : Int) := j1
    have jl : j.toNat < p.length := by omega
    have hj : p[j.toNat]? = some p[j.toNat] := List.getElem?_eq_getElem jl
    have q := fn j.toNat _ (by omega) hj
    rw [show ((j.toNat : Nat) : Int) = j by omega] at q
    have eg : (pW p).2 j = p[j.toNat] := by
      show p.getD j.toNat 0 = _
      rw [List.getD_eq_getElem?_getD, hj]; rfl
    rw [eg]; exact q
  | succ m ih =>
    intro k g e f e95 fn
    have g42 : g 88 42 = l := by rw [f 88 42 (by unfold mTk; omega)]; exact e42
    have kl : k < p.length := by omega
    have hk : p[k]? = some p[k] := List.getElem?_eq_getElem kl
    obtain ⟨v1, v2, v3⟩ := pr k _ hk
    refine b_X13_take_40 ⟨by omega, by omega⟩ (by rw [g42]; exact ⟨by omega, by omega⟩) (fun _ => by omega) (fun _ => by omega) (fun _ => by omega) (fun _ => by omega) (fun c => absurd c (by rw [g42]; omega)) (fun _ => ?_)
    rw [f 111 _ (by unfold mTk; omega), f 112 _ (by unfold mTk; omega), f 113 _ (by unfold mTk; omega), v1, v2, v3, show (k : Int) + 1 = ((k + 1 : Nat) : Int) by omega]
    refine ih (k + 1) _ (by omega) (((f.w (Or.inr (by omega))).w (Or.inr (by omega))).w (Or.inr (by omega))) (by rw [w_na (by omega), w_na (by omega), w_na (by omega)]; exact e95) (fun j c hj hc => ?_)
    by_cases z : j = k
    · subst z
      rw [hk] at hc
      cases hc
      exact ⟨by rw [w_na (by omega), w_na (by omega), w_s], by rw [w_na (by omega), w_s], by rw [w_s]⟩
    · rw [w_na (by omega), w_na (by omega), w_nj (by omega), w_na (by omega), w_nj (by omega), w_na (by omega), w_nj (by omega), w_na (by omega), w_na (by omega)]
      exact fn j c (by omega) hc
theorem m_take (hd : 3 ≤ d) {w l : Int} {i : Nat} {T : List (List Int)} {p : List Int} (w0 : 0 ≤ w) (w8 : w ≤ 7) (l3 : l ≤ 3) (td : tdM l h T) (hp : T[i]? = some p) : z_CY D M_X13_take d [(2, 88), (0, (i : Int)), (0, w)] G h (fun out G' h' => out = .inl (some (0, l)) ∧ G' = G ∧ frB (mTk w) h h' ∧ isV h' w (pW p)) := by
  obtain ⟨d1, d2, d3, d4⟩ := td
  have il := (List.getElem?_eq_some_iff.mp hp).1
  obtain ⟨lp, pr⟩ := d4 i p hp
  have e42 := d3 (fun q => by rw [q] at il; cases il)
  refine z_begin mo_X13_take rfl (nle rfl) (b_X13_take_0 hd ⟨by omega, by omega⟩ (fun _ => ⟨by omega, by omega⟩) (fun _ => by rw [d2]; exact ⟨by omega, by omega⟩) (fun _ => ⟨by omega, by omega⟩) (fun _ => by rw [d2]; exact ⟨by omega, by omega⟩) (fun _ _ => w0) (fun _ _ => by omega) (fun _ _ => ?_) (fun _ c => absurd ⟨by omega, by omega⟩ c) (fun c => absurd ⟨w0, w8⟩ c))
  rw [e42]
  exact l_take40 (h0 := h) w0 w8 (by omega) l3 lp e42 pr p.length 0 _ (by omega) (frB.rf.w (Or.inl ⟨rfl, rfl⟩)) w_s (fun j c hj => by omega)
end Take
