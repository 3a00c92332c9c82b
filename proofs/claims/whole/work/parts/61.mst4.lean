/-- what a step of the model may touch, once of and many are set -/
def frN (h h' : zH) : Prop := ∀ a j : Int, ¬ ((a = 89 ∨ a = 90) ∧ j = 10) → ¬ (a = 91 ∧ 720 ≤ j ∧ j < 792) → ¬ (92 ≤ a ∧ a ≤ 94) → h' a j = h a j
theorem frN.rf {h : zH} : frN h h := fun _ _ _ _ _ => rfl
theorem frN.tr {h h1 h2 : zH} (a : frN h h1) (b : frN h1 h2) : frN h h2 := fun x j n1 n2 n3 => (b x j n1 n2 n3).trans (a x j n1 n2 n3)
theorem frN.M {h h1 : zH} (a : frN h h1) : frM h h1 := fun x j _ n2 n3 n4 => a x j n2 n3 n4
theorem frN.w {h h1 : zH} (a : frN h h1) {b i v : Int} (hb : ((b = 89 ∨ b = 90) ∧ i = 10) ∨ (b = 91 ∧ 720 ≤ i ∧ i < 792) ∨ (92 ≤ b ∧ b ≤ 94)) : frN h (z_wr h1 b i v) := fun x j n1 n2 n3 => by
  unfold z_wr
  rw [if_neg]
  · exact a x j n1 n2 n3
  · rintro ⟨rfl, rfl⟩
    rcases hb with q | q | q
    · exact n1 q
    · exact n2 q
    · exact n3 q
theorem frN.f {h h1 : zH} (a : frN h h1) {v : Int} : frN h (zfr h1 91 (72 * 10) 72 v) := fun x j n1 n2 n3 => by
  unfold zfr
  rw [if_neg (fun q => n2 ⟨q.1, by omega, by omega⟩)]
  exact a x j n1 n2 n3
/-- inside a step of the model: the table in hand -/
def mS (h : zH) (k : Int) (T : zTb) : Prop := h 88 3 = k ∧ h 88 4 = T.1 ∧ isM h k T ∧ 0 ≤ k ∧ k < 12 ∧ ¬ k = 10
theorem isM_fr {h h' : zH} {k : Int} {T : zTb} (m : isM h k T) (k0 : 0 ≤ k) (k1 : k < 12) (ne : ¬ k = 10) (f : frN h h') : isM h' k T := by
  refine ⟨by rw [f 89 k (by omega) (by omega) (by omega)]; exact m.1, by rw [f 90 k (by omega) (by omega) (by omega)]; exact m.2.1, fun r c r0 r1 c0 c1 => ?_⟩
  rw [f 91 _ (by omega) (by omega) (by omega)]
  exact m.2.2 r c r0 r1 c0 c1
theorem mS.fr {h h' : zH} {k : Int} {T : zTb} (m : mS h k T) (f : frN h h') : mS h' k T := ⟨by rw [f 88 3 (by omega) (by omega) (by omega)]; exact m.1, by rw [f 88 4 (by omega) (by omega) (by omega)]; exact m.2.1, isM_fr m.2.2.1 m.2.2.2.1 m.2.2.2.2.1 m.2.2.2.2.2 f, m.2.2.2⟩
theorem mS.at {h : zH} {k r c : Int} {T : zTb} (m : mS h k T) (oT : okT T) (r0 : 0 ≤ r) (r1 : r < T.1) (c0 : 0 ≤ c) (c1 : c < T.2.1) : 0 ≤ 72 * h 88 3 + 6 * r + c ∧ 72 * h 88 3 + 6 * r + c < 864 ∧ h 91 (72 * h 88 3 + 6 * r + c) = T.2.2 r c ∧ z_in64 (h 91 (72 * h 88 3 + 6 * r + c)) := by
  obtain ⟨e, -, m3, k0, k1, -⟩ := m
  have sh := oT.1
  have oo := oT.2 r c r0 r1 c0 c1
  have ev : h 91 (72 * k + 6 * r + c) = T.2.2 r c := by rw [m3.2.2 r c r0 (by omega) c0 (by omega), nrm, if_pos ⟨r1, c1⟩]
  rw [e, ev]
  exact ⟨by omega, by omega, rfl, by omega, by omega⟩
theorem isN.all {h : zH} {k : Int} {T : zTb} {P : Int → Int → Prop} (n : isN h k T P) (hp : ∀ r c : Int, 0 ≤ r → r < 12 → 0 ≤ c → c < 6 → P r c) : isM h k T := ⟨n.1, n.2.1, fun r c a1 a2 a3 a4 => n.2.2 r c a1 a2 a3 a4 (hp r c a1 a2 a3 a4)⟩
theorem isN.imp {h : zH} {k : Int} {T : zTb} {P P' : Int → Int → Prop} (n : isN h k T P) (hp : ∀ r c : Int, 0 ≤ r → r < 12 → 0 ≤ c → c < 6 → P' r c → P r c) : isN h k T P' := ⟨n.1, n.2.1, fun r c a1 a2 a3 a4 p => n.2.2 r c a1 a2 a3 a4 (hp r c a1 a2 a3 a4 p)⟩
/-- not of the table -/
def ouT (U : zTb) (r c : Int) : Prop := ¬ (r < U.1 ∧ c < U.2.1)
theorem isN_new {h : zH} {U : zTb} : isN (zfr (z_wr (z_wr h 89 10 U.1) 90 10 U.2.1) 91 (72 * 10) 72 0) 10 U (ouT U) := by
  refine ⟨by rw [zfr_na (by omega), w_na (by omega), w_s], by rw [zfr_na (by omega), w_s], fun r c r0 r1 c0 c1 p => ?_⟩
  unfold zfr
  rw [if_pos ⟨rfl, by omega, by omega⟩, nrm, if_neg p]
theorem frN_new {h : zH} {R C : Int} : frN h (zfr (z_wr (z_wr h 89 10 R) 90 10 C) 91 (72 * 10) 72 0) := ((frN.rf.w (Or.inl ⟨Or.inl rfl, rfl⟩)).w (Or.inl ⟨Or.inr rfl, rfl⟩)).f
theorem isN_put {h : zH} {r c v : Int} {U : zTb} {P P' : Int → Int → Prop} (n : isN h 10 U P) (r0 : 0 ≤ r) (r1 : r < U.1) (c0 : 0 ≤ c) (c1 : c < U.2.1) (c6 : U.2.1 ≤ 6) (hv : v = U.2.2 r c) (hp : ∀ r' c' : Int, 0 ≤ r' → r' < 12 → 0 ≤ c' → c' < 6 → P' r' c' → P r' c' ∨ (r' = r ∧ c' = c)) : isN (z_wr h 91 (72 * 10 + 6 * r + c) v) 10 U P' := by
  refine ⟨by rw [w_na (by omega)]; exact n.1, by rw [w_na (by omega)]; exact n.2.1, fun r' c' a1 a2 a3 a4 p => ?_⟩
  by_cases e : r' = r ∧ c' = c
  · obtain ⟨rfl, rfl⟩ := e
    rw [w_s, nrm, if_pos ⟨r1, c1⟩]
    exact hv
  · rw [w_nj (by omega)]
    rcases hp r' c' a1 a2 a3 a4 p with q | q
    · exact n.2.2 r' c' a1 a2 a3 a4 q
    · exact absurd q e
/-- what comes of a step of the model -/
def pM (G : zG) (h : zH) (res : Option zTb) : zO → zG → zH → Prop := fun out G' h' => G' = G ∧ frN h h' ∧ match res with
  | some T => out = .inl (some (0, 1)) ∧ isM h' 10 T
  | none => out = .inl (some (0, 0))
section Mst4
variable {D : zD} {d : Nat} {G : zG} {h h0 : zH} {Q : zO → zG → zH → Prop}
/-! turns -/
theorem l_turns34 (hd : 3 ≤ d) {k x2 : Int} {T U : zTb} (m : mS h0 k T) (oT : okT T) (eU : U = (T.2.1, T.1, fun r c => T.2.2 c r)) (t6 : T.1 ≤ 6) (h2 : 0 ≤ x2) (h2' : x2 < T.1)
    (kk : ∀ h, frN h0 h → isN h 10 U (fun r c => ouT U r c ∨ c < x2 + 1) → z_Y D M_X13_turns d 24 [(0, 2, 88), (1, 0, T.2.1), (2, 0, x2 + 1)] [] G h Q) : ∀ (n : Nat) (x3 : Int) (h : zH), x3 = T.2.1 - n → 0 ≤ x3 → frN h0 h → isN h 10 U (fun r c => ouT U r c ∨ c < x2 ∨ (c = x2 ∧ r < x3)) →
    z_Y D M_X13_turns d 34 [(0, 2, 88), (1, 0, T.2.1), (2, 0, x2), (3, 0, x3)] [] G h Q := by
  have sh := oT.1
  have u1 : U.1 = T.2.1 := by rw [eU]
  have u2 : U.2.1 = T.1 := by rw [eU]
  have uv : ∀ r c : Int, U.2.2 r c = T.2.2 c r := fun r c => by rw [eU]
  intro n
  induction n with
  | zero =>
    intro x3 h e h3 f k
    refine b_X13_turns_34 hd ⟨by omega, by omega⟩ ⟨by omega, by omega⟩ (fun c => by omega) (fun c => by omega) (fun c => by omega) (fun c => by omega) (fun _ => kk h f (k.imp fun r c b1 b2 b3 b4 p => ?_)) (fun c => by omega)
    rcases p with p | p
    · exact Or.inl p
    · by_cases q : r < U.1 ∧ c < U.2.1
      · exact Or.inr (by omega)
      · exact Or.inl q
  | succ n ih =>
    intro x3 h e h3 f k
    have j1 := (m.fr f).at oT h2 h2' h3 (by omega)
    refine b_X13_turns_34 hd ⟨by omega, by omega⟩ ⟨by omega, by omega⟩ (fun c => j1.1) (fun c => j1.2.1) (fun c => by omega) (fun c => by omega) (fun c => by omega) (fun c => ih (x3 + 1) _ (by omega) (by omega) (f.w (Or.inr (Or.inl ⟨rfl, by omega, by omega⟩))) (isN_put k (by omega) (by omega) (by omega) (by omega) (by omega) (by rw [j1.2.2.1, uv]) fun r c b1 b2 b3 b4 p => ?_))
    rcases p with p | p | p
    · exact Or.inl (Or.inl p)
    · exact Or.inl (Or.inr (Or.inl p))
    · by_cases q : r = x3
      · exact Or.inr ⟨q, p.1⟩
      · exact Or.inl (Or.inr (Or.inr (by omega)))
theorem l_turns24 (hd : 3 ≤ d) {k : Int} {T U : zTb} (m : mS h0 k T) (oT : okT T) (eU : U = (T.2.1, T.1, fun r c => T.2.2 c r)) (t6 : T.1 ≤ 6) : ∀ (n : Nat) (x2 : Int) (h : zH), x2 = T.1 - n → 0 ≤ x2 → frN h0 h → isN h 10 U (fun r c => ouT U r c ∨ c < x2) →
    z_Y D M_X13_turns d 24 [(0, 2, 88), (1, 0, T.2.1), (2, 0, x2)] [] G h (pM G h0 (some U)) := by
  have sh := oT.1
  have u1 : U.1 = T.2.1 := by rw [eU]
  have u2 : U.2.1 = T.1 := by rw [eU]
  intro n
  induction n with
  | zero =>
    intro x2 h e h2 f k
    have e4 := (m.fr f).2.1
    refine b_X13_turns_24 ⟨by omega, by omega⟩ ⟨by omega, by omega⟩ (fun _ => ⟨rfl, f, rfl, k.all fun r c b1 b2 b3 b4 => ?_⟩) (fun c => by omega)
    by_cases q : r < U.1 ∧ c < U.2.1
    · exact Or.inr (by omega)
    · exact Or.inl q
  | succ n ih =>
    intro x2 h e h2 f k
    have e4 := (m.fr f).2.1
    refine b_X13_turns_24 ⟨by omega, by omega⟩ ⟨by omega, by omega⟩ (fun c => by omega) (fun c => l_turns34 hd m oT eU t6 h2 (by omega) (fun h' f' k' => ih (x2 + 1) h' (by omega) (by omega) f' k') T.2.1.toNat 0 h (by omega) (by omega) f (k.imp fun r c b1 b2 b3 b4 p => ?_))
    rcases p with p | p | p
    · exact Or.inl p
    · exact Or.inr p
    · omega
theorem m_turns (hd : 3 ≤ d) {k : Int} {T : zTb} (m : mS h k T) (oT : okT T) : z_CY D M_X13_turns d [(2, 88), (0, T.2.1)] G h (pM G h (sTurn T)) := by
  have sh := oT.1
  have e4 := m.2.1
  refine z_begin mo_X13_turns rfl (nle rfl) (b_X13_turns_0 ⟨by omega, by omega⟩ (fun c => ?_) (fun c => ?_))
  · rw [e4] at c ⊢
    rw [sTurn, zif1 c]
    refine z_Kv.of (d2 := d - 1) (by omega) (a_X13_shape 10 T.2.1 T.1 (by omega) (by omega)) ?_
    rintro out G' h1 hl1 ⟨r1, rfl, rfl⟩
    exact ⟨r1, b_X13_turns_22 (l_turns24 hd m oT rfl c T.1.toNat 0 _ (by omega) (by omega) frN_new ((isN_new (U := (T.2.1, T.1, fun r c => T.2.2 c r))).imp fun r c b1 b2 b3 b4 p => by
      rcases p with p | p
      · exact p
      · omega))⟩
  · rw [e4] at c
    rw [sTurn, zif0 c]
    exact ⟨rfl, frN.rf, rfl⟩
end Mst4
