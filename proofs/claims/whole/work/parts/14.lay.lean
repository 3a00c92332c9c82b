/-! the layout: the cells that the two constructors make, by address (tag, length); what their final references hold (address, place, value) -/
def lay_t : List (Nat × Int) := [(9, 14), (54, 8), (55, 8), (52, 1000), (4, 9), (3, 3), (51, 72), (8, 11), (7, 2), (50, 12), (50, 3), (50, 3), (2, 6), (50, 12), (50, 12), (50, 12), (50, 12), (50, 12), (50, 12), (6, 3), (3, 3), (51, 72), (3, 3), (51, 72), (6, 3), (3, 3), (51, 72), (3, 3), (51, 72), (3, 3), (51, 72), (7, 2), (50, 12), (0, 17), (3, 3), (51, 72), (3, 3), (51, 72), (3, 3), (51, 72), (3, 3), (51, 72), (3, 3), (51, 72), (3, 3), (51, 72), (3, 3), (51, 72), (56, 1500), (50, 4096), (50, 1024), (5, 6), (50, 60), (50, 60), (50, 60), (50, 60), (3, 3), (51, 72), (7, 2), (50, 12), (3, 3), (51, 72), (7, 2), (50, 12), (3, 3), (51, 72), (7, 2), (50, 12), (3, 3), (51, 72), (7, 2), (50, 12), (3, 3), (51, 72), (7, 2), (50, 12), (3, 3), (51, 72), (7, 2), (50, 12), (3, 3), (51, 72), (7, 2), (50, 12), (3, 3), (51, 72), (7, 2), (50, 12), (11, 43), (50, 12), (50, 12), (51, 864), (50, 12), (50, 12), (50, 12), (50, 9), (50, 108), (50, 108), (50, 108), (10, 6), (52, 1000), (51, 216000), (50, 1500), (50, 1500), (50, 4096), (50, 1500), (50, 6), (53, 1500), (50, 4), (50, 4), (50, 4), (50, 240), (50, 240), (50, 240)]
def lay_r : List (Int × Int × Int) := [(0, 0, 1), (0, 1, 2), (0, 2, 3), (5, 0, 6), (4, 0, 5), (0, 6, 4), (8, 0, 9), (7, 0, 8), (7, 9, 10), (7, 10, 11), (0, 7, 7), (12, 0, 13), (12, 1, 14), (12, 2, 15), (12, 3, 16), (12, 4, 17), (12, 5, 18), (0, 8, 12), (20, 0, 21), (22, 0, 23), (19, 0, 12), (0, 9, 19), (25, 0, 26), (27, 0, 28), (24, 0, 12), (0, 10, 24), (29, 0, 30), (0, 11, 29), (31, 0, 32), (0, 12, 31), (34, 0, 35), (33, 1, 34), (36, 0, 37), (33, 2, 36), (38, 0, 39), (33, 3, 38), (40, 0, 41), (33, 4, 40), (42, 0, 43), (33, 5, 42), (44, 0, 45), (33, 6, 44), (46, 0, 47), (33, 7, 46), (33, 9, 48), (33, 10, 49), (33, 13, 51), (33, 0, 12), (0, 13, 33), (56, 0, 57), (1, 0, 56), (58, 0, 59), (2, 0, 58), (60, 0, 61), (1, 1, 60), (62, 0, 63), (2, 1, 62), (64, 0, 65), (1, 2, 64), (66, 0, 67), (2, 2, 66), (68, 0, 69), (1, 3, 68), (70, 0, 71), (2, 3, 70), (72, 0, 73), (1, 4, 72), (74, 0, 75), (2, 4, 74), (76, 0, 77), (1, 5, 76), (78, 0, 79), (2, 5, 78), (80, 0, 81), (1, 6, 80), (82, 0, 83), (2, 6, 82), (84, 0, 85), (1, 7, 84), (86, 0, 87), (2, 7, 86), (88, 0, 89), (88, 1, 90), (88, 2, 91), (88, 5, 92), (88, 6, 93), (88, 7, 94), (88, 8, 95), (88, 9, 96), (88, 10, 97), (88, 11, 98), (88, 12, 99), (88, 13, 100), (88, 22, 101), (88, 23, 102), (88, 24, 103), (88, 25, 104), (88, 26, 105), (88, 27, 106), (88, 28, 107), (88, 35, 108), (88, 36, 109), (88, 37, 110), (88, 38, 111), (88, 39, 112), (88, 40, 113)]
def lay_k : List (Nat × Int) := [(0, 0), (0, 1), (0, 2), (0, 3), (0, 4), (0, 5), (0, 6), (0, 7), (0, 9), (0, 10), (0, 13), (2, 0), (2, 1), (2, 2), (2, 3), (2, 4), (2, 5), (3, 0), (4, 0), (6, 0), (7, 0), (8, 0), (8, 9), (8, 10), (9, 0), (9, 1), (9, 2), (9, 6), (9, 7), (9, 8), (9, 9), (9, 10), (9, 11), (9, 12), (9, 13), (11, 0), (11, 1), (11, 2), (11, 5), (11, 6), (11, 7), (11, 8), (11, 9), (11, 10), (11, 11), (11, 12), (11, 13), (11, 22), (11, 23), (11, 24), (11, 25), (11, 26), (11, 27), (11, 28), (11, 35), (11, 36), (11, 37), (11, 38), (11, 39), (11, 40)]
def z_lk (t : Nat) (i : Int) : Bool := match t with
  | 50 => false | 51 => false | 52 => false | 53 => false | 54 => true | 55 => true | 56 => false
  | t => decide ((t, i) ∈ lay_k)
def lay (G : zG) (h : zH) : Prop := lay_t.length ≤ G.1 ∧ (∀ (a : Nat) (q : Nat × Int), lay_t[a]? = some q → G.2.2.1 a = q.1 ∧ G.2.2.2 a = q.2) ∧ (∀ q ∈ lay_r, h q.1 q.2.1 = q.2.2) ∧
  (∀ t, z_is G t 3 → h t 0 = t + 1 ∧ z_is G (t + 1) 51 ∧ G.2.2.2 (t + 1) = 72) ∧ ∀ w, z_is G w 7 → h w 0 = w + 1 ∧ z_is G (w + 1) 50 ∧ G.2.2.2 (w + 1) = 12
theorem lay_chk : lay_r.all (fun q => decide (0 ≤ q.1) && (match lay_t[q.1.toNat]? with | some c => z_lk c.1 q.2.1 | none => false)) = true := by decide +kernel
theorem lay.is {G : zG} {h : zH} (hl : lay G h) (a : Nat) {t : Nat} {n : Int} (ha : lay_t[a]? = some (t, n)) : z_is G a t := by
  have h1 : a < lay_t.length := (List.getElem?_eq_some_iff.mp ha).1
  exact ⟨by omega, by have := hl.1; omega, (hl.2.1 a _ ha).1⟩
theorem lay.ln {G : zG} {h : zH} (hl : lay G h) (a : Nat) {t : Nat} {n : Int} (ha : lay_t[a]? = some (t, n)) : G.2.2.2 a = n := (hl.2.1 a _ ha).2
theorem lay.at {D : zD} {G : zG} {h : zH} (hl : lay G h) (a : Nat) {t : Nat} {n : Int} (ha : lay_t[a]? = some (t, n)) : z_at D G h a t n (h a) := Or.inl ⟨hl.is a ha, hl.ln a ha, rfl⟩
theorem lay.ref {G : zG} {h : zH} (hl : lay G h) (j : Nat) {a i v : Int} (hj : lay_r[j]? = some (a, i, v)) : h a i = v := hl.2.2.1 _ (List.mem_of_getElem? hj)
theorem lay.tab {G : zG} {h : zH} (hl : lay G h) {t : Int} (ht : z_is G t 3) : h t 0 = t + 1 := (hl.2.2.2.1 t ht).1
theorem lay.tat {D : zD} {G : zG} {h : zH} (hl : lay G h) {t : Int} (ht : z_is G t 3) : z_at D G h (t + 1) 51 72 (h (t + 1)) := Or.inl ⟨(hl.2.2.2.1 t ht).2.1, (hl.2.2.2.1 t ht).2.2, rfl⟩
theorem lay.way {G : zG} {h : zH} (hl : lay G h) {t : Int} (ht : z_is G t 7) : h t 0 = t + 1 := (hl.2.2.2.2 t ht).1
theorem lay.wat {D : zD} {G : zG} {h : zH} (hl : lay G h) {t : Int} (ht : z_is G t 7) : z_at D G h (t + 1) 50 12 (h (t + 1)) := Or.inl ⟨(hl.2.2.2.2 t ht).2.1, (hl.2.2.2.2 t ht).2.2, rfl⟩
/-- what a store must leave alone -/
theorem lay.keep {G : zG} {h h' : zH} (hl : lay G h) (hk : ∀ b j t, z_is G b t → z_lk t j = true → h' b j = h b j) : lay G h' := by
  refine ⟨hl.1, hl.2.1, fun q hq => ?_, fun t ht => ⟨(hk t 0 3 ht (by decide)).trans (hl.tab ht), (hl.2.2.2.1 t ht).2⟩, fun t ht => ⟨(hk t 0 7 ht (by decide)).trans (hl.way ht), (hl.2.2.2.2 t ht).2⟩⟩
  have h1 := List.all_eq_true.mp lay_chk q hq
  simp only [Bool.and_eq_true, decide_eq_true_eq] at h1
  obtain ⟨h0, h1⟩ := h1
  cases hc : lay_t[q.1.toNat]? with
  | none => rw [hc] at h1; cases h1
  | some c =>
    rw [hc] at h1
    have h2 := hl.is q.1.toNat (t := c.1) (n := c.2) hc
    rw [Int.toNat_of_nonneg h0] at h2
    exact (hk q.1 q.2.1 c.1 h2 h1).trans (hl.2.2.1 q hq)
theorem lay.wr {G : zG} {h : zH} (hl : lay G h) {a i v : Int} {t : Nat} (ha : z_is G a t) (hk : z_lk t i = false) : lay G (z_wr h a i v) := by
  refine hl.keep fun b j t' hb hj => ?_
  unfold z_wr
  rw [if_neg]
  rintro ⟨rfl, rfl⟩
  have : t' = t := hb.2.2.symm.trans ha.2.2
  rw [this, hk] at hj
  cases hj
theorem lay.cp {G : zG} {h : zH} (hl : lay G h) {a sp b dp n : Int} {t : Nat} (hb : z_is G b t) (ht : t = 50 ∨ t = 51) : lay G (z_cp h a sp b dp n) := by
  refine hl.keep fun x j t' hx hj => ?_
  unfold z_cp
  rw [if_neg]
  rintro ⟨rfl, -⟩
  have : t' = t := hx.2.2.symm.trans hb.2.2
  rw [this] at hj
  rcases ht with rfl | rfl <;> cases hj
theorem lay.al {G : zG} {h : zH} (hl : lay G h) {t n : Nat} {f : Int → Int} (ht : ¬ t = 3 ∧ ¬ t = 7) : lay (z_al G t n) (z_nw h G.1 f) := by
  have old : ∀ b t', z_is (z_al G t n) b t' → ¬ b = (G.1 : Int) → z_is G b t' := by
    intro b t' hb hne
    obtain ⟨h0, h1, h2⟩ := hb
    have h1' : b < ((G.1 + 1 : Nat) : Int) := h1
    refine ⟨h0, by omega, ?_⟩
    simpa [z_al, hne] using h2
  have new : ∀ b t', z_is G b t' → z_is (z_al G t n) b t' := by
    intro b t' hb
    obtain ⟨h0, h1, h2⟩ := hb
    have hne : ¬ b = (G.1 : Int) := by omega
    refine ⟨h0, by show b < ((G.1 + 1 : Nat) : Int); omega, ?_⟩
    simpa [z_al, hne] using h2
  have tagn : ∀ b t', z_is (z_al G t n) b t' → b = (G.1 : Int) → t' = t := by
    intro b t' hb he
    have := hb.2.2
    simp [z_al, he] at this
    exact this.symm
  refine ⟨Nat.le_trans hl.1 (Nat.le_succ _), fun a q ha => ?_, fun q hq => ?_, fun b hb => ?_, fun b hb => ?_⟩
  · have h1 : a < lay_t.length := (List.getElem?_eq_some_iff.mp ha).1
    have hne : ¬ (a : Int) = (G.1 : Int) := by have := hl.1; omega
    simpa [z_al, hne] using hl.2.1 a q ha
  · have h1 := List.all_eq_true.mp lay_chk q hq
    simp only [Bool.and_eq_true, decide_eq_true_eq] at h1
    obtain ⟨h0, h1⟩ := h1
    cases hc : lay_t[q.1.toNat]? with
    | none => rw [hc] at h1; cases h1
    | some c =>
      have h2 := hl.is q.1.toNat (t := c.1) (n := c.2) hc
      rw [Int.toNat_of_nonneg h0] at h2
      have hne : ¬ q.1 = (G.1 : Int) := by have := h2.2.1; omega
      simp only [z_nw, hne, if_false]
      exact hl.2.2.1 q hq
  · by_cases hne : b = (G.1 : Int)
    · exact absurd (tagn b 3 hb hne).symm ht.1
    · have hb' := old b 3 hb hne
      have h3 := hl.2.2.2.1 b hb'
      have hne2 : ¬ b + 1 = (G.1 : Int) := by have := h3.2.1.2.1; omega
      refine ⟨by simp only [z_nw, hne, if_false]; exact h3.1, new _ _ h3.2.1, ?_⟩
      simpa [z_al, hne2] using h3.2.2
  · by_cases hne : b = (G.1 : Int)
    · exact absurd (tagn b 7 hb hne).symm ht.2
    · have hb' := old b 7 hb hne
      have h3 := hl.2.2.2.2 b hb'
      have hne2 : ¬ b + 1 = (G.1 : Int) := by have := h3.2.1.2.1; omega
      refine ⟨by simp only [z_nw, hne, if_false]; exact h3.1, new _ _ h3.2.1, ?_⟩
      simpa [z_al, hne2] using h3.2.2
