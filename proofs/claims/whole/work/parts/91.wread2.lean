section Wread2
variable {D : zD} {d : Nat} {G : zG} {h h0 h1 : zH} {Q : zO → zG → zH → Prop}
/-- closing a repeat: the codes that are copied -/
theorem rep_code {c : Int → Int} {f L b j : Int} (hb : b = L - f) (b0 : 0 < b) (j0 : L ≤ j) : (if j - b < L then c (j - b) else c (f + (j - b - f) % b)) = c (f + (j - f) % b) := by
  by_cases e : j - b < L
  · rw [if_pos e]
    congr 1
    have q : j - f = (j - b - f) + b * 1 := by omega
    rw [q, Int.add_mul_emod_self_left, Int.emod_eq_of_lt (by omega) (by omega)]
    omega
  · rw [if_neg e]
    congr 2
    have q : j - f = (j - b - f) + b * 1 := by omega
    rw [q, Int.add_mul_emod_self_left]
def rpW (s : wS) (L' : Int) : zWy := (L', fun i => if i < s.2.1.1 then s.2.1.2 i else s.2.1.2 (s.2.2.2.1 (s.2.2.1 - 1) + (i - s.2.2.2.1 (s.2.2.1 - 1)) % (s.2.1.1 - s.2.2.2.1 (s.2.2.1 - 1))))
theorem rpW_ok {s : wS} {L' : Int} (i : wInv s) (d0 : 0 < s.2.2.1) (l1 : s.2.1.1 ≤ L') (l2 : L' ≤ 12) (nz : L' = s.2.1.1 ∨ 0 < s.2.1.1 - s.2.2.2.1 (s.2.2.1 - 1)) : okW (rpW s L') := by
  obtain ⟨i1, i2, i3, i4, i5⟩ := i
  have z := i5 (s.2.2.1 - 1) (by omega) (by omega)
  have l0 := i2.1
  refine ⟨by show 0 ≤ L'; omega, l2, fun j j0 j1 => ?_⟩
  have j1 : j < L' := j1
  show 64 ≤ (if j < s.2.1.1 then s.2.1.2 j else _) ∧ (if j < s.2.1.1 then s.2.1.2 j else _) < 960
  by_cases e : j < s.2.1.1
  · rw [if_pos e]; exact i2.2.2 j j0 e
  · rw [if_neg e]
    have b0 : 0 < s.2.1.1 - s.2.2.2.1 (s.2.2.1 - 1) := by omega
    have m0 := Int.emod_nonneg (j - s.2.2.2.1 (s.2.2.1 - 1)) (Int.ne_of_gt b0)
    have m1 := Int.emod_lt_of_pos (j - s.2.2.2.1 (s.2.2.1 - 1)) b0
    exact i2.2.2 _ (by omega) (by omega)
theorem l_close52 (hd : 1 ≤ d) {s : wS} {f b t : Int} (i : wInv s) (d0 : 0 < s.2.2.1) (ef : f = s.2.2.2.1 (s.2.2.1 - 1)) (eb : b = s.2.1.1 - f) (et : t = s.2.2.2.2 (s.2.2.1 - 1)) (le : f + b * t ≤ 12) : ∀ (n : Nat) (x : Int) (h : zH), b * t = x + n → b ≤ x → h 7 8 = s.2.2.1 - 1 → h 11 (s.2.2.1 - 1) = t → isW h 8 (rpW s (f + x)) → frB (fun a _ => a = 8 ∨ a = 9) h0 h →
    z_Y D M_X10_closeRepeat d 52 [(0, 2, 7), (1, 0, f), (2, 0, b), (3, 0, x)] [] G h (fun out G' h' => out = .inl (some (0, 0)) ∧ G' = G ∧ frB (fun a _ => a = 8 ∨ a = 9) h0 h' ∧ isW h' 8 (rpW s (f + b * t))) := by
  obtain ⟨i1, i2, i3, i4, i5⟩ := id i
  have z := i5 (s.2.2.1 - 1) (by omega) (by omega)
  rw [← ef, ← et] at z
  have mb := mul_b z.1.1 z.1.2 i2.2.1 z.2.1 z.2.2
  rw [← eb] at mb
  intro n
  induction n with
  | zero =>
    intro x h e x0 e8 e11 kw fr
    rw [show b * t = x by omega]
    refine b_X10_closeRepeat_52 (by omega) (by omega) ⟨by omega, by omega⟩ (by rw [e8, e11]; exact ⟨by omega, by omega⟩) (fun _ => ⟨rfl, rfl, fr, kw⟩) (fun c => ?_)
    rw [e8, e11] at c; omega
  | succ n ih =>
    intro x h e x0 e8 e11 kw fr hl
    have t8 := hl.i 8 (by decide) rfl
    have b0 : 0 < b := by
      refine Classical.byContradiction fun w => ?_
      have : b = 0 := by omega
      rw [this, Int.zero_mul] at e; omega
    have ok : okW (rpW s (f + x)) := rpW_ok i d0 (by omega) (by omega) (Or.inr (by rw [← ef, ← eb]; exact b0))
    refine b_X10_closeRepeat_52 (by omega) (by omega) ⟨by omega, by omega⟩ (by rw [e8, e11]; exact ⟨by omega, by omega⟩) (fun c => ?_) (fun c => ?_) hl
    · rw [e8, e11] at c; omega
    have i0 : 0 ≤ f + x - b := by omega
    have i1' : f + x - b < (rpW s (f + x)).1 := by show _ < f + x; omega
    refine z_Ki.of (d2 := d - 1) (by omega) (a_X9_codeAt t8 kw ok i0 i1') ?_
    rintro out G' h2 hl2 ⟨r1, rfl, rfl⟩
    refine ⟨_, r1, b_X10_closeRepeat_83 (z_Ki.of (d2 := d - 1) (by omega) (c_wadd t8 kw ok (by show f + x < 12; omega)) ?_)⟩
    rintro out G'' h3 hl3 ⟨r3, rfl, f3, kw3⟩
    refine ⟨_, r3, b_X10_closeRepeat_86 (ih (x + 1) h3 (by omega) (by omega) (by rw [f3 7 8 (by omega)]; exact e8) (by rw [f3 11 _ (by omega)]; exact e11) ?_ (fr.tr (f3.imp fun a j q => by omega)))⟩
    refine ⟨by rw [kw3.1]; show f + x + 1 = f + (x + 1); omega, fun j j0 j1 => ?_⟩
    have j1 : j < f + (x + 1) := j1
    rw [kw3.2 j j0 (by show j < f + x + 1; omega)]
    show (if j = f + x then _ else _) = _
    by_cases ej : j = f + x
    · rw [if_pos ej]
      show (if f + x - b < s.2.1.1 then s.2.1.2 (f + x - b) else s.2.1.2 (s.2.2.2.1 (s.2.2.1 - 1) + (f + x - b - s.2.2.2.1 (s.2.2.1 - 1)) % (s.2.1.1 - s.2.2.2.1 (s.2.2.1 - 1)))) = (if j < s.2.1.1 then s.2.1.2 j else s.2.1.2 (s.2.2.2.1 (s.2.2.1 - 1) + (j - s.2.2.2.1 (s.2.2.1 - 1)) % (s.2.1.1 - s.2.2.2.1 (s.2.2.1 - 1))))
      rw [← ef, ← eb, if_neg (show ¬ j < s.2.1.1 by omega), ← ej]
      exact rep_code eb b0 (by omega)
    · rw [if_neg ej]; rfl
theorem c_close (hd : 1 ≤ d) {s : wS} (i : wInv s) (k : cW s h) (du : s.1.1 = 0) (d0 : 0 < s.2.2.1) : z_CY D M_X10_closeRepeat d [(2, 7)] G h (cwQ G h (wClose s)) := by
  obtain ⟨i1, i2, i3, i4, i5⟩ := id i
  obtain ⟨⟨k1, k2⟩, k3, k4, k5, k6⟩ := id k
  have z := i5 (s.2.2.1 - 1) (by omega) (by omega)
  have y := k6 (s.2.2.1 - 1) (by omega) (by omega)
  have mb := mul_b z.1.1 z.1.2 i2.2.1 z.2.1 z.2.2
  have e81 := k5.1
  have l12 := i2.2.1
  unfold wClose
  refine z_begin mo_X10_closeRepeat rfl (nle rfl) (b_X10_closeRepeat_0 (by omega) (by omega) (by rw [k2, y.1, y.2, e81]; exact ⟨by omega, by omega⟩) (fun c => ?_) (fun c => ?_))
  · rw [k2, y.1, y.2, e81] at c
    rw [if_pos c, k2, y.1, e81]
    have kw : isW (z_wr h 7 8 (s.2.2.1 - 1)) 8 (rpW s (s.2.2.2.1 (s.2.2.1 - 1) + (s.2.1.1 - s.2.2.2.1 (s.2.2.1 - 1)))) := by
      refine isW_w ⟨by rw [k5.1]; show s.2.1.1 = s.2.2.2.1 (s.2.2.1 - 1) + (s.2.1.1 - s.2.2.2.1 (s.2.2.1 - 1)); omega, fun j j0 j1 => ?_⟩
      have j1 : j < s.2.2.2.1 (s.2.2.1 - 1) + (s.2.1.1 - s.2.2.2.1 (s.2.2.1 - 1)) := j1
      rw [k5.2 j j0 (by omega)]
      show _ = (if j < s.2.1.1 then s.2.1.2 j else _)
      rw [if_pos (by omega)]
    refine (l_close52 hd i d0 rfl rfl rfl c ((s.2.1.1 - s.2.2.2.1 (s.2.2.1 - 1)) * s.2.2.2.2 (s.2.2.1 - 1) - (s.2.1.1 - s.2.2.2.1 (s.2.2.1 - 1))).toNat _ _ (by omega) (Int.le_refl _) (by rw [w_s]) (by rw [w_na (by omega)]; exact y.2) kw frB.rf).mono fun out G' h' _ q => ?_
    obtain ⟨r1, rfl, f, kw'⟩ := q
    refine ⟨r1, rfl, (frB.rf.w (Or.inl ⟨rfl, by omega⟩)).tr (f.imp fun a j q => Or.inr (by omega)), fun _ => ⟨⟨by rw [f 7 3 (by omega), w_nj (by omega)]; exact k1, by rw [f 7 8 (by omega), w_s]⟩, fun q => by dsimp only at q; omega, fun q => by dsimp only at q; omega, kw', fun j a b => ?_⟩⟩
    dsimp only at b ⊢
    rw [f 10 j (by omega), f 11 j (by omega), w_na (by omega), w_na (by omega)]
    exact k6 j a (by omega)
  · rw [k2, y.1, y.2, e81] at c
    rw [if_neg c]
    exact ⟨rfl, rfl, frB.rf.w (Or.inl ⟨rfl, by omega⟩), fun w => absurd (show (3 : Int) = 0 from w) (by decide)⟩
theorem c_takeSign (hd : 4 ≤ d) {x : Int} {s : wS} (i : wInv s) (k : cW s h) (x0 : 0 ≤ x) (x1 : x ≤ 255) : z_CY D M_X10_takeSign d [(2, 7), (0, x)] G h (cwQ G h (wSign x s)) := by
  obtain ⟨i1, i2, i3, i4, i5⟩ := id i
  obtain ⟨⟨k1, k2⟩, k3, k4, k5, k6⟩ := id k
  refine z_begin mo_X10_takeSign rfl (nle rfl) (b_X10_takeSign_0 (fun _ => ⟨by omega, by omega⟩) (fun _ _ => by rw [k2]; exact ⟨by omega, by omega⟩) (fun _ _ _ _ _ => ⟨by omega, by omega⟩) (fun _ _ _ _ _ _ => by rw [k1]; exact ⟨by omega, by omega⟩) (fun _ _ _ _ _ _ => ⟨by omega, by omega⟩) (fun c c2 => ?_) (fun c c2 c3 => ?_) (fun c c2 c3 => ?_) (fun _ c => ?_) (fun _ _ c => ?_) (fun _ _ _ c => ?_) (fun _ _ _ _ c c2 => ?_) (fun _ _ _ _ c c2 => ?_) (fun _ _ _ _ _ c => ?_) (fun n0 n1 n2 n3 n4 n5 c => ?_) (fun n0 n1 n2 n3 n4 n5 c => ?_))
  · have es : wSign x s = (1, s) := by unfold wSign; rw [if_pos (by omega), if_neg (by omega)]
    rw [es]; exact cwQ_n (by decide)
  · have es : wSign x s = (1, s) := by unfold wSign; rw [if_pos (by omega), if_neg (by omega)]
    rw [es]; exact cwQ_n (by decide)
  · have es : wSign x s = wClose s := by unfold wSign; rw [if_pos (by omega), if_pos (by omega)]
    rw [es]
    refine z_Ki.of (d2 := d - 1) (by omega) (c_close (by omega) i k (by omega) (by omega)) fun out G' h' _ hh => ⟨_, hh.1, b_X10_takeSign_61 ⟨rfl, hh.2⟩⟩
  · refine z_Ki.of (d2 := d - 1) (by omega) (c_takeColumn (by omega) i k x0 x1 (by omega)) fun out G' h' _ hh => ⟨_, hh.1, b_X10_takeSign_71 ⟨rfl, hh.2⟩⟩
  · refine z_Ki.of (d2 := d - 1) (by omega) (c_takeColumn (by omega) i k x0 x1 (by omega)) fun out G' h' _ hh => ⟨_, hh.1, b_X10_takeSign_71 ⟨rfl, hh.2⟩⟩
  · refine z_Ki.of (d2 := d - 1) (by omega) (c_takeMark (by omega) i k x0 x1 (by omega)) fun out G' h' _ hh => ⟨_, hh.1, b_X10_takeSign_77 ⟨rfl, hh.2⟩⟩
  · have es : wSign x s = (1, s) := by unfold wSign; rw [if_neg (by omega), if_neg (by omega), if_neg (by omega), if_neg (by omega), if_pos (by omega), if_neg c2]
    rw [es]; exact cwQ_n (by decide)
  · rw [Classical.not_not.mp c2]
    refine z_Ki.of (d2 := d - 1) (by omega) (c_endStep (by omega) i k (by omega)) fun out G' h' _ hh => ⟨_, hh.1, b_X10_takeSign_88 ⟨rfl, hh.2⟩⟩
  · refine z_Ki.of (d2 := d - 1) (by omega) (c_takeTimes (by omega) k x0 x1 (by omega)) fun out G' h' _ hh => ⟨_, hh.1, b_X10_takeSign_98 ⟨rfl, hh.2⟩⟩
  · have es : wSign x s = (1, s) := by unfold wSign; rw [if_neg (by omega), if_neg (by omega), if_neg (by omega), if_neg (by omega), if_neg (by omega), if_neg (by omega), if_neg c]
    rw [es]; exact cwQ_n (by decide)
  · rw [Classical.not_not.mp c]
    refine z_Ki.of (d2 := d - 1) (by omega) (c_openRepeat i k (by omega)) fun out G' h' _ hh => ⟨_, hh.1, b_X10_takeSign_109 ⟨rfl, hh.2⟩⟩
/-! words -/
theorem l_spells17 (hd : 5 ≤ d) {i : Nat} {p e : Int} (hi : i < 16) (p0 : 0 ≤ p) (e1 : e ≤ 1000) (el : ((z_sl.getD i 0 : Nat) : Int) = e - p) : ∀ (n : Nat) (j : Int), e - p = j + n → 0 ≤ j → (∀ q : Int, 0 ≤ q → q < j → z_sby i q = w8 (h 3 (p + q))) →
    z_Y D M_X10_spells d 17 [(0, 2, (-(10 + (i : Int)))), (1, 2, 3), (2, 0, p), (4, 0, j)] [] G h (fun out G' h' => out = .inl (some (0, z_b (∀ q : Int, 0 ≤ q → q < e - p → z_sby i q = w8 (h 3 (p + q))))) ∧ G' = G ∧ h' = h) := by
  have sl := slk_i hi
  intro n
  induction n with
  | zero =>
    intro j e2 j0 hq
    refine b_X10_spells_17 hd hi ⟨by omega, by omega⟩ ⟨by omega, by omega⟩ (fun c => by omega) (fun c => by omega) (fun c => by omega) (fun c => by omega) (fun c => by omega) (fun c => by omega) (fun c => by omega) (fun _ => ⟨?_, rfl, rfl⟩) (fun c => by omega) (fun c => by omega)
    rw [z_b1 (fun q q0 q1 => hq q q0 (by omega))]
  | succ n ih =>
    intro j e2 j0 hq hl
    have l3 := hl.n 3 (by decide) rfl
    have sb := sby_rg hi j0 (by omega)
    refine b_X10_spells_17 hd hi ⟨by omega, by omega⟩ ⟨by omega, by omega⟩ (fun _ => j0) (fun _ => by omega) (fun _ => hl.i 3 (by decide) rfl) (fun _ => by omega) (fun _ => by rw [l3]; omega) (fun _ => ⟨by omega, by omega⟩) (fun _ => by unfold w8 z_in; omega) (fun c => by omega) (fun _ c => ih (j + 1) (by omega) (by omega) fun q q0 q1 => ?_) (fun _ c => ⟨?_, rfl, rfl⟩) hl
    · by_cases z : q = j
      · rw [z]; exact c
      · exact hq q q0 (by omega)
    · rw [z_b0 (fun w => c (w j j0 (by omega)))]
theorem a_spells (hd : 5 ≤ d) {i : Nat} {p l : Int} (hi : i < 16) (p0 : 0 ≤ p) (l0 : p ≤ l) (l1 : l < 1000) : z_Ei D M_X10_spells d [(2, (-(10 + (i : Int)))), (2, 3), (0, p), (0, l)] G h (z_b (((z_sl.getD i 0 : Nat) : Int) = l + 1 - p ∧ ∀ q : Int, 0 ≤ q → q < l + 1 - p → z_sby i q = w8 (h 3 (p + q)))) h := by
  have sl := slk_i hi
  refine z_begin mo_X10_spells rfl (nle rfl) (b_X10_spells_0 (by omega) hi ⟨by omega, by omega⟩ ⟨by omega, by omega⟩ (fun c => ?_) (fun c => ⟨?_, rfl, rfl⟩))
  · refine (l_spells17 (e := l + 1) hd hi p0 (by omega) (by omega) (l + 1 - p).toNat 0 (by omega) (by omega) (fun q a b => by omega)).mono fun out G' h' _ q => ⟨?_, q.2⟩
    rw [q.1]
    by_cases w : ∀ q : Int, 0 ≤ q → q < l + 1 - p → z_sby i q = w8 (h 3 (p + q))
    · rw [z_b1 w, z_b1 ⟨by omega, w⟩]
    · rw [z_b0 w, z_b0 (fun z => w z.2)]
  · rw [z_b0 (fun z => c (by omega))]
theorem c_wordOf {n : Int} (n1 : 1 ≤ n) (n2 : n ≤ 15) : z_CY D M_X10_wordOf d [(0, n)] G h (fun out G' h' => out = .inl (some (2, (-(10 + (((n - 1).toNat : Nat) : Int))))) ∧ G' = G ∧ h' = h) := by
  refine z_begin mo_X10_wordOf rfl (nle rfl) (b_X10_wordOf_0 (fun _ _ _ _ _ _ _ _ _ _ _ _ _ _ => ⟨by omega, by omega⟩) (fun c => ?_) (fun _ c => ?_) (fun _ _ c => ?_) (fun _ _ _ c => ?_) (fun _ _ _ _ c => ?_) (fun _ _ _ _ _ c => ?_) (fun _ _ _ _ _ _ c => ?_) (fun _ _ _ _ _ _ _ c => ?_) (fun _ _ _ _ _ _ _ _ c => ?_) (fun _ _ _ _ _ _ _ _ _ c => ?_) (fun _ _ _ _ _ _ _ _ _ _ c => ?_) (fun _ _ _ _ _ _ _ _ _ _ _ c => ?_) (fun _ _ _ _ _ _ _ _ _ _ _ _ c => ?_) (fun _ _ _ _ _ _ _ _ _ _ _ _ _ c => ?_) (fun a1 a2 a3 a4 a5 a6 a7 a8 a9 a10 a11 a12 a13 a14 => ?_))
  all_goals first
    | (subst c; exact ⟨rfl, rfl, rfl⟩)
    | (obtain rfl : n = 15 := by omega
       exact ⟨rfl, rfl, rfl⟩)
theorem l_wordIn (hd : 7 ≤ d) {p l : Int} (p0 : 0 ≤ p) (l0 : p ≤ l) (l1 : l < 1000) : ∀ (m : Nat) (n : Int), n + m = 16 → 1 ≤ n → z_Y D M_X10_wordIn d 2 [(0, 2, 3), (1, 0, p), (2, 0, l), (3, 0, n)] [] G h (fun out G' h' => out = .inl (some (0, wNo (fun k => w8 (h 3 k)) p (l + 1) m n)) ∧ G' = G ∧ h' = h) := by
  intro m
  induction m with
  | zero =>
    intro n e n1
    exact b_X10_wordIn_2 ⟨by omega, by omega⟩ (fun _ => ⟨rfl, rfl, rfl⟩) (fun c => by omega)
  | succ m ih =>
    intro n e n1
    refine b_X10_wordIn_2 ⟨by omega, by omega⟩ (fun c => by omega) (fun _ => ?_)
    refine z_Ka.of (d2 := d - 1) (by omega) (c_wordOf n1 (by omega)) ?_
    rintro out G' h' _ ⟨r1, rfl, rfl⟩
    refine ⟨_, r1, b_X10_wordIn_12 (z_Ki.of (d2 := d - 1) (by omega) (a_spells (by omega) (i := (n - 1).toNat) (by omega) p0 l0 l1) ?_)⟩
    rintro out G'' h'' _ ⟨r2, rfl, rfl⟩
    refine ⟨_, r2, b_X10_wordIn_18 (zb_in _) (fun c => ?_) (fun c => ⟨?_, rfl, rfl⟩)⟩
    · have q := ih (n + 1) (by omega) (by omega)
      have e2 : wNo (fun k => w8 (h'' 3 k)) p (l + 1) (m + 1) n = wNo (fun k => w8 (h'' 3 k)) p (l + 1) m (n + 1) := by
        conv => lhs; unfold wNo
        rw [zif0 (show ¬ spl (fun k => w8 (h'' 3 k)) p (l + 1) n from zb_eq c)]
      rw [e2]; exact q
    · have e2 : wNo (fun k => w8 (h'' 3 k)) p (l + 1) (m + 1) n = n := by
        conv => lhs; unfold wNo
        rw [zif1 (show spl (fun k => w8 (h'' 3 k)) p (l + 1) n from zb_ne c)]
      rw [e2]
theorem l_lastL (hd : 2 ≤ d) {N : Int} (N1 : N ≤ 1000) : ∀ (m : Nat) (k : Int), N - k ≤ m → 0 ≤ k → k ≤ N → z_Y D M_X10_lastLetter d 7 [(0, 2, 3), (1, 0, N), (3, 0, k - 1), (4, 0, k)] [] G h (fun out G' h' => out = .inl (some (0, lEnd (fun k => w8 (h 3 k)) N m k - 1)) ∧ G' = G ∧ h' = h) := by
  intro m
  induction m with
  | zero =>
    intro k e k0 k1
    exact b_X10_lastLetter_7 hd ⟨by omega, by omega⟩ ⟨by omega, by omega⟩ (fun c => by omega) (fun c => by omega) (fun c => by omega) (fun c => by omega) (fun c => by omega) (fun _ => ⟨rfl, rfl, rfl⟩) (fun c => by omega) (fun c => by omega) (fun c => by omega)
  | succ m ih =>
    intro k e k0 k1 hl
    have l3 := hl.n 3 (by decide) rfl
    have rg := bB_rg (fun k => w8 (h 3 k)) k
    have eb : z_iand (w8 (h 3 k)) 255 = bB (fun k => w8 (h 3 k)) k := rfl
    have no : ¬ (k < N ∧ 97 ≤ bB (fun k => w8 (h 3 k)) k ∧ bB (fun k => w8 (h 3 k)) k ≤ 122) → lEnd (fun k => w8 (h 3 k)) N (m + 1) k = k := fun w => by unfold lEnd; rw [if_neg w]
    refine b_X10_lastLetter_7 hd ⟨by omega, by omega⟩ ⟨by omega, by omega⟩ (fun _ => hl.i 3 (by decide) rfl) (fun _ => by rw [l3]; exact ⟨by omega, by omega⟩) (fun _ _ => k0) (fun _ c => by rw [l3]; omega) (fun _ _ => by rw [eb]; exact ⟨by omega, by omega⟩) (fun c => ⟨?_, rfl, rfl⟩) (fun _ c => by rw [l3] at c; omega) (fun c _ c3 => ?_) (fun c _ c3 => ⟨?_, rfl, rfl⟩) hl
    · rw [no (by omega)]
    · rw [eb] at c3
      have e2 : lEnd (fun k => w8 (h 3 k)) N (m + 1) k = lEnd (fun k => w8 (h 3 k)) N m (k + 1) := by
        conv => lhs; unfold lEnd
        rw [if_pos ⟨by omega, c3⟩]
      rw [e2]
      have q := ih (k + 1) (by omega) (by omega) (by omega)
      rw [show k + 1 - 1 = k by omega] at q
      exact q
    · rw [eb] at c3
      rw [no (fun w => c3 w.2)]
/-! the whole text -/
def wrP (a _ : Int) : Prop := 7 ≤ a ∧ a ≤ 11
theorem cwP_r {a j : Int} (q : cwP a j) : wrP a j := by unfold cwP at q; unfold wrP; omega
def wrQ (G : zG) (h : zH) (r : Int × Int × wS) : zO → zG → zH → Prop := fun out G' h' => out = .inl none ∧ G' = G ∧ frB wrP h h' ∧ h' 7 1 = r.1 ∧ h' 7 2 = r.2.1 ∧ (r.1 = 0 → isW h' 8 r.2.2.2.1)
theorem cW_w {s : wS} {j v : Int} (k : cW s h) (hj : j = 1 ∨ j = 2) : cW s (z_wr h 7 j v) := by
  obtain ⟨⟨k1, k2⟩, k3, k4, k5, k6⟩ := k
  refine ⟨⟨by rw [w_nj (by omega)]; exact k1, by rw [w_nj (by omega)]; exact k2⟩, fun q => ⟨by rw [w_nj (by omega)]; exact (k3 q).1, by rw [w_nj (by omega)]; exact (k3 q).2.1, by rw [w_nj (by omega)]; exact (k3 q).2.2⟩, fun q => by rw [w_nj (by omega)]; exact k4 q, isW_w k5, fun i a b => by rw [w_na (by omega), w_na (by omega)]; exact k6 i a b⟩
/-- the letters behind a word's first are passed over -/
theorem l_skip22 (hd : 2 ≤ d) {N l : Int} (N1 : N ≤ 1000) (lN : l + 1 ≤ N) : ∀ (m : Nat) (q : Int), l + 1 - q ≤ m → 0 ≤ q → q ≤ l + 1 →
    z_Y D M_X10_read d 22 [(0, 2, 7), (1, 2, 3), (2, 0, N), (3, 0, l), (4, 0, l + 1)] [] G h Q → z_Y D M_X10_read d 22 [(0, 2, 7), (1, 2, 3), (2, 0, N), (3, 0, l), (4, 0, q)] [] G h Q := by
  intro m
  induction m with
  | zero =>
    intro q e q0 q1 g
    rw [show q = l + 1 by omega]; exact g
  | succ m ih =>
    intro q e q0 q1 g
    by_cases ql : q = l + 1
    · rw [ql]; exact g
    intro hl
    have l3 := hl.n 3 (by decide) rfl
    exact b_X10_read_22 hd ⟨by omega, by omega⟩ ⟨by omega, by omega⟩ (fun _ => hl.i 3 (by decide) rfl) (fun _ => by rw [l3]; exact ⟨by omega, by omega⟩) (fun _ _ => q0) (fun _ _ => by rw [l3]; omega) (fun _ _ => ⟨by omega, by omega⟩) (fun _ _ c => by omega) (fun c => by omega) (fun _ c => by rw [l3] at c; omega) (fun _ _ _ => ih (q + 1) (by omega) (by omega) (by omega) g) (fun _ _ c => by omega) (fun _ _ c => by omega) (fun _ _ c => by omega) (fun _ _ c => by omega) hl
theorem l_wread22 (hd : 9 ≤ d) {N : Int} (N1 : N ≤ 1000) : ∀ (m : Nat) (p l : Int) (s : wS) (h : zH), N - p ≤ m → 0 ≤ p → p ≤ N → -1 ≤ l → l < p → wInv s → cW s h → frB wrP h0 h →
    z_Y D M_X10_read d 22 [(0, 2, 7), (1, 2, 3), (2, 0, N), (3, 0, l), (4, 0, p)] [] G h (wrQ G h0 (wRun (fun k => w8 (h0 3 k)) N m p s)) := by
  have fin : ∀ (p : Int) (s : wS) (h : zH), N ≤ p → wInv s → cW s h → frB wrP h0 h → z_Y D M_X10_read d 141 [(0, 2, 7), (2, 0, N)] [] G h (wrQ G h0 (if ¬ s.1.1 = 0 ∨ 0 < s.2.2.1 then (1, N, s) else (0, -1, s))) := by
    intro p s h e i k f
    obtain ⟨i1, i2, i3, i4, i5⟩ := id i
    obtain ⟨⟨k1, k2⟩, k3, k4, k5, k6⟩ := id k
    have bad : ¬ s.1.1 = 0 ∨ 0 < s.2.2.1 → z_Y D M_X10_read d 156 [(0, 2, 7), (2, 0, N)] [(2, 7)] G h (wrQ G h0 (if ¬ s.1.1 = 0 ∨ 0 < s.2.2.1 then (1, N, s) else (0, -1, s))) := by
      intro w
      rw [if_pos w]
      exact b_X10_read_156 (b_X10_read_161 ⟨by omega, by omega⟩ (fun _ => ⟨rfl, rfl, (f.w ⟨by omega, by omega⟩).w ⟨by omega, by omega⟩, by rw [w_nj (by omega), w_s], by rw [w_s], fun w => absurd (show (1 : Int) = 0 from w) (by decide)⟩) (fun c => absurd (by decide : ¬ (1 : Int) = 0) c))
    refine b_X10_read_141 (by rw [k1]; exact ⟨by omega, by omega⟩) (fun _ => by rw [k2]; exact ⟨by omega, by omega⟩) (fun c => bad (Or.inl (by omega))) (fun c c2 => ?_) (fun c c2 => bad (Or.inr (by omega)))
    rw [if_neg (by omega)]
    exact b_X10_read_161 ⟨by omega, by omega⟩ (fun c => absurd rfl c) (fun _ => ⟨rfl, rfl, (f.w ⟨by omega, by omega⟩).w ⟨by omega, by omega⟩, by rw [w_nj (by omega), w_s], by rw [w_s], fun _ => isW_w (isW_w k5)⟩)
  intro m
  induction m with
  | zero =>
    intro p l s h e p0 p1 l0 l1 i k f
    exact b_X10_read_22 (by omega) ⟨by omega, by omega⟩ ⟨by omega, by omega⟩ (fun c => by omega) (fun c => by omega) (fun c => by omega) (fun c => by omega) (fun c => by omega) (fun c => by omega) (fun _ => fin p s h (by omega) i k f) (fun c => by omega) (fun c => by omega) (fun c => by omega) (fun c => by omega) (fun c => by omega) (fun c => by omega)
  | succ m ih =>
    intro p l s h e p0 p1 l0 l1 i k f hl
    have l3 := hl.n 3 (by decide) rfl
    by_cases pN : N ≤ p
    · have er : wRun (fun k => w8 (h0 3 k)) N (m + 1) p s = (if ¬ s.1.1 = 0 ∨ 0 < s.2.2.1 then (1, N, s) else (0, -1, s)) := by
        conv => lhs; unfold wRun
        rw [if_pos pN]
      rw [er]
      exact b_X10_read_22 (by omega) ⟨by omega, by omega⟩ ⟨by omega, by omega⟩ (fun c => by omega) (fun c => by omega) (fun c => by omega) (fun c => by omega) (fun c => by omega) (fun c => by omega) (fun _ => fin p s h pN i k f) (fun c => by omega) (fun c => by omega) (fun c => by omega) (fun c => by omega) (fun c => by omega) (fun c => by omega) hl
    obtain ⟨g, eg⟩ : ∃ g, g = fun k => w8 (h0 3 k) := ⟨_, rfl⟩
    have gh : (fun k => w8 (h 3 k)) = g := by rw [eg]; funext k; rw [f 3 k (by unfold wrP; omega)]
    have eb : z_iand (w8 (h 3 p)) 255 = bB g p := by rw [← gh]; rfl
    have rg := bB_rg g p
    have te := tEnd_rg (g := g) (show p < N by omega)
    rw [← eg]
    -- behind the token
    have nxt : ∀ (h2 : zH) (l : Int), l + 1 = tEnd g N p → ¬ (bB g p = 32 ∨ bB g p = 10) → frB cwP h h2 → ((wTok g N p s).1 = 0 → cW (wTok g N p s).2 h2) → z_Y D M_X10_read d 118 [(0, 2, 7), (1, 2, 3), (2, 0, N), (3, 0, l), (4, 0, p)] [(0, (wTok g N p s).1), (2, 7)] G h2 (wrQ G h0 (wRun g N (m + 1) p s)) := by
      intro h2 l el nb f2 c2
      have kr := wKind_rg (g := g) (N := N) (p := p) (s := s)
      refine b_X10_read_118 ⟨by omega, by omega⟩ (fun c => ?_) (fun c => ?_)
      · have er : wRun g N (m + 1) p s = wRun g N m (tEnd g N p) (wTok g N p s).2 := by
          conv => lhs; unfold wRun
          rw [if_neg pN, if_neg nb, if_pos c]
        rw [er, ← el]
        refine l_skip22 (by omega) N1 (by omega) (l + 1 - (p + 1)).toNat (p + 1) (by omega) (by omega) (by omega) ?_
        have q := ih (l + 1) l (wTok g N p s).2 (z_wr h2 7 1 (wTok g N p s).1) (by omega) (by omega) (by omega) (by omega) (by omega) (wTok_inv i c) (cW_w (c2 c) (Or.inl rfl)) ((f.tr (f2.imp fun a j w => cwP_r w)).w ⟨by omega, by omega⟩)
        rw [← eg] at q
        exact q
      · have er : wRun g N (m + 1) p s = ((wTok g N p s).1, p, s) := by
          conv => lhs; unfold wRun
          rw [if_neg pN, if_neg nb, if_neg c]
        rw [er]
        exact ⟨rfl, rfl, ((f.tr (f2.imp fun a j w => cwP_r w)).w ⟨by omega, by omega⟩).w ⟨by omega, by omega⟩, by rw [w_nj (by omega), w_s], by rw [w_s], fun w => absurd w c⟩
    have blk : bB g p = 32 ∨ bB g p = 10 → z_Y D M_X10_read d 22 [(0, 2, 7), (1, 2, 3), (2, 0, N), (3, 0, l), (4, 0, p + 1)] [] G h (wrQ G h0 (wRun g N (m + 1) p s)) := by
      intro nb
      have er : wRun g N (m + 1) p s = wRun g N m (p + 1) s := by
        conv => lhs; unfold wRun
        rw [if_neg pN, if_pos nb]
      rw [er]
      have q := ih (p + 1) l s h (by omega) (by omega) (by omega) l0 (by omega) i k f
      rw [← eg] at q
      exact q
    refine b_X10_read_22 (by omega) ⟨by omega, by omega⟩ ⟨by omega, by omega⟩ (fun _ => hl.i 3 (by decide) rfl) (fun _ => by rw [l3]; exact ⟨by omega, by omega⟩) (fun _ _ => p0) (fun _ _ => by rw [l3]; omega) (fun _ _ => ⟨by omega, by omega⟩) (fun _ _ _ => by rw [eb]; exact ⟨by omega, by omega⟩) (fun c => absurd c pN) (fun _ c => by rw [l3] at c; omega) (fun _ _ c => by omega) (fun _ _ _ c => ?_) (fun _ _ _ c c2 c3 => ?_) (fun _ _ _ c c2 c3 => ?_) (fun _ _ _ _ c => ?_) hl
    · rw [eb] at c; exact blk (Or.inl c)
    · rw [eb] at c c2 c3 ⊢
      have et : tEnd g N p = lEnd g N (N - p).toNat (p + 1) := by unfold tEnd; rw [if_pos c3]
      have ek : wTok g N p s = wWord (wNo g p (tEnd g N p) 15 1) s := by unfold wTok; rw [if_pos c3]
      have q := l_lastL (D := D) (d := d - 1) (G := G) (h := h) (by omega) N1 (N - p).toNat (p + 1) (by omega) (by omega) (by omega)
      rw [gh, show p + 1 - 1 = p by omega, ← et] at q
      refine z_Ki.of (d2 := d - 1) (by omega) (z_begin mo_X10_lastLetter rfl (nle rfl) (b_X10_lastLetter_0 q)) ?_
      rintro out G' h2 _ ⟨r1, rfl, rfl⟩
      refine ⟨_, r1, b_X10_read_83 (b_X10_read_88 (by omega) ⟨by omega, by omega⟩ (fun _ => ?_) (fun c => absurd c3 c))⟩
      have q2 := l_wordIn (D := D) (d := d - 1) (G := G') (h := h2) (p := p) (l := tEnd g N p - 1) (by omega) p0 (by omega) (by omega) 15 1 (by omega) (by omega)
      rw [gh, show tEnd g N p - 1 + 1 = tEnd g N p by omega] at q2
      refine z_Ki.of (d2 := d - 1) (by omega) (z_begin mo_X10_wordIn rfl (nle rfl) (b_X10_wordIn_0 q2)) ?_
      rintro out G'' h3 _ ⟨r2, rfl, rfl⟩
      refine ⟨_, r2, b_X10_read_106 (z_Ki.of (d2 := d - 1) (by omega) (c_takeWord (by omega) i k (wNo_rg 15 1 (by omega) (by omega))) ?_)⟩
      rintro out G3 h4 _ ⟨r3, rfl, f4, c4⟩
      refine ⟨_, r3, b_X10_read_109 ?_⟩
      have q3 := nxt h4 (tEnd g N p - 1) (by omega) (by omega) f4 (by rw [ek]; exact c4)
      rw [ek] at q3
      exact q3
    · rw [eb] at c c2 c3 ⊢
      have et : tEnd g N p = p + 1 := by unfold tEnd; rw [if_neg c3]
      have ek : wTok g N p s = wSign (bB g p) s := by unfold wTok; rw [if_neg c3]
      refine b_X10_read_88 (by omega) ⟨by omega, by omega⟩ (fun c => absurd c c3) (fun _ => ?_)
      refine z_Ki.of (d2 := d - 1) (by omega) (c_takeSign (by omega) i k rg.1 rg.2) ?_
      rintro out G3 h4 _ ⟨r3, rfl, f4, c4⟩
      have q3 := nxt h4 p (by omega) (by omega) f4 (by rw [ek]; exact c4)
      rw [ek] at q3
      exact ⟨_, r3, q3⟩
    · rw [eb] at c; exact blk (Or.inr (Classical.not_not.mp c))
theorem c_wread (hd : 9 ≤ d) {N : Int} (N0 : 0 ≤ N) (N1 : N ≤ 1000) : z_CY D M_X10_read d [(2, 7), (2, 3), (0, N)] G h (wrQ G h (wR (fun k => w8 (h 3 k)) N 0 w0)) := by
  intro hl
  have er : wR (fun k => w8 (h 3 k)) N 0 w0 = wRun (fun k => w8 (h 3 k)) N N.toNat 0 w0 := by unfold wR; rw [show N - 0 = N by omega]
  rw [er]
  refine z_begin mo_X10_read rfl (nle rfl) (b_X10_read_0 ?_) hl
  refine z_Kv.of (d2 := d - 1) (Q2 := fun out G' h' => out = .inl none ∧ G' = G ∧ h' = z_wr h 8 1 0) (by omega) (z_begin mo_X9_clear rfl (nle rfl) (b_X9_clear_0 (hl.i 8 (by decide) rfl) ⟨rfl, rfl, rfl⟩)) ?_
  rintro out G' h2 _ ⟨r1, rfl, rfl⟩
  refine ⟨r1, b_X10_read_7 (l_wread22 hd N1 N.toNat 0 (-1) w0 _ (by omega) (by omega) (by omega) (by omega) (by omega) w0_inv ?_ (((frB.rf.w ⟨by omega, by omega⟩).w ⟨by omega, by omega⟩).w ⟨by omega, by omega⟩))⟩
  refine ⟨⟨by rw [w_nj (by omega), w_s]; rfl, by rw [w_s]; rfl⟩, fun q => ?_, fun q => ?_, isW_w (isW_w ⟨by rw [w_s]; rfl, fun j a b => ?_⟩), fun j a b => ?_⟩
  · have q : (1 : Int) ≤ 0 ∧ (0 : Int) ≤ 4 := q; omega
  · have q : (0 : Int) = 6 := q; omega
  · have b : j < 0 := b; omega
  · have b : j < 0 := b; omega
end Wread2
