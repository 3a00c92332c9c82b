section Tread2
variable {D : zD} {d : Nat} {G : zG} {h h0 h1 : zH} {Q : zO → zG → zH → Prop}
/-! the class's reader of tables -/
def tIx (s : tS) (r c : Int) : Int := if s.1 = 0 then c else r * s.2.2.1 + c
def tDo (s : tS) (r c : Int) : Prop := (0 ≤ r ∧ r < s.1 ∧ 0 ≤ c ∧ c < s.2.2.1) ∨ (r = s.1 ∧ 0 ≤ c ∧ c < s.2.1)
def cR (s : tS) (h : zH) : Prop := (h 4 3 = s.1 + 1 ∧ h 4 4 = s.2.1 + 1 ∧ h 4 5 = (if s.1 = 0 then 0 else s.2.2.1)) ∧ (h 4 6 = tIx s s.1 s.2.1 ∧ h 4 7 = (if s.2.2.2.1 = -1 then 0 else s.2.2.2.2.1) ∧ h 4 8 = s.2.2.2.1) ∧ ∀ r c : Int, tDo s r c → h 6 (tIx s r c) = s.2.2.2.2.2 r c
def cE (s : tS) (h : zH) : Prop := (h 4 3 = s.1 + 1 ∧ h 4 4 = s.2.1 + 1 ∧ h 4 5 = (if s.1 = 0 then 0 else s.2.2.1)) ∧ (h 4 6 = tIx s s.1 s.2.1 + 1 ∧ h 4 7 = 0 ∧ h 4 8 = 0) ∧ ∀ r c : Int, (tDo s r c ∨ (r = s.1 ∧ c = s.2.1)) → h 6 (tIx s r c) = tPut s r c
def cP (a j : Int) : Prop := (a = 4 ∧ 3 ≤ j) ∨ a = 5 ∨ a = 6
def tQ (G : zG) (h : zH) (k : Int) (n : tS) : zO → zG → zH → Prop := fun out G' h' => out = .inl (some (0, k)) ∧ G' = G ∧ frB cP h h' ∧ (k = 0 → cR n h')
theorem tQ_n {k : Int} {n : tS} (hk : ¬ k = 0) : tQ G h k n (.inl (some (0, k))) G h := ⟨rfl, rfl, frB.rf, fun w => absurd w hk⟩
theorem tIx_rg {s : tS} (i : tInv s) : 0 ≤ tIx s s.1 s.2.1 ∧ tIx s s.1 s.2.1 < 72 := by
  have i1 := i.1
  unfold tIx
  split
  · omega
  · have q := i1.2.2.2.2 (by omega)
    have a := Int.mul_le_mul (show s.1 ≤ 11 by omega) (show s.2.2.1 ≤ 6 by omega) (by omega) (by omega)
    have b := Int.mul_nonneg (show 0 ≤ s.1 by omega) (show 0 ≤ s.2.2.1 by omega)
    omega
theorem tIx_ij {s : tS} (i : tInv s) {r c : Int} (w : tDo s r c) : ¬ tIx s r c = tIx s s.1 s.2.1 := by
  have i1 := i.1
  unfold tDo at w
  unfold tIx
  split
  · omega
  · have q := i1.2.2.2.2 (by omega)
    intro e
    have := ix_inj (C := s.2.2.1) (by omega) (by omega) (by omega) (by omega) e
    omega
theorem c_endCell {s : tS} (i : tInv s) (k : cR s h) : z_CY D M_X5_endCell d [(2, 4)] G h (fun out G' h' => out = .inl none ∧ G' = G ∧ frB cP h h' ∧ cE s h') := by
  have rg := tIx_rg i
  obtain ⟨⟨k1, k2, k3⟩, ⟨k4, k5, k6⟩, k7⟩ := k
  refine z_begin mo_X5_endCell rfl (nle rfl) (b_X5_endCell_0 ⟨by omega, by omega⟩ (fun _ => by omega) (fun c => by omega) (fun c => by omega) (fun _ => b_X5_endCell_35 ?_))
  refine ⟨rfl, rfl, (((frB.rf.w (Or.inr (Or.inr rfl))).w (Or.inl ⟨rfl, by omega⟩)).w (Or.inl ⟨rfl, by omega⟩)).w (Or.inl ⟨rfl, by omega⟩), ⟨?_, ?_, ?_⟩, ⟨?_, ?_, ?_⟩, fun r c w => ?_⟩
  · rw [w_nj (by omega), w_nj (by omega), w_nj (by omega), w_na (by omega)]; exact k1
  · rw [w_nj (by omega), w_nj (by omega), w_nj (by omega), w_na (by omega)]; exact k2
  · rw [w_nj (by omega), w_nj (by omega), w_nj (by omega), w_na (by omega)]; exact k3
  · rw [w_nj (by omega), w_nj (by omega), w_s]; omega
  · rw [w_s]
  · rw [w_nj (by omega), w_s]
  · rw [w_na (by omega), w_na (by omega), w_na (by omega), k4, k6]
    unfold tPut
    by_cases e : r = s.1 ∧ c = s.2.1
    · rw [if_pos e, e.1, e.2, w_s]
    · rcases w with w | w
      · rw [if_neg e, w_nj (tIx_ij i w)]; exact k7 r c w
      · exact absurd w e
theorem cE_comma {s : tS} {v : Int} (k : cE s h) (hv : v = s.2.1 + 2) : cR (s.1, s.2.1 + 1, s.2.2.1, 0, 0, tPut s) (z_wr h 4 4 v) := by
  obtain ⟨⟨k1, k2, k3⟩, ⟨k4, k5, k6⟩, k7⟩ := k
  refine ⟨⟨by rw [w_nj (by omega)]; exact k1, by rw [w_s, hv]; dsimp only; omega, by rw [w_nj (by omega)]; exact k3⟩, ⟨?_, by rw [w_nj (by omega), k5]; dsimp only; rfl, by rw [w_nj (by omega)]; exact k6⟩, fun r c w => ?_⟩
  · rw [w_nj (by omega), k4]
    unfold tIx
    dsimp only
    split <;> omega
  · rw [w_na (by omega)]
    refine k7 r c ?_
    unfold tDo at w ⊢
    dsimp only at w
    omega
theorem cE_semi {s : tS} {v1 v2 v3 : Int} (i : tInv s) (q : ¬ (0 < s.1 ∧ s.2.1 + 1 < s.2.2.1)) (k : cE s h) (e1 : v1 = s.2.1 + 1) (e2 : v2 = 1) (e3 : v3 = s.1 + 2) : cR (s.1 + 1, 0, if s.1 = 0 then s.2.1 + 1 else s.2.2.1, 0, 0, tPut s) (z_wr (z_wr (z_wr h 4 5 v1) 4 4 v2) 4 3 v3) := by
  obtain ⟨⟨k1, k2, k3⟩, ⟨k4, k5, k6⟩, k7⟩ := k
  have i1 := i.1
  refine ⟨⟨by rw [w_s, e3]; dsimp only; omega, by rw [w_nj (by omega), w_s, e2]; rfl, ?_⟩, ⟨?_, by rw [w_nj (by omega), w_nj (by omega), w_nj (by omega), k5]; dsimp only; rfl, by rw [w_nj (by omega), w_nj (by omega), w_nj (by omega)]; exact k6⟩, fun r c w => ?_⟩
  · rw [w_nj (by omega), w_nj (by omega), w_s, e1]
    dsimp only
    rw [if_neg (by omega)]
    split
    · rfl
    · have := i1.2.2.2.2 (by omega); omega
  · rw [w_nj (by omega), w_nj (by omega), w_nj (by omega), k4]
    unfold tIx
    dsimp only
    rw [if_neg (show ¬ s.1 + 1 = 0 by omega)]
    by_cases z : s.1 = 0
    · rw [if_pos z, if_pos z, z]; omega
    · have := i1.2.2.2.2 (by omega)
      rw [if_neg z, if_neg z, Int.add_mul]; omega
  · rw [w_na (by omega), w_na (by omega), w_na (by omega)]
    unfold tDo at w
    dsimp only at w
    have w' : 0 ≤ r ∧ r < s.1 + 1 ∧ 0 ≤ c ∧ c < (if s.1 = 0 then s.2.1 + 1 else s.2.2.1) := by omega
    have e : tIx (s.1 + 1, 0, if s.1 = 0 then s.2.1 + 1 else s.2.2.1, 0, 0, tPut s) r c = tIx s r c := by
      unfold tIx
      dsimp only
      rw [if_neg (show ¬ s.1 + 1 = 0 by omega)]
      by_cases z : s.1 = 0
      · rw [if_pos z, if_pos z, show r = 0 by omega]; omega
      · rw [if_neg z, if_neg z]
    rw [e]
    refine k7 r c ?_
    unfold tDo
    by_cases z : s.1 = 0
    · rw [if_pos z] at w'; omega
    · have := i1.2.2.2.2 (by omega)
      rw [if_neg z] at w'; omega
theorem zmk_in (x : Int) : z_in (zmk x) := by
  unfold zmk
  split <;> (try split) <;> (try split) <;> (try split) <;> exact ⟨by decide, by decide⟩
theorem c_takeCell (hd : 2 ≤ d) {s : tS} {x : Int} (i : tInv s) (k : cR s h) (x0 : 0 ≤ x) (x1 : x ≤ 255) (c1 : ¬ x = 44) (c2 : ¬ x = 59) : z_CY D M_X5_takeCellByte d [(2, 4), (0, x)] G h (tQ G h (tKind x s) (tNext x s)) := by
  obtain ⟨⟨k1, k2, k3⟩, ⟨k4, k5, k6⟩, k7⟩ := k
  have vv := tInv_v i
  have ek : tKind x s = zif (s.2.2.2.1 = -1 ∨ ¬ tGood x s.2.2.2.2.1) 1 (if s.2.2.2.2.1 = 7 then 2 else 0) := by unfold tKind; rw [if_neg c1, if_neg c2]
  have en : tNext x s = (s.1, s.2.1, s.2.2.1, if x = 63 then -1 else s.2.2.2.1 * 256 + x, s.2.2.2.2.1 + 1, s.2.2.2.2.2) := by unfold tNext; rw [if_neg c1, if_neg c2]
  rw [ek, en]
  have one : (s.2.2.2.1 = -1 ∨ ¬ tGood x s.2.2.2.2.1) → tQ G h (zif (s.2.2.2.1 = -1 ∨ ¬ tGood x s.2.2.2.2.1) 1 (if s.2.2.2.2.1 = 7 then 2 else 0)) (s.1, s.2.1, s.2.2.1, if x = 63 then -1 else s.2.2.2.1 * 256 + x, s.2.2.2.2.1 + 1, s.2.2.2.2.2) (.inl (some (0, 1))) G h := fun q => by
    rw [zif1 q]
    exact tQ_n (by decide)
  by_cases va : s.2.2.2.1 = -1
  · exact z_begin mo_X5_takeCellByte rfl (nle rfl) (b_X5_takeCellByte_0 (by rw [k6]; exact ⟨by omega, by omega⟩) (fun c => absurd (k6.trans va) c) (fun c => absurd (k6.trans va) c) (fun _ => one (Or.inl va)) (fun c => absurd (k6.trans va) c) (fun c => absurd (k6.trans va) c) (fun c => absurd (k6.trans va) c))
  obtain ⟨v0, n0, n7, v1⟩ := vv.2.2 va
  rw [if_neg va] at k5
  -- behind the looks at the byte
  have g65 : (¬ x = 63 ∧ tGood x s.2.2.2.2.1) → z_Y D M_X5_takeCellByte d 65 [(0, 2, 4), (1, 0, x)] [] G h (tQ G h (zif (s.2.2.2.1 = -1 ∨ ¬ tGood x s.2.2.2.2.1) 1 (if s.2.2.2.2.1 = 7 then 2 else 0)) (s.1, s.2.1, s.2.2.1, if x = 63 then -1 else s.2.2.2.1 * 256 + x, s.2.2.2.2.1 + 1, s.2.2.2.2.2)) := by
    rintro ⟨n63, g⟩
    have e0 : zif (s.2.2.2.1 = -1 ∨ ¬ tGood x s.2.2.2.2.1) 1 (if s.2.2.2.2.1 = 7 then 2 else 0) = (if s.2.2.2.2.1 = 7 then 2 else (0 : Int)) := zif0 (fun w => w.elim va (fun w => w g))
    rw [e0]
    refine b_X5_takeCellByte_65 (by rw [k5]; exact ⟨by omega, by omega⟩) (fun _ => ⟨by omega, by omega⟩) (fun c => ?_) (fun c => ?_)
    · rw [k5] at c
      rw [if_neg c, if_neg n63, k5, k6]
      have l := (lsb8 n0 (by omega) v0 v1 x0 x1).1
      rw [l]
      refine ⟨rfl, rfl, (frB.rf.w (Or.inl ⟨rfl, by omega⟩)).w (Or.inl ⟨rfl, by omega⟩), fun _ => ⟨⟨by rw [w_nj (by omega), w_nj (by omega)]; exact k1, by rw [w_nj (by omega), w_nj (by omega)]; exact k2, by rw [w_nj (by omega), w_nj (by omega)]; exact k3⟩, ⟨by rw [w_nj (by omega), w_nj (by omega)]; exact k4, ?_, by rw [w_nj (by omega), w_s]⟩, fun r c w => by rw [w_na (by omega), w_na (by omega)]; exact k7 r c w⟩⟩
      rw [w_s]
      dsimp only
      rw [if_neg (by omega)]
    · rw [k5] at c
      rw [if_pos (Classical.not_not.mp c)]
      exact tQ_n (by decide)
  have g26 : (x = 63 → s.2.2.2.2.1 = 0) → z_Y D M_X5_takeCellByte d 26 [(0, 2, 4), (1, 0, x)] [] G h (tQ G h (zif (s.2.2.2.1 = -1 ∨ ¬ tGood x s.2.2.2.2.1) 1 (if s.2.2.2.2.1 = 7 then 2 else 0)) (s.1, s.2.1, s.2.2.1, if x = 63 then -1 else s.2.2.2.1 * 256 + x, s.2.2.2.2.1 + 1, s.2.2.2.2.2)) := by
    intro hq
    refine b_X5_takeCellByte_26 hd ⟨by omega, by omega⟩ (fun _ _ _ => zmk_in x) (fun c c3 => g65 ⟨c, Or.inl c3⟩) (fun c _ c3 => g65 ⟨c, Or.inr (Or.inl c3)⟩) (fun c _ _ c3 => g65 ⟨c, Or.inr (Or.inr (Or.inl c3))⟩) (fun c c3 c4 c5 => one (Or.inr fun g => ?_)) (fun c => ?_)
    · rcases g with g | g | g | g
      · exact c3 g
      · exact c4 g
      · exact c5 g
      · exact c g.1
    · have x63 := Classical.not_not.mp c
      have n00 := hq x63
      have g : tGood x s.2.2.2.2.1 := Or.inr (Or.inr (Or.inr ⟨x63, n00⟩))
      have e0 : zif (s.2.2.2.1 = -1 ∨ ¬ tGood x s.2.2.2.2.1) 1 (if s.2.2.2.2.1 = 7 then 2 else 0) = (if s.2.2.2.2.1 = 7 then 2 else (0 : Int)) := zif0 (fun w => w.elim va (fun w => w g))
      rw [e0, if_neg (by omega), if_pos x63]
      refine ⟨rfl, rfl, frB.rf.w (Or.inl ⟨rfl, by omega⟩), fun _ => ⟨⟨by rw [w_nj (by omega)]; exact k1, by rw [w_nj (by omega)]; exact k2, by rw [w_nj (by omega)]; exact k3⟩, ⟨by rw [w_nj (by omega)]; exact k4, ?_, by rw [w_s]⟩, fun r c w => by rw [w_na (by omega)]; exact k7 r c w⟩⟩
      rw [w_nj (by omega), k5, n00]
      dsimp only
      rw [if_pos rfl]
  refine z_begin mo_X5_takeCellByte rfl (nle rfl) (b_X5_takeCellByte_0 (by rw [k6]; exact ⟨by omega, by omega⟩) (fun _ => ⟨by omega, by omega⟩) (fun _ _ => by rw [k5]; exact ⟨by omega, by omega⟩) (fun c => absurd (k6.symm.trans c) va) (fun _ c => g26 (fun w => absurd w c)) (fun _ c c3 => g26 (fun _ => by rw [k5] at c3; omega)) (fun _ c c3 => one (Or.inr fun g => ?_)))
  rw [k5] at c3
  rw [Classical.not_not.mp c] at g
  have z : zmk 63 = -1 := by decide
  unfold tGood at g
  rw [z] at g
  omega
theorem c_takeByte (hd : 4 ≤ d) {s : tS} {x : Int} (i : tInv s) (k : cR s h) (x0 : 0 ≤ x) (x1 : x ≤ 255) : z_CY D M_X5_takeByte d [(2, 4), (0, x)] G h (tQ G h (tKind x s) (tNext x s)) := by
  have i1 := i.1
  obtain ⟨⟨k1, k2, k3⟩, k46, k7⟩ := id k
  have in5 : z_in (h 4 5) := by
    rw [k3]
    split
    · exact ⟨by omega, by omega⟩
    · have := i1.2.2.2.2 (by omega); exact ⟨by omega, by omega⟩
  refine z_begin mo_X5_takeByte rfl (nle rfl) (b_X5_takeByte_0 ⟨by omega, by omega⟩ (fun c1 c2 => ?_) (fun c1 c2 => ?_) (fun c1 => ?_))
  · refine z_Ki.of (d2 := d - 1) (by omega) (c_takeCell (by omega) i k x0 x1 c1 c2) fun out G' h' _ hh => ⟨_, hh.1, b_X5_takeByte_27 ⟨rfl, hh.2⟩⟩
  · have c2 := Classical.not_not.mp c2
    have ek : tKind x s = (if 0 < s.1 ∧ s.2.1 + 1 < s.2.2.1 then 3 else if s.1 + 1 = 12 then 4 else 0) := by unfold tKind; rw [if_neg c1, if_pos c2]
    have en : tNext x s = (s.1 + 1, 0, if s.1 = 0 then s.2.1 + 1 else s.2.2.1, 0, 0, tPut s) := by unfold tNext; rw [if_neg c1, if_pos c2]
    have sho : (1 < h 4 3 ∧ h 4 4 < h 4 5) ↔ (0 < s.1 ∧ s.2.1 + 1 < s.2.2.1) := by
      rw [k1, k2, k3]
      by_cases z : s.1 = 0
      · rw [if_pos z]; omega
      · rw [if_neg z]; omega
    have q : z_CY D M_X5_takeSemicolon (d - 1) [(2, 4)] G h (tQ G h (tKind x s) (tNext x s)) := by
      rw [ek, en]
      refine z_begin mo_X5_takeSemicolon rfl (nle rfl) (b_X5_takeSemicolon_0 (by omega) (by rw [k1]; exact ⟨by omega, by omega⟩) (by rw [k2]; exact ⟨by omega, by omega⟩) in5 (fun c => ?_) (fun c c3 => ?_) (fun c c3 => ?_))
      · rw [if_pos (sho.1 c)]
        exact tQ_n (by decide)
      · have nc : ¬ (0 < s.1 ∧ s.2.1 + 1 < s.2.2.1) := fun w => c (sho.2 w)
        rw [if_neg nc, if_neg (by omega)]
        refine z_Kv.of (d2 := d - 2) (by omega) (c_endCell i k) ?_
        rintro out G' h' _ ⟨r1, rfl, f, ce⟩
        refine ⟨r1, b_X5_takeSemicolon_24 ⟨rfl, rfl, ((f.w (Or.inl ⟨rfl, by omega⟩)).w (Or.inl ⟨rfl, by omega⟩)).w (Or.inl ⟨rfl, by omega⟩), fun _ => cE_semi i nc ce ?_ rfl ?_⟩⟩
        · exact ce.1.2.1
        · rw [ce.1.1]; omega
      · have nc : ¬ (0 < s.1 ∧ s.2.1 + 1 < s.2.2.1) := fun w => c (sho.2 w)
        rw [if_neg nc, if_pos (by omega)]
        exact tQ_n (by decide)
    refine z_Ki.of (d2 := d - 1) (by omega) q fun out G' h' _ hh => ⟨_, hh.1, b_X5_takeByte_21 ⟨rfl, hh.2⟩⟩
  · have c1 := Classical.not_not.mp c1
    have ek : tKind x s = (if 0 < s.1 ∧ s.2.1 + 1 = s.2.2.1 then 3 else if s.2.1 + 1 = 6 then 4 else 0) := by unfold tKind; rw [if_pos c1]
    have en : tNext x s = (s.1, s.2.1 + 1, s.2.2.1, 0, 0, tPut s) := by unfold tNext; rw [if_pos c1]
    have q : z_CY D M_X5_takeComma (d - 1) [(2, 4)] G h (tQ G h (tKind x s) (tNext x s)) := by
      rw [ek, en]
      have g21 : ¬ (0 < s.1 ∧ s.2.1 + 1 = s.2.2.1) → z_Y D M_X5_takeComma (d - 1) 21 [(0, 2, 4)] [] G h (tQ G h (if 0 < s.1 ∧ s.2.1 + 1 = s.2.2.1 then 3 else if s.2.1 + 1 = 6 then 4 else 0) (s.1, s.2.1 + 1, s.2.2.1, 0, 0, tPut s)) := by
        intro nc
        rw [if_neg nc]
        refine b_X5_takeComma_21 (by rw [k2]; exact ⟨by omega, by omega⟩) (fun c => ?_) (fun c => ?_)
        · rw [if_neg (by omega)]
          refine z_Kv.of (d2 := d - 2) (by omega) (c_endCell i k) ?_
          rintro out G' h' _ ⟨r1, rfl, f, ce⟩
          refine ⟨r1, b_X5_takeComma_36 ⟨rfl, rfl, f.w (Or.inl ⟨rfl, by omega⟩), fun _ => cE_comma ce ?_⟩⟩
          rw [ce.1.2.1]; omega
        · rw [if_pos (by omega)]
          exact tQ_n (by decide)
      refine z_begin mo_X5_takeComma rfl (nle rfl) (b_X5_takeComma_0 (by rw [k1]; exact ⟨by omega, by omega⟩) (fun _ => by rw [k2]; exact ⟨by omega, by omega⟩) (fun _ => in5) (fun c => g21 (by omega)) (fun c c3 => g21 ?_) (fun c c3 => ?_))
      · rw [k2, k3, if_neg (by omega)] at c3
        omega
      · rw [k2, k3, if_neg (by omega)] at c3
        rw [if_pos (by omega)]
        exact tQ_n (by decide)
    refine z_Ki.of (d2 := d - 1) (by omega) q fun out G' h' _ hh => ⟨_, hh.1, b_X5_takeByte_10 ⟨rfl, hh.2⟩⟩
end Tread2
