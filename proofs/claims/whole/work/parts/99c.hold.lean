/-! a State takes two tables -/
def holdQ (G : zG) (h : zH) (a : Int) (S : zSt) : zO → zG → zH → Prop := fun out G' h' => out = .inl none ∧ isS h' a S ∧ (h' a 6 = 0 ∧ h' a 7 = 0 ∧ h' a 8 = 0 ∧ h' a 9 = 0) ∧ (∀ b j : Int, ¬ b = a → ¬ b = h a 0 → ¬ b = (G.1 : Int) → h' b j = h b j) ∧
  ((G' = G ∧ h' a 0 = h a 0 ∧ sz S.1 + sz S.2 ≤ G.2.2.2 (h a 0)) ∨ ∃ c : Nat, G' = z_al G 51 c ∧ h' a 0 = (G.1 : Int) ∧ (c : Int) ≤ 144 ∧ ((c : Int) = 144 ∨ 2 * G.2.2.2 (h a 0) ≤ c) ∧ G.2.2.2 (h a 0) < c ∧ sz S.1 + sz S.2 ≤ c ∧ ∀ j : Int, h' (h a 0) j = h (h a 0) j)
section Hold
variable {D : zD} {d : Nat} {G : zG} {h h0 h1 : zH} {Q : zO → zG → zH → Prop}
theorem l_hold94 (hd : 1 ≤ d) {a t u : Int} {S : zSt} {g : zH} (ta : z_is G a 1) (tc : z_is G (g a 0) 51) (tt : z_is G t 3) (tu : z_is G u 3) (tt1 : z_is G (t + 1) 51) (tu1 : z_is G (u + 1) 51) (kt : isC g t S.1) (ku : isC g u S.2) (oS : okP S) (nc : ¬ g a 0 = t + 1 ∧ ¬ g a 0 = u + 1) (dm : g a 1 = S.1.1 ∧ g a 2 = S.1.2.1 ∧ g a 3 = S.2.1 ∧ g a 4 = S.2.2.1) (ln : sz S.1 + sz S.2 ≤ G.2.2.2 (g a 0)) :
    z_Y D M_X2_hold d 94 [(0, 2, a), (1, 2, t), (2, 2, u), (3, 0, mx S), (4, 0, sz S.1), (5, 0, sz S.2)] [] G g (fun out G' h' => out = .inl none ∧ G' = G ∧ isS h' a S ∧ (h' a 6 = 0 ∧ h' a 7 = 0 ∧ h' a 8 = 0 ∧ h' a 9 = 0) ∧ h' a 0 = g a 0 ∧ ∀ b j : Int, ¬ b = a → ¬ b = g a 0 → h' b j = g b j) := by
  have z1 := sz_rg oS.1
  have z2 := sz_rg oS.2
  have m1 : ¬ a = g a 0 := z_isne ta tc (by decide)
  have n1 : ¬ t + 1 = g a 0 := fun q => nc.1 q.symm
  have n2 : ¬ u + 1 = g a 0 := fun q => nc.2 q.symm
  refine b_X2_hold_94 hd tt ta tc (by omega) (by omega) (by omega) tu (by omega) (by omega) (by omega) ?_
  have w : ∀ b j : Int, ¬ b = a → ∀ e : zH, z_wr (z_wr (z_wr (z_wr (z_wr e a 5 (mx S)) a 6 0) a 7 0) a 8 0) a 9 0 b j = e b j := fun b j nb e => by rw [w_na nb, w_na nb, w_na nb, w_na nb, w_na nb]
  have w5 : ∀ j : Int, j < 5 → ∀ e : zH, z_wr (z_wr (z_wr (z_wr (z_wr e a 5 (mx S)) a 6 0) a 7 0) a 8 0) a 9 0 a j = e a j := fun j nb e => by rw [w_nj (by omega), w_nj (by omega), w_nj (by omega), w_nj (by omega), w_nj (by omega)]
  have c0 : ∀ j : Int, z_cp (z_cp g (t + 1) 0 (g a 0) 0 (sz S.1)) (u + 1) 0 (g a 0) (sz S.1) (sz S.2) a j = g a j := fun j => by rw [c_na m1, c_na m1]
  refine ⟨rfl, rfl, ⟨⟨?_, ?_, ?_, ?_⟩, fun j j0 j1 => ?_, fun j j0 j1 => ?_, ?_⟩, ⟨?_, ?_, ?_, ?_⟩, ?_, fun b j b1 b2 => ?_⟩
  · rw [w5 1 (by omega), c0]; exact dm.1
  · rw [w5 2 (by omega), c0]; exact dm.2.1
  · rw [w5 3 (by omega), c0]; exact dm.2.2.1
  · rw [w5 4 (by omega), c0]; exact dm.2.2.2
  · rw [w5 0 (by omega), c0, w _ _ (fun q => m1 q.symm), cp_out (by omega), cp_in (by omega) (by omega), show (0 : Int) + (j - 0) = j by omega]
    exact isC_fl kt oS.1 j0 j1
  · rw [w5 0 (by omega), c0, w _ _ (fun q => m1 q.symm), cp_in (by omega) (by omega), c_na n2, show (0 : Int) + (sz S.1 + j - sz S.1) = j by omega]
    exact isC_fl ku oS.2 j0 j1
  · rw [w_nj (by omega), w_nj (by omega), w_nj (by omega), w_nj (by omega), w_s]
  · rw [w_nj (by omega), w_nj (by omega), w_nj (by omega), w_s]
  · rw [w_nj (by omega), w_nj (by omega), w_s]
  · rw [w_nj (by omega), w_s]
  · rw [w_s]
  · rw [w5 0 (by omega), c0]
  · rw [w b j b1, c_na b2, c_na b2]
theorem c_hold (hd : 1 ≤ d) {a t u : Int} {S : zSt} (sa : stS G h a) (tt : z_is G t 3) (tu : z_is G u 3) (kt : isC h t S.1) (ku : isC h u S.2) (oS : okP S) (nc : ¬ h a 0 = t + 1 ∧ ¬ h a 0 = u + 1) : z_CY D M_X2_hold d [(2, a), (2, t), (2, u), (0, mx S)] G h (holdQ G h a S) := by
  intro hl
  obtain ⟨ta, tc, l1, l2⟩ := sa
  have z1 := sz_rg oS.1
  have z2 := sz_rg oS.2
  have e1 : h t 1 * h t 2 = sz S.1 := by rw [kt.1, kt.2.1]; rfl
  have e2 : h u 1 * h u 2 = sz S.2 := by rw [ku.1, ku.2.1]; rfl
  have m1 : ¬ a = h a 0 := z_isne ta tc (by decide)
  have m2 : ¬ t = a := z_isne tt ta (by decide)
  have m3 : ¬ u = a := z_isne tu ta (by decide)
  have m4 : ¬ t + 1 = a := z_isne (hl.ti tt) ta (by decide)
  have m5 : ¬ u + 1 = a := z_isne (hl.ti tu) ta (by decide)
  have dmz : ∀ {e : zH}, (∀ j : Int, 1 ≤ j → j ≤ 4 → e a j = z_wr (z_wr (z_wr (z_wr h a 1 (h t 1)) a 2 (h t 2)) a 3 (h u 1)) a 4 (h u 2) a j) → e a 1 = S.1.1 ∧ e a 2 = S.1.2.1 ∧ e a 3 = S.2.1 ∧ e a 4 = S.2.2.1 := by
    intro e q
    refine ⟨?_, ?_, ?_, ?_⟩
    · rw [q 1 (by omega) (by omega), w_nj (by omega), w_nj (by omega), w_nj (by omega), w_s]; exact kt.1
    · rw [q 2 (by omega) (by omega), w_nj (by omega), w_nj (by omega), w_s]; exact kt.2.1
    · rw [q 3 (by omega) (by omega), w_nj (by omega), w_s]; exact ku.1
    · rw [q 4 (by omega) (by omega), w_s]; exact ku.2.1
  have w4 : ∀ b j : Int, ¬ b = a → z_wr (z_wr (z_wr (z_wr h a 1 (h t 1)) a 2 (h t 2)) a 3 (h u 1)) a 4 (h u 2) b j = h b j := fun b j nb => by rw [w_na nb, w_na nb, w_na nb, w_na nb]
  have w0 : z_wr (z_wr (z_wr (z_wr h a 1 (h t 1)) a 2 (h t 2)) a 3 (h u 1)) a 4 (h u 2) a 0 = h a 0 := by rw [w_nj (by omega), w_nj (by omega), w_nj (by omega), w_nj (by omega)]
  obtain ⟨H, eH⟩ : ∃ H, H = z_wr (z_wr (z_wr (z_wr h a 1 (h t 1)) a 2 (h t 2)) a 3 (h u 1)) a 4 (h u 2) := ⟨_, rfl⟩
  rw [← eH] at w4 w0 dmz
  have ktH : isC H t S.1 := isC_keep kt (fun j => w4 t j m2) (fun j => w4 _ j m4)
  have kuH : isC H u S.2 := isC_keep ku (fun j => w4 u j m3) (fun j => w4 _ j m5)
  refine z_begin mo_X2_hold rfl (nle rfl) (b_X2_hold_0 hd tt ta tu tc ⟨by omega, by omega⟩ ⟨by omega, by omega⟩ (fun _ => ⟨by omega, by omega⟩) (fun c => ?_) (fun c => ?_) (fun c => ?_) (fun c => ?_) (fun c => ?_)) hl
  · rw [e1, e2]; split <;> exact ⟨by omega, by omega⟩
  · rw [e1, e2]; split <;> split <;> omega
  · rw [e1, e2]; split <;> split <;> omega
  · rw [e1, e2] at c ⊢
    rw [← eH]
    refine (l_hold94 hd ta (by rw [w0]; exact tc) tt tu (hl.ti tt) (hl.ti tu) ktH kuH oS (by rw [w0]; exact nc) (dmz fun j _ _ => rfl) (by rw [w0]; omega)).mono fun out G' h' _ q => ?_
    obtain ⟨q1, q2, q3, q4, q5, q6⟩ := q
    exact ⟨q1, q3, q4, fun b j b1 b2 _ => by rw [q6 b j b1 (by rw [w0]; exact b2)]; exact w4 b j b1, Or.inl ⟨q2, by rw [q5, w0], c⟩⟩
  · rw [e1, e2] at c ⊢
    rw [← eH]
    obtain ⟨c', ec⟩ : ∃ c' : Int, c' = (if (if sz S.1 + sz S.2 < 2 * G.2.2.2 (h a 0) then 2 * G.2.2.2 (h a 0) else sz S.1 + sz S.2) < 144 then (if sz S.1 + sz S.2 < 2 * G.2.2.2 (h a 0) then 2 * G.2.2.2 (h a 0) else sz S.1 + sz S.2) else 144) := ⟨_, rfl⟩
    rw [← ec]
    have cr : sz S.1 + sz S.2 ≤ c' ∧ c' ≤ 144 ∧ (c' = 144 ∨ 2 * G.2.2.2 (h a 0) ≤ c') ∧ G.2.2.2 (h a 0) < c' := by
      rw [ec]; split <;> split <;> omega
    have ga : ¬ a = (G.1 : Int) := by have := ta.2.1; omega
    have gt : ¬ t = (G.1 : Int) := by have := tt.2.1; omega
    have gt1 : ¬ t + 1 = (G.1 : Int) := by have := (hl.ti tt).2.1; omega
    have gu : ¬ u = (G.1 : Int) := by have := tu.2.1; omega
    have gu1 : ¬ u + 1 = (G.1 : Int) := by have := (hl.ti tu).2.1; omega
    have gc : ¬ h a 0 = (G.1 : Int) := by have := tc.2.1; omega
    have g0 : z_wr (z_nw H G.1 fun _ => 0) a 0 (G.1 : Int) a 0 = (G.1 : Int) := w_s
    refine b_X2_hold_91 (al_is ta) ?_
    refine (l_hold94 hd (al_is ta) (by rw [g0]; exact al_new) (al_is tt) (al_is tu) (al_is (hl.ti tt)) (al_is (hl.ti tu)) (isC_keep ktH (fun j => ?_) (fun j => ?_)) (isC_keep kuH (fun j => ?_) (fun j => ?_)) oS ⟨?_, ?_⟩ (dmz fun j j1 _ => ?_) ?_).mono fun out G' h' _ q => ?_
    · rw [w_na m2, nw_n gt]
    · rw [w_na m4, nw_n gt1]
    · rw [w_na m3, nw_n gu]
    · rw [w_na m5, nw_n gu1]
    · rw [g0]; omega
    · rw [g0]; omega
    · rw [w_nj (by omega), nw_n ga]
    · rw [g0, al_lnn]; omega
    · obtain ⟨q1, q2, q3, q4, q5, q6⟩ := q
      rw [g0] at q5 q6
      refine ⟨q1, q3, q4, fun b j b1 b2 b3 => ?_, Or.inr ⟨c'.toNat, q2, q5, by omega, by omega, by omega, by omega, fun j => ?_⟩⟩
      · rw [q6 b j b1 b3, w_na b1, nw_n b3]; exact w4 b j b1
      · rw [q6 _ j (fun q => m1 q.symm) gc, w_na (fun q => m1 q.symm), nw_n gc]; exact w4 _ j (fun q => m1 q.symm)
/-- a new State -/
theorem c_sinit (hd : 1 ≤ d) {a : Int} (ta : z_is G a 1) : z_CY D M_X2_init d [(2, a)] G h (fun out G' h' => out = .inl none ∧ G' = z_al G 51 16 ∧ h' = z_wr (z_nw h G.1 fun _ => 0) a 0 (G.1 : Int)) :=
  z_begin mo_X2_init rfl (nle rfl) (b_X2_init_0 hd ta.1 (b_X2_init_9 (al_is ta) ⟨rfl, rfl, rfl⟩))
end Hold
