section Strs
variable {D : zD} {M M2 : zM} {d d2 pc q t idx k : Nat} {L : List (Nat × zV)} {st av rest : List zV} {G G1 : zG} {h h1 : zH} {o : zO} {Q Q2 : zO → zG → zH → Prop}
/-! texts: constants 10 + i, their bytes 30 + i -/
theorem z_adk (n : Nat) (hn : 1 ≤ n) : z_ad D (-(n : Int)) = D.2.2.2.2.1 n := by
  unfold z_ad
  rw [if_neg (by omega)]
  simp
theorem z_cs (i : Nat) (hi : i < 16) : z_at D G h (-(30 + (i : Int))) 52 (z_sl.getD i 0 : Nat) (z_sby i) := Or.inr (Or.inr ⟨i, hi, rfl, rfl, rfl, rfl⟩)
theorem z_ldcs {i : Nat} {tx : String} (hm : (M.1.cls, idx, tx, i) ∈ z_sk) (hd : decode M.2.1 pc = .ok (.ldc idx, 2)) (hq : pc + 2 = q) (kk : z_F D M d q L ((2, -(10 + (i : Int))) :: st) G h Q) : z_F D M d pc L st G h Q := by
  subst hq
  refine z_pure (fun cx hr hl kk => ?_) kk
  refine va_ldcS cx.1 cx.2.1 cx.own (cx.wd.2.2.2.2.1 _ hm) hd ?_
  have := kk _ hl
  rw [z_sc_ref (by omega), show (-(10 + (i : Int))) = -((10 + i : Nat) : Int) by omega, z_adk _ (by omega)] at this
  exact this
theorem z_sgv (i : Nat) (hi : i < 16) (hlk : Cond.fieldLink M.1.cls idx "java/lang/String" "value" "[B" ∈ zT) (hd : decode M.2.1 pc = .ok (.getfield idx, 3)) (hq : pc + 3 = q) (kk : z_F D M d q L ((2, -(30 + (i : Int))) :: st) G h Q) : z_F D M d pc L ((2, -(10 + (i : Int))) :: st) G h Q := by
  subst hq
  refine z_pure (fun cx hr hl kk => ?_) kk
  obtain ⟨cf, kf, fi, f, cell, h1, h2, h3, h4, h5, h6⟩ := (cx.wd.2.2.2.1.1 i hi).2.2.1
  rw [z_sc_ref (by omega), show (-(10 + (i : Int))) = -((10 + i : Nat) : Int) by omega, z_adk _ (by omega)]
  refine W.getf cx.1 cx.2.1 cx.own (cx.hts _ hlk) h1 h2 (by rw [hr.2.1 _ (Nat.not_le.mp h6)]; exact h3) h4 h5 rfl rfl hd ?_
  have := kk _ hl
  rw [z_sc_ref (by omega), show (-(30 + (i : Int))) = -((30 + i : Nat) : Int) by omega, z_adk _ (by omega)] at this
  exact this
theorem z_sgc (i : Nat) (hi : i < 16) (hlk : Cond.fieldLink M.1.cls idx "java/lang/String" "coder" "B" ∈ zT) (hd : decode M.2.1 pc = .ok (.getfield idx, 3)) (hq : pc + 3 = q) (kk : z_F D M d q L ((0, 0) :: st) G h Q) : z_F D M d pc L ((2, -(10 + (i : Int))) :: st) G h Q := by
  subst hq
  refine z_pure (fun cx hr hl kk => ?_) kk
  obtain ⟨cf, kf, fi, f, cell, h1, h2, h3, h4, h5, h6⟩ := (cx.wd.2.2.2.1.1 i hi).2.1
  rw [z_sc_ref (by omega), show (-(10 + (i : Int))) = -((10 + i : Nat) : Int) by omega, z_adk _ (by omega)]
  exact W.getf cx.1 cx.2.1 cx.own (cx.hts _ hlk) h1 h2 (by rw [hr.2.1 _ (Nat.not_le.mp h6)]; exact h3) h4 h5 rfl rfl hd (kk _ hl)
theorem z_getz (hlk : Cond.fieldLink M.1.cls idx "java/lang/String" "COMPACT_STRINGS" "Z" ∈ zT) (hd : decode M.2.1 pc = .ok (.getstatic idx, 3)) (hq : pc + 3 = q) (kk : z_F D M d q L ((0, 1) :: st) G h Q) : z_F D M d pc L st G h Q := by
  subst hq
  refine z_pure (fun cx hr hl' kk => ?_) kk
  obtain ⟨cf, kf, fi, f, a, cell, h1, h2, h3, h4, h5, h6, h7, h8⟩ := cx.wd.2.2.2.2.2.1
  exact W.gets cx.1 cx.2.1 cx.own (cx.hts _ hlk) h1 h2 h3 h4 (by rw [hr.2.1 a (Nat.not_le.mp h8)]; exact h5) (fun e => by rw [e] at h6; cases h6) h7 rfl hd (kk _ hl')
/-- a static's reference, or null: as the start has it -/
def z_rv (D : zD) (c : Nat) : Int := if D.2.2.2.2.1 (c + 10) = 0 then -1 else -(c : Int)
theorem z_getr {c : Nat} {C n ds : String} (hm : (C, n, ds, c) ∈ z_srf) (hc : 2 ≤ c) (hlk : Cond.fieldLink M.1.cls idx C n ds ∈ zT) (hd : decode M.2.1 pc = .ok (.getstatic idx, 3)) (hq : pc + 3 = q) (kk : z_F D M d q L ((2, z_rv D c) :: st) G h Q) : z_F D M d pc L st G h Q := by
  subst hq
  refine z_pure (fun cx hr hl' kk => ?_) kk
  obtain ⟨cf, kf, fi, f, a, cell, h1, h2, h3, h4, h5, h6, h7, h8⟩ := cx.wd.2.2.2.2.2.2 _ hm
  refine W.gets cx.1 cx.2.1 cx.own (cx.hts _ hlk) h1 h2 h3 h4 (by rw [hr.2.1 a (Nat.not_le.mp h8)]; exact h5) (fun e => by rw [e] at h6; cases h6) h7 rfl hd ?_
  have := kk _ hl'
  have e : z_v D 2 (z_rv D c) = (if D.2.2.2.2.1 (c + 10) = 0 then .null else .ref (D.2.2.2.2.1 c)) := by
    unfold z_rv z_v
    by_cases z : D.2.2.2.2.1 (c + 10) = 0
    · simp [z]
    · rw [if_neg z]
      have n1 : ¬ (-(c : Int)) = -1 := by omega
      simp only [n1, if_false, z]
      rw [z_adk c (by omega)]
  show W _ _ _ _ _ _ _ _ _ _ _ _ _ _ _ (F0 _ _ _ ((if D.2.2.2.2.1 (c + 10) = 0 then .null else .ref (D.2.2.2.2.1 c)) :: z_sc D st))
  rw [← e]
  exact this
theorem z_rev3 (D : zD) {a : Int} (ha : ¬ a = -1) (av rest : List zV) : z_sc D (((2, a) :: av).reverse ++ rest) = (z_sc D av).reverse ++ .ref (z_ad D a) :: z_sc D rest := by
  rw [z_rev, z_sc_ref ha]
  simp
theorem z_invVs (i : Nat) (hi : i < 16) (hc2 : z_C D M2 d2 ((2, -(10 + (i : Int))) :: av) G h Q2) (hm : z_mok M2) (hn : z_np M2 av.length) (hlink : Cond.methodLink M.1.cls idx M2.1 ∈ zT) (hinst : Cond.instanceMethod M2.1 ∈ zT) (hsel : Cond.selects "java/lang/String" M2.1 M2.1 ∈ zT) (hdd : d2 + 1 ≤ d) (hst : st = ((2, -(10 + (i : Int))) :: av).reverse ++ rest) (hw : z_wid rest ≤ 20) (hd : decode M.2.1 pc = .ok (.invokevirtual idx, 3)) (hq : pc + 3 = q)
    (kr : ∀ r G1 h1, Q2 (.inl r) G1 h1 → z_F D M d q L (r.toList ++ rest) G1 h1 Q) (kt : ∀ a G1 h1, Q2 (.inr a) G1 h1 → z_T D M d pc L rest G1 h1 a Q) : z_F D M d pc L st G h Q := by
  subst hst
  have hne : ¬ (-(10 + (i : Int))) = -1 := by omega
  refine z_callG hc2 hm hdd hw hd hq (fun {p l e R s m args below meth c U locs cells slots ls} cx hr hl X => ?_) kr kt
  obtain ⟨cell, d1, d2, d3, d4⟩ := (cx.wd.2.2.2.1.1 i hi).1
  have ead : z_ad D (-(10 + (i : Int))) = D.2.2.2.2.1 (10 + i) := by rw [show (-(10 + (i : Int))) = -((10 + i : Nat) : Int) by omega, z_adk _ (by omega)]
  have c1 : U.heap[z_ad D (-(10 + (i : Int)))]? = some cell := by rw [ead, hr.2.1 _ (Nat.not_le.mp d4)]; exact d1
  obtain ⟨mk, methM, hnamed, hmethM, hstM, habM⟩ := Cond.instanceMethod_spec (cx.hts _ hinst)
  obtain ⟨mk', methM', cM, hnamed', hmethM', -, -, -, -, -, -, hsigM⟩ := hm.spec cx.hts
  cases hnamed.symm.trans hnamed'
  cases hmethM.symm.trans hmethM'
  obtain ⟨c2, r2', m2, q1, q2, q3, q4, kP, hkP, hkPi⟩ := Cond.selects_spec (cx.hts _ hsel)
  have hcc : c2 = cell.cls := Option.some.inj (q1.symm.trans d3)
  subst hcc
  cases (State.methodFound?_of_named hnamed hm.2.2.1).symm.trans q2
  cases hnamed.symm.trans q3
  have hselP : selectMethod e.platform s.vm cell.cls mk = .method mk := by rw [Launch.admits_selectMethod X.admits]; exact q4
  obtain ⟨vm₁, X₁, hstep₁⟩ := X.invokevirtual cx.1 cx.own (cx.hts _ hlink) hnamed hmethM hstM hkP hkPi hm.2.2.1 (a := z_ad D (-(10 + (i : Int)))) (cell := cell) c1
    (fun z hz => by rw [hz] at d2; cases d2) hselP hmethM habM hkP hkPi (g := F0 m pc ls (z_sc D (((2, -(10 + (i : Int))) :: av).reverse ++ rest))) rfl (argsL := z_sc D av) (rest := z_sc D rest) (by rw [show (z_sc D av).length = av.length by simp [z_sc]]; exact hn.len hsigM) (z_rev3 D hne av rest) (by rw [cx.2.1]; exact hd)
  refine ⟨vm₁, mk, X₁, X₁.named hnamed, fun target ht => hstep₁ target fun acts => ?_⟩
  rw [doInvoke_state]
  rw [z_sc_ref hne] at ht
  exact ht
theorem z_goVs (i : Nat) (hi : i < 16) {K : Option zV → zG → zH → Prop} (hk : z_tv D M d q L rest Q K) (hl : lay G h) (kc : z_K D M2 d ((2, -(10 + (i : Int))) :: av) G h K) (hm : z_mok M2) (hn : z_np M2 av.length) (hlink : Cond.methodLink M.1.cls idx M2.1 ∈ zT) (hinst : Cond.instanceMethod M2.1 ∈ zT) (hsel : Cond.selects "java/lang/String" M2.1 M2.1 ∈ zT) (hst : st = ((2, -(10 + (i : Int))) :: av).reverse ++ rest) (hw : z_wid rest ≤ 20) (hd : decode M.2.1 pc = .ok (.invokevirtual idx, 3)) (hq : pc + 3 = q) : z_F D M d pc L st G h (fun o G' h' => lay G' h' ∧ Q o G' h') := by
  obtain ⟨d2, hdd, kc⟩ := kc
  exact z_invVs i hi (kc hl) hm hn hlink hinst hsel hdd hst hw hd hq (fun r G1 h1 ⟨hl1, r', e, hk1⟩ => by cases e; exact hk r G1 h1 hk1 hl1) (fun a G1 h1 ⟨_, r', e, _⟩ => by cases e)
/-- an int to a char: of a byte -/
theorem z_chk : ∀ n : Fin 256, ((Int32.ofInt (n.val : Int)).toUInt32 % 65536).toInt32 = Int32.ofInt (n.val : Int) ∧ narrow .char (.int (Int32.ofInt (n.val : Int))) = .int (Int32.ofInt (n.val : Int)) := by decide +kernel
theorem z_chn {x : Int} (h0 : 0 ≤ x) (h1 : x < 256) : ((Int32.ofInt x).toUInt32 % 65536).toInt32 = Int32.ofInt x ∧ narrow .char (.int (Int32.ofInt x)) = .int (Int32.ofInt x) := by
  have := z_chk ⟨x.toNat, by omega⟩
  have e : ((x.toNat : Nat) : Int) = x := by omega
  simp only [e] at this
  exact this
theorem z_i2c {x : Int} (h0 : 0 ≤ x) (h1 : x < 256) (hd : decode M.2.1 pc = .ok (.i2c, 1)) (hq : pc + 1 = q) (kk : z_F D M d q L ((0, x) :: st) G h Q) : z_F D M d pc L ((0, x) :: st) G h Q := by
  subst hq
  exact z_pure (fun cx hr hl kk => lv_i2c cx.1 cx.2.1 hd (z_chn h0 h1).1 (kk _ hl)) kk
end Strs
