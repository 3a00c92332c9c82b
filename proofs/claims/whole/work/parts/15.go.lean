section Go
variable {D : zD} {M M2 : zM} {d d2 pc q t idx k : Nat} {L : List (Nat × zV)} {st av rest : List zV} {G G1 : zG} {h h1 : zH} {o : zO} {Q Q2 : zO → zG → zH → Prop}
/-- with the layout, before and behind -/
def z_Y (D : zD) (M : zM) (d pc : Nat) (L : List (Nat × zV)) (st : List zV) (G : zG) (h : zH) (Q : zO → zG → zH → Prop) : Prop := lay G h → z_F D M d pc L st G h (fun o G' h' => lay G' h' ∧ Q o G' h')
def z_CY (D : zD) (M : zM) (d : Nat) (av : List zV) (G : zG) (h : zH) (Q : zO → zG → zH → Prop) : Prop := lay G h → z_C D M d av G h (fun o G' h' => lay G' h' ∧ Q o G' h')
def z_YT (D : zD) (M : zM) (d pc : Nat) (L : List (Nat × zV)) (st : List zV) (G : zG) (h : zH) (a : Int) (Q : zO → zG → zH → Prop) : Prop := lay G h → z_T D M d pc L st G h a (fun o G' h' => lay G' h' ∧ Q o G' h')
theorem z_Y.mono (k : z_Y D M d pc L st G h Q) (hq : ∀ o G' h', lay G' h' → Q o G' h' → Q2 o G' h') : z_Y D M d pc L st G h Q2 := fun hl => (k hl).mono fun o G' h' hh => ⟨hh.1, hq o G' h' hh.1 hh.2⟩
theorem z_CY.mono (k : z_CY D M d av G h Q) (hq : ∀ o G' h', lay G' h' → Q o G' h' → Q2 o G' h') : z_CY D M d av G h Q2 := fun hl => (k hl).mono fun o G' h' hh => ⟨hh.1, hq o G' h' hh.1 hh.2⟩
theorem z_begin (hm : z_mok M) (hL : z_args 0 av = L) (hw : z_wid av ≤ M.2.2.1) (k : z_Y D M d 0 L [] G h Q) : z_CY D M d av G h Q := fun hl => z_enter hm hL hw (k hl)
/-- a call that comes back, with what stands behind it -/
def z_K (D : zD) (M2 : zM) (d : Nat) (av : List zV) (G : zG) (h : zH) (K : Option zV → zG → zH → Prop) : Prop := ∃ d2, d2 + 1 ≤ d ∧ z_CY D M2 d2 av G h (fun o G1 h1 => ∃ r, o = .inl r ∧ K r G1 h1)
def z_Kv (D : zD) (M2 : zM) (d : Nat) (av : List zV) (G : zG) (h : zH) (K : zG → zH → Prop) : Prop := z_K D M2 d av G h (fun r G1 h1 => r = none ∧ K G1 h1)
def z_Ki (D : zD) (M2 : zM) (d : Nat) (av : List zV) (G : zG) (h : zH) (K : Int → zG → zH → Prop) : Prop := z_K D M2 d av G h (fun r G1 h1 => ∃ x, r = some (0, x) ∧ K x G1 h1)
def z_Kl (D : zD) (M2 : zM) (d : Nat) (av : List zV) (G : zG) (h : zH) (K : Int → zG → zH → Prop) : Prop := z_K D M2 d av G h (fun r G1 h1 => ∃ x, r = some (1, x) ∧ K x G1 h1)
def z_Ka (D : zD) (M2 : zM) (d : Nat) (av : List zV) (G : zG) (h : zH) (K : Int → zG → zH → Prop) : Prop := z_K D M2 d av G h (fun r G1 h1 => ∃ x, r = some (2, x) ∧ K x G1 h1)
theorem z_Kv.of {K : zG → zH → Prop} (hd : d2 + 1 ≤ d) (k : z_CY D M2 d2 av G h Q2) (hq : ∀ o G' h', lay G' h' → Q2 o G' h' → o = .inl none ∧ K G' h') : z_Kv D M2 d av G h K := ⟨d2, hd, k.mono fun o G' h' hl hh => ⟨none, (hq o G' h' hl hh).1, rfl, (hq o G' h' hl hh).2⟩⟩
theorem z_Ki.of {K : Int → zG → zH → Prop} (hd : d2 + 1 ≤ d) (k : z_CY D M2 d2 av G h Q2) (hq : ∀ o G' h', lay G' h' → Q2 o G' h' → ∃ x, o = .inl (some (0, x)) ∧ K x G' h') : z_Ki D M2 d av G h K := ⟨d2, hd, k.mono fun o G' h' hl hh => by obtain ⟨x, e, hx⟩ := hq o G' h' hl hh; exact ⟨_, e, x, rfl, hx⟩⟩
theorem z_Kl.of {K : Int → zG → zH → Prop} (hd : d2 + 1 ≤ d) (k : z_CY D M2 d2 av G h Q2) (hq : ∀ o G' h', lay G' h' → Q2 o G' h' → ∃ x, o = .inl (some (1, x)) ∧ K x G' h') : z_Kl D M2 d av G h K := ⟨d2, hd, k.mono fun o G' h' hl hh => by obtain ⟨x, e, hx⟩ := hq o G' h' hl hh; exact ⟨_, e, x, rfl, hx⟩⟩
theorem z_Ka.of {K : Int → zG → zH → Prop} (hd : d2 + 1 ≤ d) (k : z_CY D M2 d2 av G h Q2) (hq : ∀ o G' h', lay G' h' → Q2 o G' h' → ∃ x, o = .inl (some (2, x)) ∧ K x G' h') : z_Ka D M2 d av G h K := ⟨d2, hd, k.mono fun o G' h' hl hh => by obtain ⟨x, e, hx⟩ := hq o G' h' hl hh; exact ⟨_, e, x, rfl, hx⟩⟩
/-- exact contracts: the answer and the heap behind it, told -/
def z_Ev (D : zD) (M2 : zM) (d : Nat) (av : List zV) (G : zG) (h h1 : zH) : Prop := z_CY D M2 d av G h (fun o G' h' => o = .inl none ∧ G' = G ∧ h' = h1)
def z_Ei (D : zD) (M2 : zM) (d : Nat) (av : List zV) (G : zG) (h : zH) (x : Int) (h1 : zH) : Prop := z_CY D M2 d av G h (fun o G' h' => o = .inl (some (0, x)) ∧ G' = G ∧ h' = h1)
def z_El (D : zD) (M2 : zM) (d : Nat) (av : List zV) (G : zG) (h : zH) (x : Int) (h1 : zH) : Prop := z_CY D M2 d av G h (fun o G' h' => o = .inl (some (1, x)) ∧ G' = G ∧ h' = h1)
/-- the four forms of what stands behind a call -/
def z_tv (D : zD) (M : zM) (d q : Nat) (L : List (Nat × zV)) (rest : List zV) (Q : zO → zG → zH → Prop) (K : Option zV → zG → zH → Prop) : Prop := ∀ r G1 h1, K r G1 h1 → z_Y D M d q L (r.toList ++ rest) G1 h1 Q
theorem z_tov : z_tv D M d q L rest Q (fun r G1 h1 => r = none ∧ z_Y D M d q L rest G1 h1 Q) := by
  rintro r G1 h1 ⟨rfl, hk⟩; exact hk
theorem z_toi : z_tv D M d q L rest Q (fun r G1 h1 => ∃ x, r = some (0, x) ∧ z_Y D M d q L ((0, x) :: rest) G1 h1 Q) := by
  rintro r G1 h1 ⟨x, rfl, hk⟩; exact hk
theorem z_tol : z_tv D M d q L rest Q (fun r G1 h1 => ∃ x, r = some (1, x) ∧ z_Y D M d q L ((1, x) :: rest) G1 h1 Q) := by
  rintro r G1 h1 ⟨x, rfl, hk⟩; exact hk
theorem z_toa : z_tv D M d q L rest Q (fun r G1 h1 => ∃ x, r = some (2, x) ∧ z_Y D M d q L ((2, x) :: rest) G1 h1 Q) := by
  rintro r G1 h1 ⟨x, rfl, hk⟩; exact hk
theorem z_goS {K : Option zV → zG → zH → Prop} (hk : z_tv D M d q L rest Q K) (hl : lay G h) (kc : z_K D M2 d av G h K) (hm : z_mok M2) (hn : z_np M2 av.length) (hlink : Cond.methodLink M.1.cls idx M2.1 ∈ zT) (hstat : Cond.static M2.1 ∈ zT) (hst : st = av.reverse ++ rest) (hw : z_wid rest ≤ 20) (hd : decode M.2.1 pc = .ok (.invokestatic idx, 3)) (hq : pc + 3 = q) : z_F D M d pc L st G h (fun o G' h' => lay G' h' ∧ Q o G' h') := by
  obtain ⟨d2, hdd, kc⟩ := kc
  exact z_invS (kc hl) hm hn hlink hstat hdd hst hw hd hq (fun r G1 h1 ⟨hl1, r', e, hk1⟩ => by cases e; exact hk r G1 h1 hk1 hl1) (fun a G1 h1 ⟨_, r', e, _⟩ => by cases e)
theorem z_goSN {host : String} {K : Option zV → zG → zH → Prop} (hk : z_tv D M d q L rest Q K) (hl : lay G h) (kc : z_K D M2 d av G h K) (hm : z_mok M2) (hn : z_np M2 av.length) (hlink : Cond.methodLinkNest M.1.cls idx M2.1 host ∈ zT) (hstat : Cond.static M2.1 ∈ zT) (hst : st = av.reverse ++ rest) (hw : z_wid rest ≤ 20) (hd : decode M.2.1 pc = .ok (.invokestatic idx, 3)) (hq : pc + 3 = q) : z_F D M d pc L st G h (fun o G' h' => lay G' h' ∧ Q o G' h') := by
  obtain ⟨d2, hdd, kc⟩ := kc
  exact z_invSN (kc hl) hm hn hlink hstat hdd hst hw hd hq (fun r G1 h1 ⟨hl1, r', e, hk1⟩ => by cases e; exact hk r G1 h1 hk1 hl1) (fun a G1 h1 ⟨_, r', e, _⟩ => by cases e)
theorem z_goV {a : Int} {C : String} {T : u_T} {N : Nat} {K : Option zV → zG → zH → Prop} (hcb : z_cb t C T N) (ha : z_is G a t) (hk : z_tv D M d q L rest Q K) (hl : lay G h) (kc : z_K D M2 d ((2, a) :: av) G h K) (hm : z_mok M2) (hn : z_np M2 av.length) (hlink : Cond.methodLink M.1.cls idx M2.1 ∈ zT) (hinst : Cond.instanceMethod M2.1 ∈ zT) (hsel : Cond.selects C M2.1 M2.1 ∈ zT) (hst : st = ((2, a) :: av).reverse ++ rest) (hw : z_wid rest ≤ 20) (hd : decode M.2.1 pc = .ok (.invokevirtual idx, 3)) (hq : pc + 3 = q) : z_F D M d pc L st G h (fun o G' h' => lay G' h' ∧ Q o G' h') := by
  obtain ⟨d2, hdd, kc⟩ := kc
  exact z_invV hcb.1 hcb.2.1 ha (kc hl) hm hn hlink hinst hsel hdd hst hw hd hq (fun r G1 h1 ⟨hl1, r', e, hk1⟩ => by cases e; exact hk r G1 h1 hk1 hl1) (fun a G1 h1 ⟨_, r', e, _⟩ => by cases e)
/-- a call that may throw the one exception -/
def z_KT (D : zD) (M M2 : zM) (d pc q : Nat) (L : List (Nat × zV)) (rest av : List zV) (G : zG) (h : zH) (Q : zO → zG → zH → Prop) : Prop := ∃ d2, d2 + 1 ≤ d ∧ z_CY D M2 d2 av G h (fun o G1 h1 => (∃ r, o = .inl r ∧ z_Y D M d q L (r.toList ++ rest) G1 h1 Q) ∨ ∃ a, o = .inr a ∧ z_YT D M d pc L rest G1 h1 a Q)
theorem z_goVT {a : Int} {C : String} {T : u_T} {N : Nat} (hcb : z_cb t C T N) (ha : z_is G a t) (hl : lay G h) (kc : z_KT D M M2 d pc q L rest ((2, a) :: av) G h Q) (hm : z_mok M2) (hn : z_np M2 av.length) (hlink : Cond.methodLink M.1.cls idx M2.1 ∈ zT) (hinst : Cond.instanceMethod M2.1 ∈ zT) (hsel : Cond.selects C M2.1 M2.1 ∈ zT) (hst : st = ((2, a) :: av).reverse ++ rest) (hw : z_wid rest ≤ 20) (hd : decode M.2.1 pc = .ok (.invokevirtual idx, 3)) (hq : pc + 3 = q) : z_F D M d pc L st G h (fun o G' h' => lay G' h' ∧ Q o G' h') := by
  obtain ⟨d2, hdd, kc⟩ := kc
  refine z_invV hcb.1 hcb.2.1 ha (kc hl) hm hn hlink hinst hsel hdd hst hw hd hq (fun r G1 h1 hh => ?_) (fun a G1 h1 hh => ?_)
  · obtain ⟨hl1, ⟨r', e, hk1⟩ | ⟨a', e, -⟩⟩ := hh
    · cases e; exact hk1 hl1
    · cases e
  · obtain ⟨hl1, ⟨r', e, -⟩ | ⟨a', e, hk1⟩⟩ := hh
    · cases e
    · cases e; exact hk1 hl1
/-- exact contracts, run through -/
theorem z_Ev.K (e : z_Ev D M2 d2 av G h h1) (hd : d2 + 1 ≤ d) (k : z_F D M d q L rest G h1 (fun o G' h' => lay G' h' ∧ Q o G' h')) : z_K D M2 d av G h (fun r G1 h2 => r = none ∧ z_Y D M d q L rest G1 h2 Q) := ⟨d2, hd, e.mono fun o G' h' _ hh => ⟨none, hh.1, rfl, by rw [hh.2.1, hh.2.2]; exact fun _ => k⟩⟩
theorem z_Ei.K {x : Int} (e : z_Ei D M2 d2 av G h x h1) (hd : d2 + 1 ≤ d) (k : z_F D M d q L ((0, x) :: rest) G h1 (fun o G' h' => lay G' h' ∧ Q o G' h')) : z_K D M2 d av G h (fun r G1 h2 => ∃ x, r = some (0, x) ∧ z_Y D M d q L ((0, x) :: rest) G1 h2 Q) := ⟨d2, hd, e.mono fun o G' h' _ hh => ⟨_, hh.1, x, rfl, by rw [hh.2.1, hh.2.2]; exact fun _ => k⟩⟩
theorem z_El.K {x : Int} (e : z_El D M2 d2 av G h x h1) (hd : d2 + 1 ≤ d) (k : z_F D M d q L ((1, x) :: rest) G h1 (fun o G' h' => lay G' h' ∧ Q o G' h')) : z_K D M2 d av G h (fun r G1 h2 => ∃ x, r = some (1, x) ∧ z_Y D M d q L ((1, x) :: rest) G1 h2 Q) := ⟨d2, hd, e.mono fun o G' h' _ hh => ⟨_, hh.1, x, rfl, by rw [hh.2.1, hh.2.2]; exact fun _ => k⟩⟩
/-- the layout behind an exact contract -/
theorem z_Ev.lay (e : z_Ev D M2 d2 av G h h1) (hl : lay G h) : lay G h1 := by
  obtain ⟨o, G', h', ⟨hl', -, rfl, rfl⟩, -⟩ := e hl; exact hl'
theorem z_Ei.lay {x : Int} (e : z_Ei D M2 d2 av G h x h1) (hl : lay G h) : lay G h1 := by
  obtain ⟨o, G', h', ⟨hl', -, rfl, rfl⟩, -⟩ := e hl; exact hl'
theorem z_El.lay {x : Int} (e : z_El D M2 d2 av G h x h1) (hl : lay G h) : lay G h1 := by
  obtain ⟨o, G', h', ⟨hl', -, rfl, rfl⟩, -⟩ := e hl; exact hl'
noncomputable def z_b (p : Prop) : Int := @ite Int p (Classical.propDecidable p) 1 0
theorem z_b1 {p : Prop} (h : p) : z_b p = 1 := by simp [z_b, h]
theorem z_b0 {p : Prop} (h : ¬ p) : z_b p = 0 := by simp [z_b, h]
theorem z_b01 (p : Prop) : z_b p = 0 ∨ z_b p = 1 := by unfold z_b; split <;> simp
theorem z_ldr {t : Nat} {x v : Int} (ht : z_kd (z_ty t k) = 2) (hx : x = v) : z_ld (z_kd (z_ty t k)) x = (2, v) := by rw [ht, hx]; rfl
/-- Math -/
theorem z_pureR {L' : List (Nat × zV)} {st' : List zV} (hs : ∀ {p l e R s m args below meth c H locs cells slots ls Qw}, z_cx D M d p l e R s m args below meth c → z_rep D G h H → lv_has ls M.2.2.1 (z_lc D L) → cells ≤ R.cells → slots ≤ R.slots →
      (∀ ls', lv_has ls' M.2.2.1 (z_lc D L') → W p l e R s m args below meth c H locs cells slots Qw (F0 m q ls' (z_sc D st'))) → W p l e R s m args below meth c H locs cells slots Qw (F0 m pc ls (z_sc D st)))
    (k : z_F D M d q L' st' G h Q) : z_F D M d pc L st G h Q := by
  obtain ⟨o, G', h', hq, h1, h2, hk⟩ := k
  refine ⟨o, G', h', hq, h1, h2, ?_⟩
  intro p l e R s m args below meth c H locs cells slots ls cx hc hsl hlo hr hl
  exact hs cx hr hl (by omega) (by omega) fun ls' hl' => hk p l e R s m args below meth c H locs cells slots ls' cx hc hsl hlo hr hl'
theorem z_min {x y : Int} (hx : z_in x) (hy : z_in y) (k1 : Cond.methodLink M.1.cls idx Lib.Math.min.name ∈ zT) (k2 : Cond.static Lib.Math.min.name ∈ zT) (k3 : Cond.initialized "java/lang/Math" ∈ zT) (k4 : Cond.code Lib.Math.min.name Lib.Math.min.code 2 (some .int) ∈ zT) (hdd : 1 ≤ d) (hw : z_wid st ≤ 20) (hd : decode M.2.1 pc = .ok (.invokestatic idx, 3)) (hq : pc + 3 = q) (k : z_F D M d q L ((0, if y < x then y else x) :: st) G h Q) : z_F D M d pc L ((0, y) :: (0, x) :: st) G h Q := by
  subst hq
  refine z_pureR (fun {p l e R s m args below meth c H locs cells slots ls Qw} cx hr hl hc hs kk => ?_) k
  have hf := cx.2.2.2.2.2.2.2.2.2.2.1
  have hlo := cx.2.2.2.2.2.2.2.2.2.2.2
  refine va_mmin cx.1 cx.2.1 (by rw [hl.1, cx.2.2.1]) cx.own (cx.hts _ k1) (cx.hts _ k2) (cx.hts _ k3) (cx.hts _ k4) (by omega) (by show ((z_sc D st).map fun v => v.category).sum + 13 ≤ _; rw [z_catsum]; omega) hc hs (x := Int32.ofInt x) (y := Int32.ofInt y) hd ?_
  have := kk _ hl
  have e : (if Int32.ofInt y < Int32.ofInt x then Int32.ofInt y else Int32.ofInt x) = Int32.ofInt (if y < x then y else x) := by
    simp only [i_lt hy hx]; split <;> rfl
  rw [e]
  exact this
theorem z_max {x y : Int} (hx : z_in x) (hy : z_in y) (k1 : Cond.methodLink M.1.cls idx Lib.Math.max.name ∈ zT) (k2 : Cond.static Lib.Math.max.name ∈ zT) (k3 : Cond.initialized "java/lang/Math" ∈ zT) (k4 : Cond.code Lib.Math.max.name Lib.Math.max.code 2 (some .int) ∈ zT) (hdd : 1 ≤ d) (hw : z_wid st ≤ 20) (hd : decode M.2.1 pc = .ok (.invokestatic idx, 3)) (hq : pc + 3 = q) (k : z_F D M d q L ((0, if x < y then y else x) :: st) G h Q) : z_F D M d pc L ((0, y) :: (0, x) :: st) G h Q := by
  subst hq
  refine z_pureR (fun {p l e R s m args below meth c H locs cells slots ls Qw} cx hr hl hc hs kk => ?_) k
  have hf := cx.2.2.2.2.2.2.2.2.2.2.1
  have hlo := cx.2.2.2.2.2.2.2.2.2.2.2
  refine va_mmax cx.1 cx.2.1 (by rw [hl.1, cx.2.2.1]) cx.own (cx.hts _ k1) (cx.hts _ k2) (cx.hts _ k3) (cx.hts _ k4) (by omega) (by show ((z_sc D st).map fun v => v.category).sum + 13 ≤ _; rw [z_catsum]; omega) hc hs (x := Int32.ofInt x) (y := Int32.ofInt y) hd ?_
  have := kk _ hl
  have e : (if Int32.ofInt x < Int32.ofInt y then Int32.ofInt y else Int32.ofInt x) = Int32.ofInt (if x < y then y else x) := by
    simp only [i_lt hx hy]; split <;> rfl
  rw [e]
  exact this
end Go
