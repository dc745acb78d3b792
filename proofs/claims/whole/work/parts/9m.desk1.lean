/-! PURE: the desk and the reference side by side -/
/-- the desk: RULES on, GIVEN, SOURCE, what is written, the wrong place, the rounds -/
def dA (M : xMem) (b : Nat) (on : Nat → Bool) (gv : List (List Nat)) (t w : List Nat) (wp : Int32) (rd : Nat) : Prop := prog t ∧ (∃ r0 r1, dS M b r0 r1 on gv t (Lof t)) ∧ pTx M (b + 1) w ∧ M.1 b 4 = wp ∧ M.1 b 5 = nI rd
def mA (M : xMem) (n : Nat) (on : Nat → Bool) (gv : List (List Nat)) (t w : List Nat) (wp : Int32) (rd : Nat) : Prop := nCx M n on gv t (Lof t) ∧ (M.1 n 1 = nI w.length ∧ ∀ i, i < w.length → M.1 (n + 1) i = nI (pc w i)) ∧ M.1 n 3 = wp ∧ M.1 n 5 = nI rd
/-- nothing else is written -/
def outR (lo hi : Nat) (M M' : xMem) : Prop := ∀ a, (a < lo ∨ hi ≤ a) → M'.1 a = M.1 a ∧ M'.2.1 a = M.2.1 a ∧ M'.2.2.1 a = M.2.2.1 a
theorem outR.rfl {lo hi : Nat} {M : xMem} : outR lo hi M M := fun _ _ => ⟨_root_.rfl, _root_.rfl, _root_.rfl⟩
theorem outR.trans {lo hi : Nat} {M M' M'' : xMem} (h : outR lo hi M M') (h2 : outR lo hi M' M'') : outR lo hi M M'' := fun a ha => ⟨(h2 a ha).1.trans (h a ha).1, (h2 a ha).2.1.trans (h a ha).2.1, (h2 a ha).2.2.trans (h a ha).2.2⟩
theorem pFr.out {lo hi lo' hi' : Nat} {M M' : xMem} (f : pFr lo hi M M') (h : lo' ≤ lo ∧ hi ≤ hi') : outR lo' hi' M M' := fun a ha => f.1 a (by omega)
/-- what the reference may write at all -/
def rAll (n : Nat) (a k : Nat) : Prop := n ≤ a ∧ a ≤ n + 41
theorem dA.on {M M' : xMem} {b : Nat} {on : Nat → Bool} {gv : List (List Nat)} {t w : List Nat} {wp : Int32} {rd : Nat} (h : dA M b on gv t w wp rd) (f : onR b (b + 67) M M') (fR : M'.2.2.2 = M.2.2.2) : dA M' b on gv t w wp rd := by
  obtain ⟨h1, ⟨r0, r1, ⟨g1, g2, g3⟩, g4, g5⟩, h3, h4, h5⟩ := h
  have on' : ∀ lo hi, b ≤ lo → hi ≤ b + 67 → onR lo hi M M' := fun lo hi hl hh a h1 h2 => f a (by omega) (by omega)
  exact ⟨h1, ⟨r0, r1, ⟨by rw [fR]; exact g1, by rw [fR]; exact g2, g3⟩, g4.on (on' _ _ (by omega) (by omega)), g5.on (on' _ _ (by omega) (by omega))⟩, h3.on (on' _ _ (by omega) (by omega)), by rw [(f b (by omega) (by omega)).1]; exact h4, by rw [(f b (by omega) (by omega)).1]; exact h5⟩
theorem dA.fr {M M' : xMem} {b n : Nat} {on : Nat → Bool} {gv : List (List Nat)} {t w : List Nat} {wp : Int32} {rd : Nat} (h : dA M b on gv t w wp rd) (f : rF (rAll n) M M') (hn : b + 67 ≤ n) : dA M' b on gv t w wp rd :=
  h.on (fun a _ h2 => ⟨funext (fun k => f.2 a k (by unfold rAll; omega)), by rw [f.1], by rw [f.1]⟩) (by rw [f.1])
theorem mA.on {M M' : xMem} {n : Nat} {on : Nat → Bool} {gv : List (List Nat)} {t w : List Nat} {wp : Int32} {rd : Nat} (h : mA M n on gv t w wp rd) (e1 : ∀ a, n ≤ a → M'.1 a = M.1 a) : mA M' n on gv t w wp rd := by
  obtain ⟨h1, ⟨h2, h3⟩, h4, h5⟩ := h
  refine ⟨?_, ⟨by rw [e1 n (by omega)]; exact h2, fun i hi => by rw [e1 (n + 1) (by omega)]; exact h3 i hi⟩, by rw [e1 n (by omega)]; exact h4, by rw [e1 n (by omega)]; exact h5⟩
  obtain ⟨⟨k1, k0, kk1, h22, k2, h26, k14, k15, k16, k6, k18, k19, k4, kx⟩, s1, s2, s3, s4, s5⟩ := h1
  have nl : ∀ {k : Nat} {l : List qE} {cs : List (Nat × (qE → Int32))}, nL M n k l cs → nL M' n k l cs := fun {k l cs} hh => ⟨by rw [e1 n (by omega)]; exact hh.1, fun c hc i hi => by rw [e1 (n + c.1) (by omega)]; exact hh.2 c hc i hi⟩
  refine ⟨⟨?_, nl k0, nl kk1, ?_, nl k2, ?_, nl k14, nl k15, nl k16, nl k6, nl k18, nl k19, nl k4, ?_⟩, ?_, s2, ?_, ?_, s5⟩
  · obtain ⟨⟨x1, x2, x3, x4⟩, x5, x6, x7, x8⟩ := k1
    refine ⟨⟨by rw [e1 _ (by omega)]; exact x1, x2, fun i hi => by rw [e1 _ (by omega)]; exact x3 i hi, x4⟩, by rw [e1 _ (by omega)]; exact x5, ?_, by rw [e1 _ (by omega)]; exact x7, by rw [e1 _ (by omega)]; exact x8⟩
    intro i hi
    have := x6 i hi
    unfold rEn at this ⊢
    rw [e1 _ (by omega), e1 _ (by omega), e1 _ (by omega)]
    exact this
  · intro i hi
    rw [e1 _ (by omega), e1 _ (by omega)]; exact h22 i hi
  · intro u hu
    rw [e1 _ (by omega)]; exact h26 u hu
  · intro i hi hne
    rw [e1 _ (by omega)]; exact kx i hi hne
  · rw [e1 _ (by omega)]; exact s1
  · intro i hi
    have := s3 i hi
    exact ⟨by rw [e1 _ (by omega)]; exact this.1, fun k hk => by rw [e1 _ (by omega)]; exact this.2 k hk⟩
  · intro r hr
    rw [e1 _ (by omega)]; exact s4 r hr
theorem mA.fr {M M' : xMem} {b n : Nat} {on : Nat → Bool} {gv : List (List Nat)} {t w : List Nat} {wp : Int32} {rd : Nat} (h : mA M n on gv t w wp rd) (f : outR b (b + 67) M M') (hn : b + 67 ≤ n) : mA M' n on gv t w wp rd := h.on (fun a ha => (f a (by omega)).1)
/-- the reference's err is written -/
theorem mA.er {M : xMem} {n : Nat} {v : Int32} {on : Nat → Bool} {gv : List (List Nat)} {t w : List Nat} {wp : Int32} {rd : Nat} (h : mA M n on gv t w wp rd) : mA (wI M n 0 v) n on gv t w wp rd := by
  obtain ⟨h1, ⟨h2, h3⟩, h4, h5⟩ := h
  exact ⟨h1.nx (S := fun a k => a = n ∧ k = 0) (by intro a k; omega) (rF.I ⟨rfl, rfl⟩), ⟨by rw [mI_k (by decide)]; exact h2, fun i hi => by rw [mI_n (by omega)]; exact h3 i hi⟩, by rw [mI_k (by decide)]; exact h4, by rw [mI_k (by decide)]; exact h5⟩
theorem mA.looks {M : xMem} {n : Nat} {on : Nat → Bool} {gv : List (List Nat)} {t w : List Nat} {wp : Int32} {rd : Nat} (hp : prog t) (h : mA M n on gv t w wp rd) : ∃ M', f_N_looks n M = some ((), M') ∧ nLk M' n on gv t (Lof t) (sMk (qEnd t (Lof t))) ∧ mA M' n on gv t w wp rd ∧ M'.1 n 0 = M.1 n 0 ∧ rF (rAll n) M M' := by
  obtain ⟨tok, sc, hq⟩ := hp.run
  obtain ⟨h1, ⟨h2, h3⟩, h4, h5⟩ := h
  obtain ⟨M1, l1, l2, l3⟩ := r_looks hp.1 hq h1
  refine ⟨M1, l1, l2, ⟨l2.1, ⟨by rw [l3.2 _ _ (by unfold rFdS; omega)]; exact h2, fun i hi => by rw [l3.2 _ _ (by unfold rFdS; omega)]; exact h3 i hi⟩, by rw [l3.2 _ _ (by unfold rFdS; omega)]; exact h4, by rw [l3.2 _ _ (by unfold rFdS; omega)]; exact h5⟩, by rw [l3.2 _ _ (by unfold rFdS; omega)], l3.mono (by intro a k; unfold rFdS rAll; omega)⟩
/-! numbers that a call gives -/
theorem xin_ex {k : Int32} {n : Nat} (h : xin k n = true) : ∃ j, j < n ∧ k = nI j ∧ k.toNatClampNeg = j := by
  have h := of_decide_eq_true h
  refine ⟨k.toNatClampNeg, ?_, ?_, rfl⟩
  · have : k.toNatClampNeg = k.toInt.toNat := rfl
    omega
  · apply Int32.toInt_inj.mp
    have e : k.toNatClampNeg = k.toInt.toNat := rfl
    have lt : k.toInt < 2 ^ 31 := k.toInt_lt
    rw [nI_toInt (by omega), e]
    omega
theorem in_iff {k : Int32} {n : Nat} (hn : n < 2 ^ 31) : decide (0 ≤ k ∧ k ≤ nI n - 1) = xin k n := by
  unfold xin
  apply Bool.eq_iff_iff.mpr
  rw [decide_eq_true_iff, decide_eq_true_iff, Int32.le_iff_toInt_le, Int32.le_iff_toInt_le]
  have e : (nI n - 1).toInt = (n : Int) - 1 := by
    cases n with
    | zero => rfl
    | succ n =>
      have : nI (n + 1) - 1 = nI n := pk_subT (a := n + 1) (b := 1) (by omega)
      rw [this, nI_toInt (by omega)]
      omega
  rw [e]
  have : (0 : Int32).toInt = 0 := rfl
  rw [this]
  omega
theorem in_lit {k : Int32} {n : Nat} (hn : n < 1000) : decide (0 ≤ k ∧ k ≤ nI n) = xin k (n + 1) := by
  have : nI (n + 1) - 1 = nI n := pk_subT (a := n + 1) (b := 1) (by omega)
  rw [← in_iff (by omega), this]
theorem not_in {k : Int32} {n : Nat} (hn : n < 2 ^ 31) (h : xin k n = false) : k < 0 ∨ ¬ k < nI n := by
  have h := of_decide_eq_false h
  rw [Int32.lt_iff_toInt_lt, Int32.lt_iff_toInt_lt, nI_toInt hn]
  have : (0 : Int32).toInt = 0 := rfl
  rw [this]
  omega
theorem r_fails0 {M : xMem} {n : Nat} {e : Int32} (h : M.1 n 0 = 0) : f_N_fails n 0 e M = some (0, M) := by
  unfold f_N_fails f_N_fails_16
  rw [if_pos rfl, if_pos h]
theorem r_fails1 {M : xMem} {n : Nat} {e : Int32} (he : e ≠ 0) (h : M.1 n 0 = 0) : f_N_fails n 1 e M = some (1, wI M n 0 e) := by
  unfold f_N_fails f_N_fails_16 xlet
  rw [if_neg (by decide), if_pos h]
  show (if (wI M n 0 e).1 n 0 = 0 then _ else _) = _
  rw [mI_s rfl rfl, if_neg he]
/-- how an answer of the class and one of the reference go together; c says which number a throw has in the reference -/
def ansI (c : Nat → Nat) (res : Int32 ⊕ Nat) (r v0 : Int32) : Prop := (∃ v, res = .inl v ∧ r = v ∧ v0 = 0) ∨ (∃ e, res = .inr e ∧ v0 = nI (c e))
/-- both sides -/
def jR (M : xMem) (b n : Nat) : Prop := ∃ on gv t w wp rd, dA M b on gv t w wp rd ∧ mA M n on gv t w wp rd
/-- wrong -/
theorem j_wrong {M : xMem} {b n : Nat} (hn : b + 67 ≤ n) (h : jR M b n) : ∃ r M', f_D_wrong b M = some (r, M) ∧ f_N_wrong n M = some (r, M') ∧ jR M' b n ∧ rF (rAll n) M M' := by
  obtain ⟨on, gv, t, w, wp, rd, hd, hN⟩ := h
  have f : rF (rAll n) M (wI M n 0 0) := rF.I (by unfold rAll; omega)
  refine ⟨wp, wI M n 0 0, ?_, ?_, ⟨on, gv, t, w, wp, rd, hd.fr f hn, hN.er⟩, f⟩
  · unfold f_D_wrong; rw [hd.2.2.2.1]
  · unfold f_N_wrong xlet
    dsimp only
    rw [hN.er.2.2.1]
/-- letter -/
theorem j_letter {M : xMem} {b n : Nat} {k : Int32} (hn : b + 67 ≤ n) (h : jR M b n) : ∃ res r M', f_D_letter b k M = some (res, M) ∧ f_N_letter n k M = some (r, M') ∧ ansI (fun _ => 1) res r (M'.1 n 0) ∧ jR M' b n ∧ rF (rAll n) M M' := by
  obtain ⟨on, gv, t, w, wp, rd, hd, hN⟩ := h
  have f0 : rF (rAll n) M (wI M n 0 0) := rF.I (by unfold rAll; omega)
  obtain ⟨hp, ⟨r0, r1, hS⟩, hd'⟩ := id hd
  have h160 := hp.1
  have z0 : (wI M n 0 0).1 n 0 = 0 := mI_s rfl rfl
  have sz : (wI M n 0 0).1 n 2 = nI t.length := hN.er.1.1.1.1.1
  have src : ∀ k : Nat → Option ((Int32 ⊕ Nat) × xMem), xsrc b (M.2.2.2 0) k = k r0 := fun k => by
    rw [hS.1.1]; unfold xsrc; rw [if_pos (by have := hS.1.2.2; omega)]
  have n1 : M.1 r0 1 = nI t.length := hS.lx.1.1
  have eN : f_N_letter n k M = if xin k t.length = true then f_N_letter_25 n k 0 (wI M n 0 0) else f_N_letter_25 n k 1 (wI M n 0 0) := by
    unfold f_N_letter xlet xval
    dsimp only
    rw [sz, r_in, xb_some, in_iff (by omega)]
    cases xin k t.length with
    | true => rw [if_neg (by decide), if_pos rfl]
    | false => rw [if_pos (show bI false = 0 from rfl), if_neg (by decide)]
  cases q : xin k t.length with
  | true =>
    obtain ⟨j, j1, j2, j3⟩ := xin_ex q
    subst j2
    rw [q, if_pos rfl] at eN
    refine ⟨.inl (nI (pc t j)), nI (pc t j), wI M n 0 0, ?_, ?_, .inl ⟨_, rfl, rfl, z0⟩, ⟨on, gv, t, w, wp, rd, hd.fr f0 hn, hN.er⟩, f0⟩
    · unfold f_D_letter
      rw [if_neg (nI_pos (by omega)), src, n1, if_pos (nI_lt j1 (by omega)), src, p_L_at hS.lx.1 (by omega), xb_some]
    · rw [eN]
      unfold f_N_letter_25
      rw [r_fails0 z0, xb_some, if_pos rfl, if_pos (xin_nI (by omega) (by decide)), j3, hN.er.1.1.1.1.2.2.1 j j1]
  | false =>
    rw [q, if_neg (by decide)] at eN
    have f1 : rF (rAll n) M (wI (wI M n 0 0) n 0 1) := f0.trans (rF.I (by unfold rAll; omega))
    refine ⟨.inr 2, 0, wI (wI M n 0 0) n 0 1, ?_, ?_, .inr ⟨2, rfl, mI_s rfl rfl⟩, ⟨on, gv, t, w, wp, rd, hd.fr f1 hn, hN.er.er⟩, f1⟩
    · unfold f_D_letter f_D_letter_18
      rcases not_in (by omega) q with c | c
      · rw [if_pos c]
      · by_cases c0 : k < 0
        · rw [if_pos c0]
        · rw [if_neg c0, src, n1, if_neg c]
    · rw [eN]
      unfold f_N_letter_25
      rw [r_fails1 (by decide) z0, xb_some, if_neg (by decide)]
