/-! PURE: the class binds the USES -/
/-- the thing that a USE means -/
def qBd' (t : List Nat) (L : qL) (e : qE) : Nat := qSeen (wT' t) (L 0) (L 1) e.2.1 (wT' t e.1)
/-- a USE before its thing, no fn between -/
def qEarly (L : qL) (e : qE) (i : Nat) : Bool := decide ((qg (L 1) i).2.2.1 ≤ 1 ∧ e.1 < (qg (L 1) i).1 ∧ qHome L e.2.1 = qHome L (qg (L 1) i).2.1)
def cR (t : List Nat) (L : qL) : Nat → Nat → Nat
  | 0, _ => 0
  | v + 1, i => cR t L v i + (if qBd' t L (qg (L 2) v) = i ∧ (qg (L 2) v).2.2.1 = 0 then 1 else 0)
def cW (t : List Nat) (L : qL) : Nat → Nat → Nat
  | 0, i => (qg (L 1) i).2.2.2.2
  | v + 1, i => cW t L v i + (if qBd' t L (qg (L 2) v) = i ∧ (qg (L 2) v).2.2.1 ≠ 0 then 1 else 0)
def cF (t : List Nat) (L : qL) : Nat → Nat
  | 0 => 0
  | v + 1 => cF t L v + (if qBd' t L (qg (L 2) v) < (L 1).length then 0 else 1)
/-- the marks that a USE brings -/
def qBind1 (t : List Nat) (L : qL) (e : qE) (K : qL) : qL :=
  if qBd' t L e < (L 1).length then
    let K1 := if e.2.2.1 ≠ 0 ∧ (qg (L 1) (qBd' t L e)).2.2.1 = 1 then qA 12 (e.1, 0, 0, 0, 0) K else K
    if qEarly L e (qBd' t L e) then qA 13 (e.1, 0, 0, 0, 0) K1 else K1
  else qA 10 (e.1, 0, 0, 0, 0) K
def qBnd (t : List Nat) (L : qL) : Nat → qL
  | 0 => L
  | v + 1 => qBind1 t L (qg (L 2) v) (qBnd t L v)
def rU2 (M : xMem) (b : Nat) (l : List qE) (f : Nat) : Prop := M.1 (b + 25) 7 = nI l.length ∧ M.1 (b + 25) 8 = nI f ∧ rA M (b + 26) l (fun e => e.1) ∧ rA M (b + 27) l (fun e => e.2.1) ∧ rA M (b + 28) l (fun e => e.2.2.1)
/-- the memory while USES are bound -/
def rBd (M : xMem) (b : Nat) (t : List Nat) (L : qL) (R W : Nat → Nat) (f : Nat) (K : qL) : Prop := pLx M b t ∧ rSc M b (L 0) ∧ rT2 M b (wT' t) (L 1) R W ∧ rU2 M b (L 2) f ∧ rMk M b K ∧ rEx M b (L 4) ∧ rLo M b (L 18)
/-- what a reading that is a PROGRAM is like, as far as binding goes -/
def qFin (t : List Nat) (L : qL) : Prop := qSc (L 0) ∧ (L 0).length ≤ 61 ∧ (L 1).length ≤ 60 ∧ (L 2).length ≤ 60 ∧ (∀ i, i < (L 1).length → (qg (L 1) i).2.1 < (L 0).length ∧ kT t (qg (L 1) i).1 = 23 ∧ (qg (L 1) i).2.2.1 ≤ 4) ∧ (∀ i, i < (L 2).length → (qg (L 2) i).2.1 < (L 0).length ∧ kT t (qg (L 2) i).1 = 23 ∧ (qg (L 2) i).2.2.1 ≤ 1)
theorem kT_60 {t : List Nat} {i : Nat} (h : kT t i = 23) : i < 60 := by
  have := kT_real (t := t) (i := i) (by omega)
  have := nT_le t
  omega
theorem mAdd_bd {M : xMem} {b p r f : Nat} {t : List Nat} {L K : qL} {R W : Nat → Nat} (h : rBd M b t L R W f K) (hr : r < 10) : rBd (mAdd M b p r) b t L R W f (qA (10 + r) (p, 0, 0, 0, 0) K) := by
  obtain ⟨h1, h2, h3, h4, h5, h6, h7⟩ := h
  have fr := mAdd_fr (M := M) (b := b) (p := p) (r := r)
  refine ⟨h1.fr fr (by omega), h2.to (fun a ha hb => (fr.1 a (by omega)).1), h3.to (fun a ha hb => (fr.1 a (by omega)).1), ?_, mAdd_mk h5 hr, h6.to ((fr.1 _ (by omega)).1), h7.to ((fr.1 _ (by omega)).1)⟩
  obtain ⟨a0, a1, a2, a3, a4⟩ := h4
  exact ⟨by rw [(fr.1 _ (by omega)).1]; exact a0, by rw [(fr.1 _ (by omega)).1]; exact a1, a2.to ((fr.1 _ (by omega)).1), a3.to ((fr.1 _ (by omega)).1), a4.to ((fr.1 _ (by omega)).1)⟩
theorem p_isEarly {M : xMem} {b v i f : Nat} {t : List Nat} {L K : qL} {R W : Nat → Nat} (h : rBd M b t L R W f K) (hF : qFin t L) (hv : v < (L 2).length) (hi : i < (L 1).length) : f_B_isEarly b (nI v) (nI i) M = some (bI (qEarly L (qg (L 2) v) i), M) := by
  obtain ⟨h1, h2, h3, h4, h5, h6, h7⟩ := h
  obtain ⟨f1, f2, f3, f4, f5, f6⟩ := hF
  obtain ⟨u1, u2, u3⟩ := f6 v hv
  obtain ⟨t1, t2, t3⟩ := f5 i hi
  have e15 : M.1 (b + 15) i = nI (qg (L 1) i).2.2.1 := h3.2.2.2.1 i hi
  have e13 : M.1 (b + 13) i = nI (qg (L 1) i).1 := h3.2.1 i hi
  have e16 : M.1 (b + 16) i = nI (qg (L 1) i).2.1 := h3.2.2.2.2.1 i hi
  have e26 : M.1 (b + 26) v = nI (qg (L 2) v).1 := h4.2.2.1 v hv
  have e27 : M.1 (b + 27) v = nI (qg (L 2) v).2.1 := h4.2.2.2.1 v hv
  have k1 := kT_60 t2
  have k2 := kT_60 u2
  have ho1 := p_homeOf h2 u1 f2
  have ho2 := p_homeOf h2 t1 f2
  have hh1 := f1.home _ u1
  have hh2 := f1.home _ t1
  have key : f_B_isEarly_25 b (nI v) (nI i) M = some (bI (decide ((qg (L 2) v).1 < (qg (L 1) i).1 ∧ qHome L (qg (L 2) v).2.1 = qHome L (qg (L 1) i).2.1)), M) := by
    unfold f_B_isEarly_25 f_B_isEarly_30
    by_cases c : (qg (L 1) i).1 ≤ (qg (L 2) v).1
    · rw [decide_eq_false (by omega)]
      simp (disch := omega) only [↓reduceIte, nI_leT, nI_leF, nI_ltT, nI_ltF, nI_eqT, nI_eqF, xin_T, nI_clampT, nI_add, nI_inc, pk_subT, xb_some, xval, xlet, mI_s, mI_n, mI_k, mI_2, mJ_1, mJ_s, mJ_n, mJ_k, mJ_2, mT_1, mT_2, mT_s, mT_n, mT_k, mT_3, mR_1, mR_2, mR_3, bI_0, bI_1, bI_n0, bI_n1, Bool.true_eq_false, Bool.false_eq_true, eq_self, i_0, i_1, i_2, i_3, i_4, i_5, i_6, i_7, i_8, i_9, i_10, i_11, i_12, i_13, i_14, i_15, i_16, i_17, i_18, i_19, i_20, i_21, i_22, i_23, i_24, i_25, i_26, i_27, i_28, i_29, i_30, i_31, i_32, i_33, i_34, i_35, i_36, i_37, i_38, i_39, i_40, i_41, i_42, i_43, i_44, i_45, i_48, i_49, i_57, i_59, i_60, i_61, i_62, i_64, i_97, i_110, i_122, i_123, i_125, i_126, i_127, i_160, i_255, i_300, i_400, e13, e26]
      rfl
    · by_cases c2 : (qg (L 0) (qg (L 2) v).2.1).2.2.1 = (qg (L 0) (qg (L 1) i).2.1).2.2.1
      · rw [decide_eq_true ⟨by omega, c2⟩]
        simp (disch := omega) only [↓reduceIte, nI_leT, nI_leF, nI_ltT, nI_ltF, nI_eqT, nI_eqF, xin_T, nI_clampT, nI_add, nI_inc, pk_subT, xb_some, xval, xlet, mI_s, mI_n, mI_k, mI_2, mJ_1, mJ_s, mJ_n, mJ_k, mJ_2, mT_1, mT_2, mT_s, mT_n, mT_k, mT_3, mR_1, mR_2, mR_3, bI_0, bI_1, bI_n0, bI_n1, Bool.true_eq_false, Bool.false_eq_true, eq_self, i_0, i_1, i_2, i_3, i_4, i_5, i_6, i_7, i_8, i_9, i_10, i_11, i_12, i_13, i_14, i_15, i_16, i_17, i_18, i_19, i_20, i_21, i_22, i_23, i_24, i_25, i_26, i_27, i_28, i_29, i_30, i_31, i_32, i_33, i_34, i_35, i_36, i_37, i_38, i_39, i_40, i_41, i_42, i_43, i_44, i_45, i_48, i_49, i_57, i_59, i_60, i_61, i_62, i_64, i_97, i_110, i_122, i_123, i_125, i_126, i_127, i_160, i_255, i_300, i_400, e13, e26, e27, ho1, e16, ho2, c2]
        rfl
      · rw [decide_eq_false (fun e => c2 e.2)]
        simp (disch := omega) only [↓reduceIte, nI_leT, nI_leF, nI_ltT, nI_ltF, nI_eqT, nI_eqF, xin_T, nI_clampT, nI_add, nI_inc, pk_subT, xb_some, xval, xlet, mI_s, mI_n, mI_k, mI_2, mJ_1, mJ_s, mJ_n, mJ_k, mJ_2, mT_1, mT_2, mT_s, mT_n, mT_k, mT_3, mR_1, mR_2, mR_3, bI_0, bI_1, bI_n0, bI_n1, Bool.true_eq_false, Bool.false_eq_true, eq_self, i_0, i_1, i_2, i_3, i_4, i_5, i_6, i_7, i_8, i_9, i_10, i_11, i_12, i_13, i_14, i_15, i_16, i_17, i_18, i_19, i_20, i_21, i_22, i_23, i_24, i_25, i_26, i_27, i_28, i_29, i_30, i_31, i_32, i_33, i_34, i_35, i_36, i_37, i_38, i_39, i_40, i_41, i_42, i_43, i_44, i_45, i_48, i_49, i_57, i_59, i_60, i_61, i_62, i_64, i_97, i_110, i_122, i_123, i_125, i_126, i_127, i_160, i_255, i_300, i_400, e13, e26, e27, ho1, e16, ho2]
        rfl
  unfold f_B_isEarly
  by_cases c0 : (qg (L 1) i).2.2.1 = 0
  · have e : qEarly L (qg (L 2) v) i = decide ((qg (L 2) v).1 < (qg (L 1) i).1 ∧ qHome L (qg (L 2) v).2.1 = qHome L (qg (L 1) i).2.1) := by unfold qEarly; simp [c0]
    rw [e, ← key]
    simp (disch := omega) only [↓reduceIte, nI_leT, nI_leF, nI_ltT, nI_ltF, nI_eqT, nI_eqF, xin_T, nI_clampT, nI_add, nI_inc, pk_subT, xb_some, xval, xlet, mI_s, mI_n, mI_k, mI_2, mJ_1, mJ_s, mJ_n, mJ_k, mJ_2, mT_1, mT_2, mT_s, mT_n, mT_k, mT_3, mR_1, mR_2, mR_3, bI_0, bI_1, bI_n0, bI_n1, Bool.true_eq_false, Bool.false_eq_true, eq_self, i_0, i_1, i_2, i_3, i_4, i_5, i_6, i_7, i_8, i_9, i_10, i_11, i_12, i_13, i_14, i_15, i_16, i_17, i_18, i_19, i_20, i_21, i_22, i_23, i_24, i_25, i_26, i_27, i_28, i_29, i_30, i_31, i_32, i_33, i_34, i_35, i_36, i_37, i_38, i_39, i_40, i_41, i_42, i_43, i_44, i_45, i_48, i_49, i_57, i_59, i_60, i_61, i_62, i_64, i_97, i_110, i_122, i_123, i_125, i_126, i_127, i_160, i_255, i_300, i_400, e15, c0]
  · by_cases c1 : (qg (L 1) i).2.2.1 = 1
    · have e : qEarly L (qg (L 2) v) i = decide ((qg (L 2) v).1 < (qg (L 1) i).1 ∧ qHome L (qg (L 2) v).2.1 = qHome L (qg (L 1) i).2.1) := by unfold qEarly; simp [c1]
      rw [e, ← key]
      simp (disch := omega) only [↓reduceIte, nI_leT, nI_leF, nI_ltT, nI_ltF, nI_eqT, nI_eqF, xin_T, nI_clampT, nI_add, nI_inc, pk_subT, xb_some, xval, xlet, mI_s, mI_n, mI_k, mI_2, mJ_1, mJ_s, mJ_n, mJ_k, mJ_2, mT_1, mT_2, mT_s, mT_n, mT_k, mT_3, mR_1, mR_2, mR_3, bI_0, bI_1, bI_n0, bI_n1, Bool.true_eq_false, Bool.false_eq_true, eq_self, i_0, i_1, i_2, i_3, i_4, i_5, i_6, i_7, i_8, i_9, i_10, i_11, i_12, i_13, i_14, i_15, i_16, i_17, i_18, i_19, i_20, i_21, i_22, i_23, i_24, i_25, i_26, i_27, i_28, i_29, i_30, i_31, i_32, i_33, i_34, i_35, i_36, i_37, i_38, i_39, i_40, i_41, i_42, i_43, i_44, i_45, i_48, i_49, i_57, i_59, i_60, i_61, i_62, i_64, i_97, i_110, i_122, i_123, i_125, i_126, i_127, i_160, i_255, i_300, i_400, e15, c1]
    · have e : qEarly L (qg (L 2) v) i = false := by unfold qEarly; exact decide_eq_false (by omega)
      rw [e]
      unfold f_B_isEarly_30
      simp (disch := omega) only [↓reduceIte, nI_leT, nI_leF, nI_ltT, nI_ltF, nI_eqT, nI_eqF, xin_T, nI_clampT, nI_add, nI_inc, pk_subT, xb_some, xval, xlet, mI_s, mI_n, mI_k, mI_2, mJ_1, mJ_s, mJ_n, mJ_k, mJ_2, mT_1, mT_2, mT_s, mT_n, mT_k, mT_3, mR_1, mR_2, mR_3, bI_0, bI_1, bI_n0, bI_n1, Bool.true_eq_false, Bool.false_eq_true, eq_self, i_0, i_1, i_2, i_3, i_4, i_5, i_6, i_7, i_8, i_9, i_10, i_11, i_12, i_13, i_14, i_15, i_16, i_17, i_18, i_19, i_20, i_21, i_22, i_23, i_24, i_25, i_26, i_27, i_28, i_29, i_30, i_31, i_32, i_33, i_34, i_35, i_36, i_37, i_38, i_39, i_40, i_41, i_42, i_43, i_44, i_45, i_48, i_49, i_57, i_59, i_60, i_61, i_62, i_64, i_97, i_110, i_122, i_123, i_125, i_126, i_127, i_160, i_255, i_300, i_400, e15]
      rfl
theorem p_bind {M : xMem} {b v : Nat} {t : List Nat} {L : qL} (h : rBd M b t L (cR t L v) (cW t L v) (cF t L v) (qBnd t L v)) (hF : qFin t L) (hv : v < (L 2).length) : ∃ M', f_B_bind b (nI v) M = some ((), M') ∧ rBd M' b t L (cR t L (v + 1)) (cW t L (v + 1)) (cF t L (v + 1)) (qBnd t L (v + 1)) ∧ pFr (b + 8) (b + 30) M M' := by
  have h0 := h
  obtain ⟨h1, h2, h3, h4, h5, h6, h7⟩ := h
  have hF0 := hF
  obtain ⟨f1, f2, f3, f4, f5, f6⟩ := hF
  obtain ⟨u1, u2, u3⟩ := f6 v hv
  have k2 := kT_60 u2
  have hT := nT_le t
  have pl := pLex_len t
  have hr := kT_real (t := t) (i := (qg (L 2) v).1) (by omega)
  have e26 : M.1 (b + 26) v = nI (qg (L 2) v).1 := h4.2.2.1 v hv
  have e27 : M.1 (b + 27) v = nI (qg (L 2) v).2.1 := h4.2.2.2.1 v hv
  have e28 : M.1 (b + 28) v = nI (qg (L 2) v).2.2.1 := h4.2.2.2.2 v hv
  have wo := p_wordOf h1 (i := (qg (L 2) v).1) (by unfold nT at hr; omega)
  have wl := wT_le t (qg (L 2) v).1
  have sf := p_seenFrom (w := wT' t (qg (L 2) v).1) h2 f1 f2 h3 f3 (by omega) (fun i hi => ⟨by have := (f5 i hi).1; omega, by have := kT_60 (f5 i hi).2.1; have := wT_le t (qg (L 1) i).1; omega⟩) u1
  have sf : f_B_seenFrom b (nI (qg (L 2) v).2.1) (nI (wT' t (qg (L 2) v).1)) M = some (if qBd' t L (qg (L 2) v) < (L 1).length then nI (qBd' t L (qg (L 2) v)) else -1, M) := sf
  generalize hn : qBd' t L (qg (L 2) v) = n at *
  by_cases c : n < (L 1).length
  · rw [if_pos c] at sf
    have e17 : M.1 (b + 17) n = nI (cR t L v n) := h3.2.2.2.2.2.1 n c
    have e18 : M.1 (b + 18) n = nI (cW t L v n) := h3.2.2.2.2.2.2.1 n c
    have e15 : M.1 (b + 15) n = nI (qg (L 1) n).2.2.1 := h3.2.2.2.1 n c
    obtain ⟨t1, t2, t3⟩ := f5 n c
    have ge : (nI 0 ≤ nI n) = True := eq_true (nI_le (Nat.zero_le _) (by omega))
    have ef : cF t L (v + 1) = cF t L v := by rw [cF, hn, if_pos c]; rfl
    /- behind the count: 91 -/
    have tail : ∀ (M1 : xMem), rBd M1 b t L (cR t L (v + 1)) (cW t L (v + 1)) (cF t L (v + 1)) (qBnd t L v) → pFr (b + 8) (b + 30) M M1 → ∃ M', f_B_bind_91 b (nI v) (nI n) M1 = some ((), M') ∧ rBd M' b t L (cR t L (v + 1)) (cW t L (v + 1)) (cF t L (v + 1)) (qBnd t L (v + 1)) ∧ pFr (b + 8) (b + 30) M M' := by
      intro M1 r1 fr1
      have eK : qBnd t L (v + 1) = (if qEarly L (qg (L 2) v) n then qA 13 ((qg (L 2) v).1, 0, 0, 0, 0) (if (qg (L 2) v).2.2.1 ≠ 0 ∧ (qg (L 1) n).2.2.1 = 1 then qA 12 ((qg (L 2) v).1, 0, 0, 0, 0) (qBnd t L v) else qBnd t L v) else (if (qg (L 2) v).2.2.1 ≠ 0 ∧ (qg (L 1) n).2.2.1 = 1 then qA 12 ((qg (L 2) v).1, 0, 0, 0, 0) (qBnd t L v) else qBnd t L v)) := by
        rw [qBnd]; unfold qBind1; rw [hn, if_pos c]
      have last : ∀ (M2 : xMem) (K2 : qL), rBd M2 b t L (cR t L (v + 1)) (cW t L (v + 1)) (cF t L (v + 1)) K2 → pFr (b + 8) (b + 30) M M2 → ∃ M', f_B_bind_127 b (nI v) (nI n) M2 = some ((), M') ∧ rBd M' b t L (cR t L (v + 1)) (cW t L (v + 1)) (cF t L (v + 1)) (if qEarly L (qg (L 2) v) n then qA 13 ((qg (L 2) v).1, 0, 0, 0, 0) K2 else K2) ∧ pFr (b + 8) (b + 30) M M' := by
        intro M2 K2 r2 fr2
        have ie := p_isEarly r2 hF0 hv c
        have e26' : M2.1 (b + 26) v = nI (qg (L 2) v).1 := r2.2.2.2.1.2.2.1 v hv
        unfold f_B_bind_127
        cases ee : qEarly L (qg (L 2) v) n with
        | true =>
          rw [ee] at ie
          have ma := p_M_add (M := M2) (b := b) (p := (qg (L 2) v).1) (r := 3) (by omega)
          refine ⟨mAdd M2 b (qg (L 2) v).1 3, ?_, mAdd_bd r2 (by omega), fr2.trans (mAdd_fr.mono (by omega) (by omega))⟩
          simp (disch := omega) only [↓reduceIte, nI_leT, nI_leF, nI_ltT, nI_ltF, nI_eqT, nI_eqF, xin_T, nI_clampT, nI_add, nI_inc, pk_subT, xb_some, xval, xlet, mI_s, mI_n, mI_k, mI_2, mJ_1, mJ_s, mJ_n, mJ_k, mJ_2, mT_1, mT_2, mT_s, mT_n, mT_k, mT_3, mR_1, mR_2, mR_3, bI_0, bI_1, bI_n0, bI_n1, Bool.true_eq_false, Bool.false_eq_true, eq_self, i_0, i_1, i_2, i_3, i_4, i_5, i_6, i_7, i_8, i_9, i_10, i_11, i_12, i_13, i_14, i_15, i_16, i_17, i_18, i_19, i_20, i_21, i_22, i_23, i_24, i_25, i_26, i_27, i_28, i_29, i_30, i_31, i_32, i_33, i_34, i_35, i_36, i_37, i_38, i_39, i_40, i_41, i_42, i_43, i_44, i_45, i_48, i_49, i_57, i_59, i_60, i_61, i_62, i_64, i_97, i_110, i_122, i_123, i_125, i_126, i_127, i_160, i_255, i_300, i_400, ie, e26', ma]
        | false =>
          rw [ee] at ie
          refine ⟨M2, ?_, r2, fr2⟩
          simp (disch := omega) only [↓reduceIte, nI_leT, nI_leF, nI_ltT, nI_ltF, nI_eqT, nI_eqF, xin_T, nI_clampT, nI_add, nI_inc, pk_subT, xb_some, xval, xlet, mI_s, mI_n, mI_k, mI_2, mJ_1, mJ_s, mJ_n, mJ_k, mJ_2, mT_1, mT_2, mT_s, mT_n, mT_k, mT_3, mR_1, mR_2, mR_3, bI_0, bI_1, bI_n0, bI_n1, Bool.true_eq_false, Bool.false_eq_true, eq_self, i_0, i_1, i_2, i_3, i_4, i_5, i_6, i_7, i_8, i_9, i_10, i_11, i_12, i_13, i_14, i_15, i_16, i_17, i_18, i_19, i_20, i_21, i_22, i_23, i_24, i_25, i_26, i_27, i_28, i_29, i_30, i_31, i_32, i_33, i_34, i_35, i_36, i_37, i_38, i_39, i_40, i_41, i_42, i_43, i_44, i_45, i_48, i_49, i_57, i_59, i_60, i_61, i_62, i_64, i_97, i_110, i_122, i_123, i_125, i_126, i_127, i_160, i_255, i_300, i_400, ie]
      have e28' : M1.1 (b + 28) v = nI (qg (L 2) v).2.2.1 := r1.2.2.2.1.2.2.2.2 v hv
      have e15' : M1.1 (b + 15) n = nI (qg (L 1) n).2.2.1 := r1.2.2.1.2.2.2.1 n c
      have e26' : M1.1 (b + 26) v = nI (qg (L 2) v).1 := r1.2.2.2.1.2.2.1 v hv
      rw [eK]
      unfold f_B_bind_91
      by_cases cw : (qg (L 2) v).2.2.1 = 0
      · obtain ⟨M', o, r'⟩ := last M1 _ r1 fr1
        rw [if_neg (show ¬ ((qg (L 2) v).2.2.1 ≠ 0 ∧ (qg (L 1) n).2.2.1 = 1) from fun e => e.1 cw)]
        refine ⟨M', ?_, r'⟩
        rw [← o]
        simp (disch := omega) only [↓reduceIte, nI_leT, nI_leF, nI_ltT, nI_ltF, nI_eqT, nI_eqF, xin_T, nI_clampT, nI_add, nI_inc, pk_subT, xb_some, xval, xlet, mI_s, mI_n, mI_k, mI_2, mJ_1, mJ_s, mJ_n, mJ_k, mJ_2, mT_1, mT_2, mT_s, mT_n, mT_k, mT_3, mR_1, mR_2, mR_3, bI_0, bI_1, bI_n0, bI_n1, Bool.true_eq_false, Bool.false_eq_true, eq_self, i_0, i_1, i_2, i_3, i_4, i_5, i_6, i_7, i_8, i_9, i_10, i_11, i_12, i_13, i_14, i_15, i_16, i_17, i_18, i_19, i_20, i_21, i_22, i_23, i_24, i_25, i_26, i_27, i_28, i_29, i_30, i_31, i_32, i_33, i_34, i_35, i_36, i_37, i_38, i_39, i_40, i_41, i_42, i_43, i_44, i_45, i_48, i_49, i_57, i_59, i_60, i_61, i_62, i_64, i_97, i_110, i_122, i_123, i_125, i_126, i_127, i_160, i_255, i_300, i_400, e28', cw]
      · have cw1 : (qg (L 2) v).2.2.1 = 1 := by omega
        by_cases c1 : (qg (L 1) n).2.2.1 = 1
        · have ma := p_M_add (M := M1) (b := b) (p := (qg (L 2) v).1) (r := 2) (by omega)
          obtain ⟨M', o, r'⟩ := last (mAdd M1 b (qg (L 2) v).1 2) _ (mAdd_bd (r := 2) r1 (by omega)) (fr1.trans (mAdd_fr.mono (by omega) (by omega)))
          rw [if_pos (show (qg (L 2) v).2.2.1 ≠ 0 ∧ (qg (L 1) n).2.2.1 = 1 from ⟨cw, c1⟩)]
          refine ⟨M', ?_, r'⟩
          rw [← o]
          simp (disch := omega) only [↓reduceIte, nI_leT, nI_leF, nI_ltT, nI_ltF, nI_eqT, nI_eqF, xin_T, nI_clampT, nI_add, nI_inc, pk_subT, xb_some, xval, xlet, mI_s, mI_n, mI_k, mI_2, mJ_1, mJ_s, mJ_n, mJ_k, mJ_2, mT_1, mT_2, mT_s, mT_n, mT_k, mT_3, mR_1, mR_2, mR_3, bI_0, bI_1, bI_n0, bI_n1, Bool.true_eq_false, Bool.false_eq_true, eq_self, i_0, i_1, i_2, i_3, i_4, i_5, i_6, i_7, i_8, i_9, i_10, i_11, i_12, i_13, i_14, i_15, i_16, i_17, i_18, i_19, i_20, i_21, i_22, i_23, i_24, i_25, i_26, i_27, i_28, i_29, i_30, i_31, i_32, i_33, i_34, i_35, i_36, i_37, i_38, i_39, i_40, i_41, i_42, i_43, i_44, i_45, i_48, i_49, i_57, i_59, i_60, i_61, i_62, i_64, i_97, i_110, i_122, i_123, i_125, i_126, i_127, i_160, i_255, i_300, i_400, e28', cw1, e15', c1, e26', ma]
        · obtain ⟨M', o, r'⟩ := last M1 _ r1 fr1
          rw [if_neg (show ¬ ((qg (L 2) v).2.2.1 ≠ 0 ∧ (qg (L 1) n).2.2.1 = 1) from fun e => c1 e.2)]
          refine ⟨M', ?_, r'⟩
          rw [← o]
          simp (disch := omega) only [↓reduceIte, nI_leT, nI_leF, nI_ltT, nI_ltF, nI_eqT, nI_eqF, xin_T, nI_clampT, nI_add, nI_inc, pk_subT, xb_some, xval, xlet, mI_s, mI_n, mI_k, mI_2, mJ_1, mJ_s, mJ_n, mJ_k, mJ_2, mT_1, mT_2, mT_s, mT_n, mT_k, mT_3, mR_1, mR_2, mR_3, bI_0, bI_1, bI_n0, bI_n1, Bool.true_eq_false, Bool.false_eq_true, eq_self, i_0, i_1, i_2, i_3, i_4, i_5, i_6, i_7, i_8, i_9, i_10, i_11, i_12, i_13, i_14, i_15, i_16, i_17, i_18, i_19, i_20, i_21, i_22, i_23, i_24, i_25, i_26, i_27, i_28, i_29, i_30, i_31, i_32, i_33, i_34, i_35, i_36, i_37, i_38, i_39, i_40, i_41, i_42, i_43, i_44, i_45, i_48, i_49, i_57, i_59, i_60, i_61, i_62, i_64, i_97, i_110, i_122, i_123, i_125, i_126, i_127, i_160, i_255, i_300, i_400, e28', cw1, e15']
    unfold f_B_bind
    by_cases cw : (qg (L 2) v).2.2.1 = 0
    · have fr1 : pFr (b + 8) (b + 30) M (wI M (b + 17) n (nI (cR t L v n + 1))) := pFr.I (by omega)
      have r1 : rBd (wI M (b + 17) n (nI (cR t L v n + 1))) b t L (cR t L (v + 1)) (cW t L (v + 1)) (cF t L (v + 1)) (qBnd t L v) := by
        rw [ef]
        refine ⟨h1.fr fr1 (by omega), h2.to (fun a ha hb => wI_ne _ _ _ (by omega)), ?_, ?_, h5.to (wI_ne _ _ _ (by omega)) (fun _ _ _ => rfl), h6.to (wI_ne _ _ _ (by omega)), h7.to (wI_ne _ _ _ (by omega))⟩
        · obtain ⟨a0, a1, a2, a3, a4, a5, a6, a7, a8⟩ := h3
          refine ⟨by simp (disch := omega) only [↓reduceIte, nI_leT, nI_leF, nI_ltT, nI_ltF, nI_eqT, nI_eqF, xin_T, nI_clampT, nI_add, nI_inc, pk_subT, xb_some, xval, xlet, mI_s, mI_n, mI_k, mI_2, mJ_1, mJ_s, mJ_n, mJ_k, mJ_2, mT_1, mT_2, mT_s, mT_n, mT_k, mT_3, mR_1, mR_2, mR_3, bI_0, bI_1, bI_n0, bI_n1, Bool.true_eq_false, Bool.false_eq_true, eq_self, i_0, i_1, i_2, i_3, i_4, i_5, i_6, i_7, i_8, i_9, i_10, i_11, i_12, i_13, i_14, i_15, i_16, i_17, i_18, i_19, i_20, i_21, i_22, i_23, i_24, i_25, i_26, i_27, i_28, i_29, i_30, i_31, i_32, i_33, i_34, i_35, i_36, i_37, i_38, i_39, i_40, i_41, i_42, i_43, i_44, i_45, i_48, i_49, i_57, i_59, i_60, i_61, i_62, i_64, i_97, i_110, i_122, i_123, i_125, i_126, i_127, i_160, i_255, i_300, i_400, a0], a1.to (wI_ne _ _ _ (by omega)), a2.to (wI_ne _ _ _ (by omega)), a3.to (wI_ne _ _ _ (by omega)), a4.to (wI_ne _ _ _ (by omega)), ?_, ?_, a7.to (wI_ne _ _ _ (by omega)), a8.to (wI_ne _ _ _ (by omega))⟩
          · intro i hi
            rw [cR, hn]
            by_cases e : i = n
            · subst e; rw [if_pos ⟨rfl, cw⟩]; simp (disch := omega) only [↓reduceIte, nI_leT, nI_leF, nI_ltT, nI_ltF, nI_eqT, nI_eqF, xin_T, nI_clampT, nI_add, nI_inc, pk_subT, xb_some, xval, xlet, mI_s, mI_n, mI_k, mI_2, mJ_1, mJ_s, mJ_n, mJ_k, mJ_2, mT_1, mT_2, mT_s, mT_n, mT_k, mT_3, mR_1, mR_2, mR_3, bI_0, bI_1, bI_n0, bI_n1, Bool.true_eq_false, Bool.false_eq_true, eq_self, i_0, i_1, i_2, i_3, i_4, i_5, i_6, i_7, i_8, i_9, i_10, i_11, i_12, i_13, i_14, i_15, i_16, i_17, i_18, i_19, i_20, i_21, i_22, i_23, i_24, i_25, i_26, i_27, i_28, i_29, i_30, i_31, i_32, i_33, i_34, i_35, i_36, i_37, i_38, i_39, i_40, i_41, i_42, i_43, i_44, i_45, i_48, i_49, i_57, i_59, i_60, i_61, i_62, i_64, i_97, i_110, i_122, i_123, i_125, i_126, i_127, i_160, i_255, i_300, i_400]
            · rw [if_neg (fun h => e h.1.symm), mI_k e]; exact a5 i hi
          · intro i hi
            rw [cW, hn, if_neg (fun h => h.2 cw), wI_ne _ _ _ (by omega)]; exact a6 i hi
        · obtain ⟨a0, a1, a2, a3, a4⟩ := h4
          exact ⟨by rw [wI_ne _ _ _ (by omega)]; exact a0, by rw [wI_ne _ _ _ (by omega)]; exact a1, a2.to (wI_ne _ _ _ (by omega)), a3.to (wI_ne _ _ _ (by omega)), a4.to (wI_ne _ _ _ (by omega))⟩
      obtain ⟨M', o, r'⟩ := tail _ r1 fr1
      refine ⟨M', ?_, r'⟩
      rw [← o]
      simp (disch := omega) only [↓reduceIte, nI_leT, nI_leF, nI_ltT, nI_ltF, nI_eqT, nI_eqF, xin_T, nI_clampT, nI_add, nI_inc, pk_subT, xb_some, xval, xlet, mI_s, mI_n, mI_k, mI_2, mJ_1, mJ_s, mJ_n, mJ_k, mJ_2, mT_1, mT_2, mT_s, mT_n, mT_k, mT_3, mR_1, mR_2, mR_3, bI_0, bI_1, bI_n0, bI_n1, Bool.true_eq_false, Bool.false_eq_true, eq_self, i_0, i_1, i_2, i_3, i_4, i_5, i_6, i_7, i_8, i_9, i_10, i_11, i_12, i_13, i_14, i_15, i_16, i_17, i_18, i_19, i_20, i_21, i_22, i_23, i_24, i_25, i_26, i_27, i_28, i_29, i_30, i_31, i_32, i_33, i_34, i_35, i_36, i_37, i_38, i_39, i_40, i_41, i_42, i_43, i_44, i_45, i_48, i_49, i_57, i_59, i_60, i_61, i_62, i_64, i_97, i_110, i_122, i_123, i_125, i_126, i_127, i_160, i_255, i_300, i_400, e26, e27, e28, wo, sf, ge, cw, e17]
    · have cw1 : (qg (L 2) v).2.2.1 = 1 := by omega
      have fr1 : pFr (b + 8) (b + 30) M (wI M (b + 18) n (nI (cW t L v n + 1))) := pFr.I (by omega)
      have r1 : rBd (wI M (b + 18) n (nI (cW t L v n + 1))) b t L (cR t L (v + 1)) (cW t L (v + 1)) (cF t L (v + 1)) (qBnd t L v) := by
        rw [ef]
        refine ⟨h1.fr fr1 (by omega), h2.to (fun a ha hb => wI_ne _ _ _ (by omega)), ?_, ?_, h5.to (wI_ne _ _ _ (by omega)) (fun _ _ _ => rfl), h6.to (wI_ne _ _ _ (by omega)), h7.to (wI_ne _ _ _ (by omega))⟩
        · obtain ⟨a0, a1, a2, a3, a4, a5, a6, a7, a8⟩ := h3
          refine ⟨by simp (disch := omega) only [↓reduceIte, nI_leT, nI_leF, nI_ltT, nI_ltF, nI_eqT, nI_eqF, xin_T, nI_clampT, nI_add, nI_inc, pk_subT, xb_some, xval, xlet, mI_s, mI_n, mI_k, mI_2, mJ_1, mJ_s, mJ_n, mJ_k, mJ_2, mT_1, mT_2, mT_s, mT_n, mT_k, mT_3, mR_1, mR_2, mR_3, bI_0, bI_1, bI_n0, bI_n1, Bool.true_eq_false, Bool.false_eq_true, eq_self, i_0, i_1, i_2, i_3, i_4, i_5, i_6, i_7, i_8, i_9, i_10, i_11, i_12, i_13, i_14, i_15, i_16, i_17, i_18, i_19, i_20, i_21, i_22, i_23, i_24, i_25, i_26, i_27, i_28, i_29, i_30, i_31, i_32, i_33, i_34, i_35, i_36, i_37, i_38, i_39, i_40, i_41, i_42, i_43, i_44, i_45, i_48, i_49, i_57, i_59, i_60, i_61, i_62, i_64, i_97, i_110, i_122, i_123, i_125, i_126, i_127, i_160, i_255, i_300, i_400, a0], a1.to (wI_ne _ _ _ (by omega)), a2.to (wI_ne _ _ _ (by omega)), a3.to (wI_ne _ _ _ (by omega)), a4.to (wI_ne _ _ _ (by omega)), ?_, ?_, a7.to (wI_ne _ _ _ (by omega)), a8.to (wI_ne _ _ _ (by omega))⟩
          · intro i hi
            rw [cR, hn, if_neg (fun h => cw h.2), wI_ne _ _ _ (by omega)]; exact a5 i hi
          · intro i hi
            rw [cW, hn]
            by_cases e : i = n
            · subst e; rw [if_pos ⟨rfl, cw⟩]; simp (disch := omega) only [↓reduceIte, nI_leT, nI_leF, nI_ltT, nI_ltF, nI_eqT, nI_eqF, xin_T, nI_clampT, nI_add, nI_inc, pk_subT, xb_some, xval, xlet, mI_s, mI_n, mI_k, mI_2, mJ_1, mJ_s, mJ_n, mJ_k, mJ_2, mT_1, mT_2, mT_s, mT_n, mT_k, mT_3, mR_1, mR_2, mR_3, bI_0, bI_1, bI_n0, bI_n1, Bool.true_eq_false, Bool.false_eq_true, eq_self, i_0, i_1, i_2, i_3, i_4, i_5, i_6, i_7, i_8, i_9, i_10, i_11, i_12, i_13, i_14, i_15, i_16, i_17, i_18, i_19, i_20, i_21, i_22, i_23, i_24, i_25, i_26, i_27, i_28, i_29, i_30, i_31, i_32, i_33, i_34, i_35, i_36, i_37, i_38, i_39, i_40, i_41, i_42, i_43, i_44, i_45, i_48, i_49, i_57, i_59, i_60, i_61, i_62, i_64, i_97, i_110, i_122, i_123, i_125, i_126, i_127, i_160, i_255, i_300, i_400]
            · rw [if_neg (fun h => e h.1.symm), mI_k e]; exact a6 i hi
        · obtain ⟨a0, a1, a2, a3, a4⟩ := h4
          exact ⟨by rw [wI_ne _ _ _ (by omega)]; exact a0, by rw [wI_ne _ _ _ (by omega)]; exact a1, a2.to (wI_ne _ _ _ (by omega)), a3.to (wI_ne _ _ _ (by omega)), a4.to (wI_ne _ _ _ (by omega))⟩
      obtain ⟨M', o, r'⟩ := tail _ r1 fr1
      refine ⟨M', ?_, r'⟩
      rw [← o]
      simp (disch := omega) only [↓reduceIte, nI_leT, nI_leF, nI_ltT, nI_ltF, nI_eqT, nI_eqF, xin_T, nI_clampT, nI_add, nI_inc, pk_subT, xb_some, xval, xlet, mI_s, mI_n, mI_k, mI_2, mJ_1, mJ_s, mJ_n, mJ_k, mJ_2, mT_1, mT_2, mT_s, mT_n, mT_k, mT_3, mR_1, mR_2, mR_3, bI_0, bI_1, bI_n0, bI_n1, Bool.true_eq_false, Bool.false_eq_true, eq_self, i_0, i_1, i_2, i_3, i_4, i_5, i_6, i_7, i_8, i_9, i_10, i_11, i_12, i_13, i_14, i_15, i_16, i_17, i_18, i_19, i_20, i_21, i_22, i_23, i_24, i_25, i_26, i_27, i_28, i_29, i_30, i_31, i_32, i_33, i_34, i_35, i_36, i_37, i_38, i_39, i_40, i_41, i_42, i_43, i_44, i_45, i_48, i_49, i_57, i_59, i_60, i_61, i_62, i_64, i_97, i_110, i_122, i_123, i_125, i_126, i_127, i_160, i_255, i_300, i_400, e26, e27, e28, wo, sf, ge, cw1, e18]
  · rw [if_neg c] at sf
    have ma := p_M_add (M := wI M (b + 25) 8 (nI (cF t L v + 1))) (b := b) (p := (qg (L 2) v).1) (r := 0) (by omega)
    have fr1 : pFr (b + 8) (b + 30) M (wI M (b + 25) 8 (nI (cF t L v + 1))) := pFr.I (by omega)
    have e8 := h4.2.1
    have r1 : rBd (wI M (b + 25) 8 (nI (cF t L v + 1))) b t L (cR t L (v + 1)) (cW t L (v + 1)) (cF t L (v + 1)) (qBnd t L v) := by
      refine ⟨h1.fr fr1 (by omega), h2.to (fun a ha hb => wI_ne _ _ _ (by omega)), ?_, ?_, h5.to (wI_ne _ _ _ (by omega)) (fun _ _ _ => rfl), h6.to (wI_ne _ _ _ (by omega)), h7.to (wI_ne _ _ _ (by omega))⟩
      · obtain ⟨a0, a1, a2, a3, a4, a5, a6, a7, a8⟩ := h3
        refine ⟨by simp (disch := omega) only [↓reduceIte, nI_leT, nI_leF, nI_ltT, nI_ltF, nI_eqT, nI_eqF, xin_T, nI_clampT, nI_add, nI_inc, pk_subT, xb_some, xval, xlet, mI_s, mI_n, mI_k, mI_2, mJ_1, mJ_s, mJ_n, mJ_k, mJ_2, mT_1, mT_2, mT_s, mT_n, mT_k, mT_3, mR_1, mR_2, mR_3, bI_0, bI_1, bI_n0, bI_n1, Bool.true_eq_false, Bool.false_eq_true, eq_self, i_0, i_1, i_2, i_3, i_4, i_5, i_6, i_7, i_8, i_9, i_10, i_11, i_12, i_13, i_14, i_15, i_16, i_17, i_18, i_19, i_20, i_21, i_22, i_23, i_24, i_25, i_26, i_27, i_28, i_29, i_30, i_31, i_32, i_33, i_34, i_35, i_36, i_37, i_38, i_39, i_40, i_41, i_42, i_43, i_44, i_45, i_48, i_49, i_57, i_59, i_60, i_61, i_62, i_64, i_97, i_110, i_122, i_123, i_125, i_126, i_127, i_160, i_255, i_300, i_400, a0], a1.to (wI_ne _ _ _ (by omega)), a2.to (wI_ne _ _ _ (by omega)), a3.to (wI_ne _ _ _ (by omega)), a4.to (wI_ne _ _ _ (by omega)), ?_, ?_, a7.to (wI_ne _ _ _ (by omega)), a8.to (wI_ne _ _ _ (by omega))⟩
        · intro i hi
          rw [cR, hn, if_neg (by omega), wI_ne _ _ _ (by omega)]; exact a5 i hi
        · intro i hi
          rw [cW, hn, if_neg (by omega), wI_ne _ _ _ (by omega)]; exact a6 i hi
      · obtain ⟨a0, a1, a2, a3, a4⟩ := h4
        refine ⟨by simp (disch := omega) only [↓reduceIte, nI_leT, nI_leF, nI_ltT, nI_ltF, nI_eqT, nI_eqF, xin_T, nI_clampT, nI_add, nI_inc, pk_subT, xb_some, xval, xlet, mI_s, mI_n, mI_k, mI_2, mJ_1, mJ_s, mJ_n, mJ_k, mJ_2, mT_1, mT_2, mT_s, mT_n, mT_k, mT_3, mR_1, mR_2, mR_3, bI_0, bI_1, bI_n0, bI_n1, Bool.true_eq_false, Bool.false_eq_true, eq_self, i_0, i_1, i_2, i_3, i_4, i_5, i_6, i_7, i_8, i_9, i_10, i_11, i_12, i_13, i_14, i_15, i_16, i_17, i_18, i_19, i_20, i_21, i_22, i_23, i_24, i_25, i_26, i_27, i_28, i_29, i_30, i_31, i_32, i_33, i_34, i_35, i_36, i_37, i_38, i_39, i_40, i_41, i_42, i_43, i_44, i_45, i_48, i_49, i_57, i_59, i_60, i_61, i_62, i_64, i_97, i_110, i_122, i_123, i_125, i_126, i_127, i_160, i_255, i_300, i_400, a0], ?_, a2.to (wI_ne _ _ _ (by omega)), a3.to (wI_ne _ _ _ (by omega)), a4.to (wI_ne _ _ _ (by omega))⟩
        rw [cF, hn, if_neg c]; simp (disch := omega) only [↓reduceIte, nI_leT, nI_leF, nI_ltT, nI_ltF, nI_eqT, nI_eqF, xin_T, nI_clampT, nI_add, nI_inc, pk_subT, xb_some, xval, xlet, mI_s, mI_n, mI_k, mI_2, mJ_1, mJ_s, mJ_n, mJ_k, mJ_2, mT_1, mT_2, mT_s, mT_n, mT_k, mT_3, mR_1, mR_2, mR_3, bI_0, bI_1, bI_n0, bI_n1, Bool.true_eq_false, Bool.false_eq_true, eq_self, i_0, i_1, i_2, i_3, i_4, i_5, i_6, i_7, i_8, i_9, i_10, i_11, i_12, i_13, i_14, i_15, i_16, i_17, i_18, i_19, i_20, i_21, i_22, i_23, i_24, i_25, i_26, i_27, i_28, i_29, i_30, i_31, i_32, i_33, i_34, i_35, i_36, i_37, i_38, i_39, i_40, i_41, i_42, i_43, i_44, i_45, i_48, i_49, i_57, i_59, i_60, i_61, i_62, i_64, i_97, i_110, i_122, i_123, i_125, i_126, i_127, i_160, i_255, i_300, i_400]
    have eK : qBnd t L (v + 1) = qA 10 ((qg (L 2) v).1, 0, 0, 0, 0) (qBnd t L v) := by
      rw [qBnd]; unfold qBind1; rw [hn, if_neg c]
    rw [eK]
    refine ⟨_, ?_, mAdd_bd (r := 0) r1 (by omega), fr1.trans (mAdd_fr.mono (by omega) (by omega))⟩
    unfold f_B_bind
    have n1 : (nI 0 ≤ -nI 1) = False := by decide
    simp (disch := omega) only [↓reduceIte, nI_leT, nI_leF, nI_ltT, nI_ltF, nI_eqT, nI_eqF, xin_T, nI_clampT, nI_add, nI_inc, pk_subT, xb_some, xval, xlet, mI_s, mI_n, mI_k, mI_2, mJ_1, mJ_s, mJ_n, mJ_k, mJ_2, mT_1, mT_2, mT_s, mT_n, mT_k, mT_3, mR_1, mR_2, mR_3, bI_0, bI_1, bI_n0, bI_n1, Bool.true_eq_false, Bool.false_eq_true, eq_self, i_0, i_1, i_2, i_3, i_4, i_5, i_6, i_7, i_8, i_9, i_10, i_11, i_12, i_13, i_14, i_15, i_16, i_17, i_18, i_19, i_20, i_21, i_22, i_23, i_24, i_25, i_26, i_27, i_28, i_29, i_30, i_31, i_32, i_33, i_34, i_35, i_36, i_37, i_38, i_39, i_40, i_41, i_42, i_43, i_44, i_45, i_48, i_49, i_57, i_59, i_60, i_61, i_62, i_64, i_97, i_110, i_122, i_123, i_125, i_126, i_127, i_160, i_255, i_300, i_400, e26, e27, wo, sf, n1, e8, ma]
