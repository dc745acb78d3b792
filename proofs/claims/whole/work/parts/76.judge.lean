/-! PURE: the class judges the things; its reading of a text -/
theorem cR_le {t : List Nat} {L : qL} : ∀ (v i : Nat), cR t L v i ≤ v := by
  intro v
  induction v with
  | zero => intro i; exact Nat.le_refl _
  | succ v ih => intro i; rw [cR]; have := ih i; split <;> omega
theorem cW_le {t : List Nat} {L : qL} : ∀ (v i : Nat), cW t L v i ≤ v + (qg (L 1) i).2.2.2.2 := by
  intro v
  induction v with
  | zero => intro i; rw [cW]; omega
  | succ v ih => intro i; rw [cW]; have := ih i; split <;> omega
theorem cF_le {t : List Nat} {L : qL} : ∀ (v : Nat), cF t L v ≤ v := by
  intro v
  induction v with
  | zero => exact Nat.le_refl _
  | succ v ih => rw [cF]; split <;> omega
/-- is a later PARAMETER of the same fn read? m things from v on -/
def qHeldN (l : List qE) (R : Nat → Nat) (i : Nat) : Nat → Nat → Bool
  | 0, _ => false
  | m + 1, v => if (qg l v).2.2.1 = 4 ∧ (qg l v).2.1 = (qg l i).2.1 ∧ R v ≠ 0 then true else qHeldN l R i m (v + 1)
def qHeld (l : List qE) (R : Nat → Nat) (i : Nat) : Bool := qHeldN l R i (l.length - (i + 1)) (i + 1)
def qUnused (L : qL) (R : Nat → Nat) (i : Nat) : Bool := decide (R i = 0) && !(decide ((qg (L 1) i).2.2.1 = 4) && qHeld (L 1) R i)
def qShadow (t : List Nat) (L : qL) (i : Nat) : Bool := decide (0 < (qg (L 0) (qg (L 1) i).2.1).2.2.2.1 ∧ qSeen (wT' t) (L 0) (L 1) (qg (L 0) (qg (L 1) i).2.1).1 (wT' t (qg (L 1) i).1) < (L 1).length)
def qConst (L : qL) (W : Nat → Nat) (i : Nat) : Bool := decide ((qg (L 1) i).2.2.1 = 0 ∧ (qg (L 1) i).2.2.2.2 ≠ 0 ∧ (qg (L 1) i).2.2.2.1 = 1 ∧ W i = 1)
/-- the marks that a thing brings -/
def qJudge1 (t : List Nat) (L : qL) (R W : Nat → Nat) (i : Nat) (K : qL) : qL :=
  let K1 := if qUnused L R i then qA 11 ((qg (L 1) i).1, 0, 0, 0, 0) K else K
  let K2 := if qShadow t L i then qA 14 ((qg (L 1) i).1, 0, 0, 0, 0) K1 else K1
  if qConst L W i then qA 17 ((qg (L 1) i).1 - 1, 0, 0, 0, 0) K2 else K2
def qJdg (t : List Nat) (L : qL) (R W : Nat → Nat) (K : qL) : Nat → qL
  | 0 => K
  | i + 1 => qJudge1 t L R W i (qJdg t L R W K i)
theorem p_isParameter {M : xMem} {b i : Nat} {wd : Nat → Nat} {l : List qE} {R W : Nat → Nat} (h : rT2 M b wd l R W) (hi : i < l.length) (hl : l.length ≤ 60) (hk : (qg l i).2.2.1 ≤ 4) : f_H_isParameter b (nI i) M = some (bI (decide ((qg l i).2.2.1 = 4)), M) := by
  have e : M.1 (b + 15) i = nI (qg l i).2.2.1 := h.2.2.2.1 i hi
  unfold f_H_isParameter
  by_cases c : (qg l i).2.2.1 = 4
  · rw [decide_eq_true c]
    simp (disch := omega) only [↓reduceIte, nI_leT, nI_leF, nI_ltT, nI_ltF, nI_eqT, nI_eqF, xin_T, nI_clampT, nI_add, nI_inc, pk_subT, xb_some, xval, xlet, mI_s, mI_n, mI_k, mI_2, mJ_1, mJ_s, mJ_n, mJ_k, mJ_2, mT_1, mT_2, mT_s, mT_n, mT_k, mT_3, mR_1, mR_2, mR_3, bI_0, bI_1, bI_n0, bI_n1, Bool.true_eq_false, Bool.false_eq_true, eq_self, i_0, i_1, i_2, i_3, i_4, i_5, i_6, i_7, i_8, i_9, i_10, i_11, i_12, i_13, i_14, i_15, i_16, i_17, i_18, i_19, i_20, i_21, i_22, i_23, i_24, i_25, i_26, i_27, i_28, i_29, i_30, i_31, i_32, i_33, i_34, i_35, i_36, i_37, i_38, i_39, i_40, i_41, i_42, i_43, i_44, i_45, i_48, i_49, i_57, i_59, i_60, i_61, i_62, i_64, i_97, i_110, i_122, i_123, i_125, i_126, i_127, i_160, i_255, i_300, i_400, e, c]
    rfl
  · rw [decide_eq_false c]
    simp (disch := omega) only [↓reduceIte, nI_leT, nI_leF, nI_ltT, nI_ltF, nI_eqT, nI_eqF, xin_T, nI_clampT, nI_add, nI_inc, pk_subT, xb_some, xval, xlet, mI_s, mI_n, mI_k, mI_2, mJ_1, mJ_s, mJ_n, mJ_k, mJ_2, mT_1, mT_2, mT_s, mT_n, mT_k, mT_3, mR_1, mR_2, mR_3, bI_0, bI_1, bI_n0, bI_n1, Bool.true_eq_false, Bool.false_eq_true, eq_self, i_0, i_1, i_2, i_3, i_4, i_5, i_6, i_7, i_8, i_9, i_10, i_11, i_12, i_13, i_14, i_15, i_16, i_17, i_18, i_19, i_20, i_21, i_22, i_23, i_24, i_25, i_26, i_27, i_28, i_29, i_30, i_31, i_32, i_33, i_34, i_35, i_36, i_37, i_38, i_39, i_40, i_41, i_42, i_43, i_44, i_45, i_48, i_49, i_57, i_59, i_60, i_61, i_62, i_64, i_97, i_110, i_122, i_123, i_125, i_126, i_127, i_160, i_255, i_300, i_400, e]
    rfl
theorem p_isRead {M : xMem} {b i : Nat} {wd : Nat → Nat} {l : List qE} {R W : Nat → Nat} (h : rT2 M b wd l R W) (hi : i < l.length) (hl : l.length ≤ 60) (hR : R i ≤ 1000) : f_H_isRead b (nI i) M = some (bI (decide (R i ≠ 0)), M) := by
  have e : M.1 (b + 17) i = nI (R i) := h.2.2.2.2.2.1 i hi
  unfold f_H_isRead
  by_cases c : R i = 0
  · rw [decide_eq_false (fun e => e c)]
    simp (disch := omega) only [↓reduceIte, nI_leT, nI_leF, nI_ltT, nI_ltF, nI_eqT, nI_eqF, xin_T, nI_clampT, nI_add, nI_inc, pk_subT, xb_some, xval, xlet, mI_s, mI_n, mI_k, mI_2, mJ_1, mJ_s, mJ_n, mJ_k, mJ_2, mT_1, mT_2, mT_s, mT_n, mT_k, mT_3, mR_1, mR_2, mR_3, bI_0, bI_1, bI_n0, bI_n1, Bool.true_eq_false, Bool.false_eq_true, eq_self, i_0, i_1, i_2, i_3, i_4, i_5, i_6, i_7, i_8, i_9, i_10, i_11, i_12, i_13, i_14, i_15, i_16, i_17, i_18, i_19, i_20, i_21, i_22, i_23, i_24, i_25, i_26, i_27, i_28, i_29, i_30, i_31, i_32, i_33, i_34, i_35, i_36, i_37, i_38, i_39, i_40, i_41, i_42, i_43, i_44, i_45, i_48, i_49, i_57, i_59, i_60, i_61, i_62, i_64, i_97, i_110, i_122, i_123, i_125, i_126, i_127, i_160, i_255, i_300, i_400, e, c]
    rfl
  · rw [decide_eq_true c]
    have : (nI (R i) ≤ nI 0) = False := eq_false (nI_ge (a := 0) (by omega) (by omega))
    simp (disch := omega) only [↓reduceIte, nI_leT, nI_leF, nI_ltT, nI_ltF, nI_eqT, nI_eqF, xin_T, nI_clampT, nI_add, nI_inc, pk_subT, xb_some, xval, xlet, mI_s, mI_n, mI_k, mI_2, mJ_1, mJ_s, mJ_n, mJ_k, mJ_2, mT_1, mT_2, mT_s, mT_n, mT_k, mT_3, mR_1, mR_2, mR_3, bI_0, bI_1, bI_n0, bI_n1, Bool.true_eq_false, Bool.false_eq_true, eq_self, i_0, i_1, i_2, i_3, i_4, i_5, i_6, i_7, i_8, i_9, i_10, i_11, i_12, i_13, i_14, i_15, i_16, i_17, i_18, i_19, i_20, i_21, i_22, i_23, i_24, i_25, i_26, i_27, i_28, i_29, i_30, i_31, i_32, i_33, i_34, i_35, i_36, i_37, i_38, i_39, i_40, i_41, i_42, i_43, i_44, i_45, i_48, i_49, i_57, i_59, i_60, i_61, i_62, i_64, i_97, i_110, i_122, i_123, i_125, i_126, i_127, i_160, i_255, i_300, i_400, e, this]
    rfl
theorem p_held_4 {M : xMem} {b i : Nat} {wd : Nat → Nat} {l : List qE} {R W : Nat → Nat} (h : rT2 M b wd l R W) (hi : i < l.length) (hl : l.length ≤ 60) (hb : ∀ j, j < l.length → (qg l j).2.2.1 ≤ 4 ∧ (qg l j).2.1 < 1000 ∧ R j ≤ 1000) : ∀ (m v fuel : Nat), v + m = l.length → m < fuel → f_H_isHeldByLater_4 b (nI i) fuel (nI v) M = some (bI (qHeldN l R i m v), M) := by
  have h0 := h.1
  have e16i : M.1 (b + 16) i = nI (qg l i).2.1 := h.2.2.2.2.1 i hi
  intro m
  induction m with
  | zero =>
    intro v fuel hv hf
    obtain ⟨f, rfl⟩ : ∃ f, fuel = f + 1 := ⟨fuel - 1, by omega⟩
    rw [f_H_isHeldByLater_4, qHeldN]
    simp (disch := omega) only [↓reduceIte, nI_leT, nI_leF, nI_ltT, nI_ltF, nI_eqT, nI_eqF, xin_T, nI_clampT, nI_add, nI_inc, pk_subT, xb_some, xval, xlet, mI_s, mI_n, mI_k, mI_2, mJ_1, mJ_s, mJ_n, mJ_k, mJ_2, mT_1, mT_2, mT_s, mT_n, mT_k, mT_3, mR_1, mR_2, mR_3, bI_0, bI_1, bI_n0, bI_n1, Bool.true_eq_false, Bool.false_eq_true, eq_self, i_0, i_1, i_2, i_3, i_4, i_5, i_6, i_7, i_8, i_9, i_10, i_11, i_12, i_13, i_14, i_15, i_16, i_17, i_18, i_19, i_20, i_21, i_22, i_23, i_24, i_25, i_26, i_27, i_28, i_29, i_30, i_31, i_32, i_33, i_34, i_35, i_36, i_37, i_38, i_39, i_40, i_41, i_42, i_43, i_44, i_45, i_48, i_49, i_57, i_59, i_60, i_61, i_62, i_64, i_97, i_110, i_122, i_123, i_125, i_126, i_127, i_160, i_255, i_300, i_400, h0]
    rfl
  | succ m ih =>
    intro v fuel hv hf
    obtain ⟨f, rfl⟩ : ∃ f, fuel = f + 1 := ⟨fuel - 1, by omega⟩
    have hvl : v < l.length := by omega
    obtain ⟨b1, b2, b3⟩ := hb v hvl
    have bi := (hb i hi).2.1
    have ip := p_isParameter h hvl hl b1
    have ir := p_isRead h hvl hl b3
    have e16 : M.1 (b + 16) v = nI (qg l v).2.1 := h.2.2.2.2.1 v hvl
    have ih' := ih (v + 1) f (by omega) (by omega)
    have eF : ¬ ((qg l v).2.2.1 = 4 ∧ (qg l v).2.1 = (qg l i).2.1 ∧ R v ≠ 0) → qHeldN l R i (m + 1) v = qHeldN l R i m (v + 1) := by intro hc; rw [qHeldN, if_neg hc]
    have eT : ((qg l v).2.2.1 = 4 ∧ (qg l v).2.1 = (qg l i).2.1 ∧ R v ≠ 0) → qHeldN l R i (m + 1) v = true := by intro hc; rw [qHeldN, if_pos hc]
    rw [f_H_isHeldByLater_4]
    unfold f_H_isHeldByLater_45
    by_cases c1 : (qg l v).2.2.1 = 4
    · rw [decide_eq_true c1] at ip
      by_cases c2 : (qg l v).2.1 = (qg l i).2.1
      · by_cases c3 : R v = 0
        · rw [decide_eq_false (fun e => e c3)] at ir
          rw [eF (fun e => e.2.2 c3)]
          simp (disch := omega) only [↓reduceIte, nI_leT, nI_leF, nI_ltT, nI_ltF, nI_eqT, nI_eqF, xin_T, nI_clampT, nI_add, nI_inc, pk_subT, xb_some, xval, xlet, mI_s, mI_n, mI_k, mI_2, mJ_1, mJ_s, mJ_n, mJ_k, mJ_2, mT_1, mT_2, mT_s, mT_n, mT_k, mT_3, mR_1, mR_2, mR_3, bI_0, bI_1, bI_n0, bI_n1, Bool.true_eq_false, Bool.false_eq_true, eq_self, i_0, i_1, i_2, i_3, i_4, i_5, i_6, i_7, i_8, i_9, i_10, i_11, i_12, i_13, i_14, i_15, i_16, i_17, i_18, i_19, i_20, i_21, i_22, i_23, i_24, i_25, i_26, i_27, i_28, i_29, i_30, i_31, i_32, i_33, i_34, i_35, i_36, i_37, i_38, i_39, i_40, i_41, i_42, i_43, i_44, i_45, i_48, i_49, i_57, i_59, i_60, i_61, i_62, i_64, i_97, i_110, i_122, i_123, i_125, i_126, i_127, i_160, i_255, i_300, i_400, h0, ip, e16, e16i, c2, ir]
          exact ih'
        · rw [decide_eq_true c3] at ir
          rw [eT ⟨c1, c2, c3⟩]
          simp (disch := omega) only [↓reduceIte, nI_leT, nI_leF, nI_ltT, nI_ltF, nI_eqT, nI_eqF, xin_T, nI_clampT, nI_add, nI_inc, pk_subT, xb_some, xval, xlet, mI_s, mI_n, mI_k, mI_2, mJ_1, mJ_s, mJ_n, mJ_k, mJ_2, mT_1, mT_2, mT_s, mT_n, mT_k, mT_3, mR_1, mR_2, mR_3, bI_0, bI_1, bI_n0, bI_n1, Bool.true_eq_false, Bool.false_eq_true, eq_self, i_0, i_1, i_2, i_3, i_4, i_5, i_6, i_7, i_8, i_9, i_10, i_11, i_12, i_13, i_14, i_15, i_16, i_17, i_18, i_19, i_20, i_21, i_22, i_23, i_24, i_25, i_26, i_27, i_28, i_29, i_30, i_31, i_32, i_33, i_34, i_35, i_36, i_37, i_38, i_39, i_40, i_41, i_42, i_43, i_44, i_45, i_48, i_49, i_57, i_59, i_60, i_61, i_62, i_64, i_97, i_110, i_122, i_123, i_125, i_126, i_127, i_160, i_255, i_300, i_400, h0, ip, e16, e16i, c2, ir]
          rfl
      · rw [eF (fun e => c2 e.2.1)]
        simp (disch := omega) only [↓reduceIte, nI_leT, nI_leF, nI_ltT, nI_ltF, nI_eqT, nI_eqF, xin_T, nI_clampT, nI_add, nI_inc, pk_subT, xb_some, xval, xlet, mI_s, mI_n, mI_k, mI_2, mJ_1, mJ_s, mJ_n, mJ_k, mJ_2, mT_1, mT_2, mT_s, mT_n, mT_k, mT_3, mR_1, mR_2, mR_3, bI_0, bI_1, bI_n0, bI_n1, Bool.true_eq_false, Bool.false_eq_true, eq_self, i_0, i_1, i_2, i_3, i_4, i_5, i_6, i_7, i_8, i_9, i_10, i_11, i_12, i_13, i_14, i_15, i_16, i_17, i_18, i_19, i_20, i_21, i_22, i_23, i_24, i_25, i_26, i_27, i_28, i_29, i_30, i_31, i_32, i_33, i_34, i_35, i_36, i_37, i_38, i_39, i_40, i_41, i_42, i_43, i_44, i_45, i_48, i_49, i_57, i_59, i_60, i_61, i_62, i_64, i_97, i_110, i_122, i_123, i_125, i_126, i_127, i_160, i_255, i_300, i_400, h0, ip, e16, e16i]
        exact ih'
    · rw [decide_eq_false c1] at ip
      rw [eF (fun e => c1 e.1)]
      simp (disch := omega) only [↓reduceIte, nI_leT, nI_leF, nI_ltT, nI_ltF, nI_eqT, nI_eqF, xin_T, nI_clampT, nI_add, nI_inc, pk_subT, xb_some, xval, xlet, mI_s, mI_n, mI_k, mI_2, mJ_1, mJ_s, mJ_n, mJ_k, mJ_2, mT_1, mT_2, mT_s, mT_n, mT_k, mT_3, mR_1, mR_2, mR_3, bI_0, bI_1, bI_n0, bI_n1, Bool.true_eq_false, Bool.false_eq_true, eq_self, i_0, i_1, i_2, i_3, i_4, i_5, i_6, i_7, i_8, i_9, i_10, i_11, i_12, i_13, i_14, i_15, i_16, i_17, i_18, i_19, i_20, i_21, i_22, i_23, i_24, i_25, i_26, i_27, i_28, i_29, i_30, i_31, i_32, i_33, i_34, i_35, i_36, i_37, i_38, i_39, i_40, i_41, i_42, i_43, i_44, i_45, i_48, i_49, i_57, i_59, i_60, i_61, i_62, i_64, i_97, i_110, i_122, i_123, i_125, i_126, i_127, i_160, i_255, i_300, i_400, h0, ip]
      exact ih'
theorem p_held {M : xMem} {b i : Nat} {wd : Nat → Nat} {l : List qE} {R W : Nat → Nat} (h : rT2 M b wd l R W) (hi : i < l.length) (hl : l.length ≤ 60) (hb : ∀ j, j < l.length → (qg l j).2.2.1 ≤ 4 ∧ (qg l j).2.1 < 1000 ∧ R j ≤ 1000) : f_H_isHeldByLater b (nI i) M = some (bI (qHeld l R i), M) := by
  unfold f_H_isHeldByLater qHeld
  rw [show nI i + 1 = nI (i + 1) from nI_1 i]
  exact p_held_4 h hi hl hb (l.length - (i + 1)) (i + 1) xFuel (by omega) (by unfold xFuel; omega)
theorem p_judge {M : xMem} {b i f : Nat} {t : List Nat} {L K : qL} {R W : Nat → Nat} (h : rBd M b t L R W f K) (hF : qFin t L) (hi : i < (L 1).length) (hR : ∀ j, R j ≤ 1000) (hW : ∀ j, W j ≤ 1000) (hT : ∀ j, j < (L 1).length → (qg (L 1) j).2.2.2.1 ≤ 60 ∧ (qg (L 1) j).2.2.2.2 ≤ (qg (L 1) j).2.2.2.1) (h1' : ∀ j, j < (L 1).length → (qg (L 1) j).2.2.1 = 0 → (qg (L 1) j).2.2.2.1 = 1 → (qg (L 1) j).2.2.2.2 ≠ 0 → 1 ≤ (qg (L 1) j).1) : ∃ M', f_B_judge b (nI i) M = some ((), M') ∧ rBd M' b t L R W f (qJudge1 t L R W i K) ∧ pFr (b + 8) (b + 30) M M' := by
  have hF0 := hF
  obtain ⟨f1, f2, f3, f4, f5, f6⟩ := hF
  obtain ⟨t1, t2, t3⟩ := f5 i hi
  have k60 := kT_60 t2
  have hb : ∀ j, j < (L 1).length → (qg (L 1) j).2.2.1 ≤ 4 ∧ (qg (L 1) j).2.1 < 1000 ∧ R j ≤ 1000 := fun j hj => ⟨(f5 j hj).2.2, by have := (f5 j hj).1; omega, hR j⟩
  have e13 : M.1 (b + 13) i = nI (qg (L 1) i).1 := h.2.2.1.2.1 i hi
  have ip := p_isParameter h.2.2.1 hi f3 t3
  have hd := p_held h.2.2.1 hi f3 hb
  /- CONST -/
  have last : ∀ (M2 : xMem) (K2 : qL) (v3 : Int32), rBd M2 b t L R W f K2 → pFr (b + 8) (b + 30) M M2 → ∃ M', f_B_judge_79 b (nI i) (nI (qg (L 1) i).1) v3 M2 = some ((), M') ∧ rBd M' b t L R W f (if qConst L W i then qA 17 ((qg (L 1) i).1 - 1, 0, 0, 0, 0) K2 else K2) ∧ pFr (b + 8) (b + 30) M M' := by
    intro M2 K2 v3 r2 fr2
    have e15 : M2.1 (b + 15) i = nI (qg (L 1) i).2.2.1 := r2.2.2.1.2.2.2.1 i hi
    have e18 : M2.1 (b + 18) i = nI (W i) := r2.2.2.1.2.2.2.2.2.2.1 i hi
    have e19 : M2.1 (b + 19) i = nI (qg (L 1) i).2.2.2.1 := r2.2.2.1.2.2.2.2.2.2.2.1 i hi
    have e20 : M2.1 (b + 20) i = nI (if (qg (L 1) i).2.2.2.2 = 0 then 0 else 1) := r2.2.2.1.2.2.2.2.2.2.2.2 i hi
    have w1 := hW i
    have t60 := (hT i hi).1
    have cc : f_H_couldBeConst b (nI i) M2 = some (bI (qConst L W i), M2) := by
      unfold f_H_couldBeConst
      by_cases c0 : (qg (L 1) i).2.2.1 = 0
      · by_cases c1 : (qg (L 1) i).2.2.2.2 = 0
        · have e : qConst L W i = false := decide_eq_false (fun e => e.2.1 c1)
          rw [if_pos c1] at e20
          rw [e]; simp (disch := omega) only [↓reduceIte, nI_leT, nI_leF, nI_ltT, nI_ltF, nI_eqT, nI_eqF, xin_T, nI_clampT, nI_add, nI_inc, pk_subT, xb_some, xval, xlet, mI_s, mI_n, mI_k, mI_2, mJ_1, mJ_s, mJ_n, mJ_k, mJ_2, mT_1, mT_2, mT_s, mT_n, mT_k, mT_3, mR_1, mR_2, mR_3, bI_0, bI_1, bI_n0, bI_n1, Bool.true_eq_false, Bool.false_eq_true, eq_self, i_0, i_1, i_2, i_3, i_4, i_5, i_6, i_7, i_8, i_9, i_10, i_11, i_12, i_13, i_14, i_15, i_16, i_17, i_18, i_19, i_20, i_21, i_22, i_23, i_24, i_25, i_26, i_27, i_28, i_29, i_30, i_31, i_32, i_33, i_34, i_35, i_36, i_37, i_38, i_39, i_40, i_41, i_42, i_43, i_44, i_45, i_48, i_49, i_57, i_59, i_60, i_61, i_62, i_64, i_97, i_110, i_122, i_123, i_125, i_126, i_127, i_160, i_255, i_300, i_400, e15, c0, e20]; rfl
        · rw [if_neg c1] at e20
          by_cases c2 : (qg (L 1) i).2.2.2.1 = 1
          · by_cases c3 : W i = 1
            · have e : qConst L W i = true := decide_eq_true ⟨c0, c1, c2, c3⟩
              rw [e]; simp (disch := omega) only [↓reduceIte, nI_leT, nI_leF, nI_ltT, nI_ltF, nI_eqT, nI_eqF, xin_T, nI_clampT, nI_add, nI_inc, pk_subT, xb_some, xval, xlet, mI_s, mI_n, mI_k, mI_2, mJ_1, mJ_s, mJ_n, mJ_k, mJ_2, mT_1, mT_2, mT_s, mT_n, mT_k, mT_3, mR_1, mR_2, mR_3, bI_0, bI_1, bI_n0, bI_n1, Bool.true_eq_false, Bool.false_eq_true, eq_self, i_0, i_1, i_2, i_3, i_4, i_5, i_6, i_7, i_8, i_9, i_10, i_11, i_12, i_13, i_14, i_15, i_16, i_17, i_18, i_19, i_20, i_21, i_22, i_23, i_24, i_25, i_26, i_27, i_28, i_29, i_30, i_31, i_32, i_33, i_34, i_35, i_36, i_37, i_38, i_39, i_40, i_41, i_42, i_43, i_44, i_45, i_48, i_49, i_57, i_59, i_60, i_61, i_62, i_64, i_97, i_110, i_122, i_123, i_125, i_126, i_127, i_160, i_255, i_300, i_400, e15, c0, e20, e19, c2, e18, c3]; rfl
            · have e : qConst L W i = false := decide_eq_false (fun e => c3 e.2.2.2)
              rw [e]; simp (disch := omega) only [↓reduceIte, nI_leT, nI_leF, nI_ltT, nI_ltF, nI_eqT, nI_eqF, xin_T, nI_clampT, nI_add, nI_inc, pk_subT, xb_some, xval, xlet, mI_s, mI_n, mI_k, mI_2, mJ_1, mJ_s, mJ_n, mJ_k, mJ_2, mT_1, mT_2, mT_s, mT_n, mT_k, mT_3, mR_1, mR_2, mR_3, bI_0, bI_1, bI_n0, bI_n1, Bool.true_eq_false, Bool.false_eq_true, eq_self, i_0, i_1, i_2, i_3, i_4, i_5, i_6, i_7, i_8, i_9, i_10, i_11, i_12, i_13, i_14, i_15, i_16, i_17, i_18, i_19, i_20, i_21, i_22, i_23, i_24, i_25, i_26, i_27, i_28, i_29, i_30, i_31, i_32, i_33, i_34, i_35, i_36, i_37, i_38, i_39, i_40, i_41, i_42, i_43, i_44, i_45, i_48, i_49, i_57, i_59, i_60, i_61, i_62, i_64, i_97, i_110, i_122, i_123, i_125, i_126, i_127, i_160, i_255, i_300, i_400, e15, c0, e20, e19, c2, e18]; rfl
          · have e : qConst L W i = false := decide_eq_false (fun e => c2 e.2.2.1)
            rw [e]; simp (disch := omega) only [↓reduceIte, nI_leT, nI_leF, nI_ltT, nI_ltF, nI_eqT, nI_eqF, xin_T, nI_clampT, nI_add, nI_inc, pk_subT, xb_some, xval, xlet, mI_s, mI_n, mI_k, mI_2, mJ_1, mJ_s, mJ_n, mJ_k, mJ_2, mT_1, mT_2, mT_s, mT_n, mT_k, mT_3, mR_1, mR_2, mR_3, bI_0, bI_1, bI_n0, bI_n1, Bool.true_eq_false, Bool.false_eq_true, eq_self, i_0, i_1, i_2, i_3, i_4, i_5, i_6, i_7, i_8, i_9, i_10, i_11, i_12, i_13, i_14, i_15, i_16, i_17, i_18, i_19, i_20, i_21, i_22, i_23, i_24, i_25, i_26, i_27, i_28, i_29, i_30, i_31, i_32, i_33, i_34, i_35, i_36, i_37, i_38, i_39, i_40, i_41, i_42, i_43, i_44, i_45, i_48, i_49, i_57, i_59, i_60, i_61, i_62, i_64, i_97, i_110, i_122, i_123, i_125, i_126, i_127, i_160, i_255, i_300, i_400, e15, c0, e20, e19]; rfl
      · have e : qConst L W i = false := decide_eq_false (fun e => c0 e.1)
        rw [e]; simp (disch := omega) only [↓reduceIte, nI_leT, nI_leF, nI_ltT, nI_ltF, nI_eqT, nI_eqF, xin_T, nI_clampT, nI_add, nI_inc, pk_subT, xb_some, xval, xlet, mI_s, mI_n, mI_k, mI_2, mJ_1, mJ_s, mJ_n, mJ_k, mJ_2, mT_1, mT_2, mT_s, mT_n, mT_k, mT_3, mR_1, mR_2, mR_3, bI_0, bI_1, bI_n0, bI_n1, Bool.true_eq_false, Bool.false_eq_true, eq_self, i_0, i_1, i_2, i_3, i_4, i_5, i_6, i_7, i_8, i_9, i_10, i_11, i_12, i_13, i_14, i_15, i_16, i_17, i_18, i_19, i_20, i_21, i_22, i_23, i_24, i_25, i_26, i_27, i_28, i_29, i_30, i_31, i_32, i_33, i_34, i_35, i_36, i_37, i_38, i_39, i_40, i_41, i_42, i_43, i_44, i_45, i_48, i_49, i_57, i_59, i_60, i_61, i_62, i_64, i_97, i_110, i_122, i_123, i_125, i_126, i_127, i_160, i_255, i_300, i_400, e15]; rfl
    unfold f_B_judge_79
    cases ee : qConst L W i with
    | true =>
      have e3 := of_decide_eq_true ee
      have p1 := h1' i hi e3.1 e3.2.2.1 e3.2.1
      rw [ee] at cc
      have ma := p_M_add (M := M2) (b := b) (p := (qg (L 1) i).1 - 1) (r := 7) (by omega)
      refine ⟨mAdd M2 b ((qg (L 1) i).1 - 1) 7, ?_, mAdd_bd r2 (by omega), fr2.trans (mAdd_fr.mono (by omega) (by omega))⟩
      simp (disch := omega) only [↓reduceIte, nI_leT, nI_leF, nI_ltT, nI_ltF, nI_eqT, nI_eqF, xin_T, nI_clampT, nI_add, nI_inc, pk_subT, xb_some, xval, xlet, mI_s, mI_n, mI_k, mI_2, mJ_1, mJ_s, mJ_n, mJ_k, mJ_2, mT_1, mT_2, mT_s, mT_n, mT_k, mT_3, mR_1, mR_2, mR_3, bI_0, bI_1, bI_n0, bI_n1, Bool.true_eq_false, Bool.false_eq_true, eq_self, i_0, i_1, i_2, i_3, i_4, i_5, i_6, i_7, i_8, i_9, i_10, i_11, i_12, i_13, i_14, i_15, i_16, i_17, i_18, i_19, i_20, i_21, i_22, i_23, i_24, i_25, i_26, i_27, i_28, i_29, i_30, i_31, i_32, i_33, i_34, i_35, i_36, i_37, i_38, i_39, i_40, i_41, i_42, i_43, i_44, i_45, i_48, i_49, i_57, i_59, i_60, i_61, i_62, i_64, i_97, i_110, i_122, i_123, i_125, i_126, i_127, i_160, i_255, i_300, i_400, cc, ma]
    | false =>
      rw [ee] at cc
      refine ⟨M2, ?_, r2, fr2⟩
      simp (disch := omega) only [↓reduceIte, nI_leT, nI_leF, nI_ltT, nI_ltF, nI_eqT, nI_eqF, xin_T, nI_clampT, nI_add, nI_inc, pk_subT, xb_some, xval, xlet, mI_s, mI_n, mI_k, mI_2, mJ_1, mJ_s, mJ_n, mJ_k, mJ_2, mT_1, mT_2, mT_s, mT_n, mT_k, mT_3, mR_1, mR_2, mR_3, bI_0, bI_1, bI_n0, bI_n1, Bool.true_eq_false, Bool.false_eq_true, eq_self, i_0, i_1, i_2, i_3, i_4, i_5, i_6, i_7, i_8, i_9, i_10, i_11, i_12, i_13, i_14, i_15, i_16, i_17, i_18, i_19, i_20, i_21, i_22, i_23, i_24, i_25, i_26, i_27, i_28, i_29, i_30, i_31, i_32, i_33, i_34, i_35, i_36, i_37, i_38, i_39, i_40, i_41, i_42, i_43, i_44, i_45, i_48, i_49, i_57, i_59, i_60, i_61, i_62, i_64, i_97, i_110, i_122, i_123, i_125, i_126, i_127, i_160, i_255, i_300, i_400, cc]
  /- SHADOW -/
  have mid : ∀ (M2 : xMem) (K2 : qL) (v3 : Int32), rBd M2 b t L R W f K2 → pFr (b + 8) (b + 30) M M2 → ∃ M', f_B_judge_62 b (nI i) (nI (qg (L 1) i).1) v3 M2 = some ((), M') ∧ rBd M' b t L R W f (if qConst L W i then qA 17 ((qg (L 1) i).1 - 1, 0, 0, 0, 0) (if qShadow t L i then qA 14 ((qg (L 1) i).1, 0, 0, 0, 0) K2 else K2) else (if qShadow t L i then qA 14 ((qg (L 1) i).1, 0, 0, 0, 0) K2 else K2)) ∧ pFr (b + 8) (b + 30) M M' := by
    intro M2 K2 v3 r2 fr2
    have e16 : M2.1 (b + 16) i = nI (qg (L 1) i).2.1 := r2.2.2.1.2.2.2.2.1 i hi
    have e14 : M2.1 (b + 14) i = nI (wT' t (qg (L 1) i).1) := r2.2.2.1.2.2.1 i hi
    have lv := p_levelOf r2.2.1 t1 f2
    have ar := p_aroundOf r2.2.1 t1 f2
    have ll := f1.lev_le _ t1
    have wl := wT_le t (qg (L 1) i).1
    have sh : f_B_isShadow b (nI i) M2 = some (bI (qShadow t L i), M2) := by
      unfold f_B_isShadow
      by_cases c0 : (qg (L 0) (qg (L 1) i).2.1).2.2.2.1 = 0
      · have e : qShadow t L i = false := decide_eq_false (fun e => by omega)
        rw [e]
        rw [c0] at lv
        simp (disch := omega) only [↓reduceIte, nI_leT, nI_leF, nI_ltT, nI_ltF, nI_eqT, nI_eqF, xin_T, nI_clampT, nI_add, nI_inc, pk_subT, xb_some, xval, xlet, mI_s, mI_n, mI_k, mI_2, mJ_1, mJ_s, mJ_n, mJ_k, mJ_2, mT_1, mT_2, mT_s, mT_n, mT_k, mT_3, mR_1, mR_2, mR_3, bI_0, bI_1, bI_n0, bI_n1, Bool.true_eq_false, Bool.false_eq_true, eq_self, i_0, i_1, i_2, i_3, i_4, i_5, i_6, i_7, i_8, i_9, i_10, i_11, i_12, i_13, i_14, i_15, i_16, i_17, i_18, i_19, i_20, i_21, i_22, i_23, i_24, i_25, i_26, i_27, i_28, i_29, i_30, i_31, i_32, i_33, i_34, i_35, i_36, i_37, i_38, i_39, i_40, i_41, i_42, i_43, i_44, i_45, i_48, i_49, i_57, i_59, i_60, i_61, i_62, i_64, i_97, i_110, i_122, i_123, i_125, i_126, i_127, i_160, i_255, i_300, i_400, e16, lv]
        rfl
      · have s0 : (qg (L 1) i).2.1 ≠ 0 := fun e => c0 ((f1.level t1).1.mpr e)
        obtain ⟨a1, a2⟩ := (f1.level t1).2 s0
        have sf := p_seenFrom (s := (qg (L 0) (qg (L 1) i).2.1).1) (w := wT' t (qg (L 1) i).1) r2.2.1 f1 f2 r2.2.2.1 f3 (by omega) (fun j hj => ⟨by have := (f5 j hj).1; omega, by have := kT_60 (f5 j hj).2.1; have := wT_le t (qg (L 1) j).1; omega⟩) (by omega)
        have np : (nI (qg (L 0) (qg (L 1) i).2.1).2.2.2.1 ≤ nI 0) = False := eq_false (nI_ge (a := 0) (by omega) (by omega))
        by_cases c1 : qSeen (wT' t) (L 0) (L 1) (qg (L 0) (qg (L 1) i).2.1).1 (wT' t (qg (L 1) i).1) < (L 1).length
        · have e : qShadow t L i = true := decide_eq_true ⟨by omega, c1⟩
          rw [if_pos c1] at sf
          have n2 : (nI (qSeen (wT' t) (L 0) (L 1) (qg (L 0) (qg (L 1) i).2.1).1 (wT' t (qg (L 1) i).1)) < nI 0) = False := eq_false (nI_nlt (Nat.zero_le _) (by omega))
          rw [e]
          simp (disch := omega) only [↓reduceIte, nI_leT, nI_leF, nI_ltT, nI_ltF, nI_eqT, nI_eqF, xin_T, nI_clampT, nI_add, nI_inc, pk_subT, xb_some, xval, xlet, mI_s, mI_n, mI_k, mI_2, mJ_1, mJ_s, mJ_n, mJ_k, mJ_2, mT_1, mT_2, mT_s, mT_n, mT_k, mT_3, mR_1, mR_2, mR_3, bI_0, bI_1, bI_n0, bI_n1, Bool.true_eq_false, Bool.false_eq_true, eq_self, i_0, i_1, i_2, i_3, i_4, i_5, i_6, i_7, i_8, i_9, i_10, i_11, i_12, i_13, i_14, i_15, i_16, i_17, i_18, i_19, i_20, i_21, i_22, i_23, i_24, i_25, i_26, i_27, i_28, i_29, i_30, i_31, i_32, i_33, i_34, i_35, i_36, i_37, i_38, i_39, i_40, i_41, i_42, i_43, i_44, i_45, i_48, i_49, i_57, i_59, i_60, i_61, i_62, i_64, i_97, i_110, i_122, i_123, i_125, i_126, i_127, i_160, i_255, i_300, i_400, e16, lv, np, ar, e14, sf, n2]
          rfl
        · have e : qShadow t L i = false := decide_eq_false (fun e => c1 e.2)
          rw [if_neg c1] at sf
          have n2 : (-nI 1 < nI 0) = True := by decide
          rw [e]
          simp (disch := omega) only [↓reduceIte, nI_leT, nI_leF, nI_ltT, nI_ltF, nI_eqT, nI_eqF, xin_T, nI_clampT, nI_add, nI_inc, pk_subT, xb_some, xval, xlet, mI_s, mI_n, mI_k, mI_2, mJ_1, mJ_s, mJ_n, mJ_k, mJ_2, mT_1, mT_2, mT_s, mT_n, mT_k, mT_3, mR_1, mR_2, mR_3, bI_0, bI_1, bI_n0, bI_n1, Bool.true_eq_false, Bool.false_eq_true, eq_self, i_0, i_1, i_2, i_3, i_4, i_5, i_6, i_7, i_8, i_9, i_10, i_11, i_12, i_13, i_14, i_15, i_16, i_17, i_18, i_19, i_20, i_21, i_22, i_23, i_24, i_25, i_26, i_27, i_28, i_29, i_30, i_31, i_32, i_33, i_34, i_35, i_36, i_37, i_38, i_39, i_40, i_41, i_42, i_43, i_44, i_45, i_48, i_49, i_57, i_59, i_60, i_61, i_62, i_64, i_97, i_110, i_122, i_123, i_125, i_126, i_127, i_160, i_255, i_300, i_400, e16, lv, np, ar, e14, sf, n2]
          rfl
    unfold f_B_judge_62
    cases ee : qShadow t L i with
    | true =>
      rw [ee] at sh
      have ma := p_M_add (M := M2) (b := b) (p := (qg (L 1) i).1) (r := 4) (by omega)
      obtain ⟨M', o, r'⟩ := last (mAdd M2 b (qg (L 1) i).1 4) _ v3 (mAdd_bd (r := 4) r2 (by omega)) (fr2.trans (mAdd_fr.mono (by omega) (by omega)))
      refine ⟨M', ?_, r'⟩
      rw [← o]
      simp (disch := omega) only [↓reduceIte, nI_leT, nI_leF, nI_ltT, nI_ltF, nI_eqT, nI_eqF, xin_T, nI_clampT, nI_add, nI_inc, pk_subT, xb_some, xval, xlet, mI_s, mI_n, mI_k, mI_2, mJ_1, mJ_s, mJ_n, mJ_k, mJ_2, mT_1, mT_2, mT_s, mT_n, mT_k, mT_3, mR_1, mR_2, mR_3, bI_0, bI_1, bI_n0, bI_n1, Bool.true_eq_false, Bool.false_eq_true, eq_self, i_0, i_1, i_2, i_3, i_4, i_5, i_6, i_7, i_8, i_9, i_10, i_11, i_12, i_13, i_14, i_15, i_16, i_17, i_18, i_19, i_20, i_21, i_22, i_23, i_24, i_25, i_26, i_27, i_28, i_29, i_30, i_31, i_32, i_33, i_34, i_35, i_36, i_37, i_38, i_39, i_40, i_41, i_42, i_43, i_44, i_45, i_48, i_49, i_57, i_59, i_60, i_61, i_62, i_64, i_97, i_110, i_122, i_123, i_125, i_126, i_127, i_160, i_255, i_300, i_400, sh, ma]
    | false =>
      rw [ee] at sh
      obtain ⟨M', o, r'⟩ := last M2 _ v3 r2 fr2
      refine ⟨M', ?_, r'⟩
      rw [← o]
      simp (disch := omega) only [↓reduceIte, nI_leT, nI_leF, nI_ltT, nI_ltF, nI_eqT, nI_eqF, xin_T, nI_clampT, nI_add, nI_inc, pk_subT, xb_some, xval, xlet, mI_s, mI_n, mI_k, mI_2, mJ_1, mJ_s, mJ_n, mJ_k, mJ_2, mT_1, mT_2, mT_s, mT_n, mT_k, mT_3, mR_1, mR_2, mR_3, bI_0, bI_1, bI_n0, bI_n1, Bool.true_eq_false, Bool.false_eq_true, eq_self, i_0, i_1, i_2, i_3, i_4, i_5, i_6, i_7, i_8, i_9, i_10, i_11, i_12, i_13, i_14, i_15, i_16, i_17, i_18, i_19, i_20, i_21, i_22, i_23, i_24, i_25, i_26, i_27, i_28, i_29, i_30, i_31, i_32, i_33, i_34, i_35, i_36, i_37, i_38, i_39, i_40, i_41, i_42, i_43, i_44, i_45, i_48, i_49, i_57, i_59, i_60, i_61, i_62, i_64, i_97, i_110, i_122, i_123, i_125, i_126, i_127, i_160, i_255, i_300, i_400, sh]
  /- UNUSED -/
  have fst : ∀ (g : Bool), (qUnused L R i = (decide (R i = 0) && !g)) → ∃ M', f_B_judge_37 b (nI i) (nI (qg (L 1) i).1) (bI g) M = some ((), M') ∧ rBd M' b t L R W f (qJudge1 t L R W i K) ∧ pFr (b + 8) (b + 30) M M' := by
    intro g eg
    have ir := p_isRead h.2.2.1 hi f3 (hR i)
    unfold f_B_judge_37 qJudge1
    dsimp only
    rw [eg]
    by_cases c : R i = 0
    · rw [decide_eq_false (fun e => e c)] at ir
      rw [decide_eq_true c, Bool.true_and]
      cases g with
      | true =>
        obtain ⟨M', o, r'⟩ := mid M K (bI true) h pFr.rfl
        refine ⟨M', ?_, r'⟩
        rw [← o]
        simp (disch := omega) only [↓reduceIte, nI_leT, nI_leF, nI_ltT, nI_ltF, nI_eqT, nI_eqF, xin_T, nI_clampT, nI_add, nI_inc, pk_subT, xb_some, xval, xlet, mI_s, mI_n, mI_k, mI_2, mJ_1, mJ_s, mJ_n, mJ_k, mJ_2, mT_1, mT_2, mT_s, mT_n, mT_k, mT_3, mR_1, mR_2, mR_3, bI_0, bI_1, bI_n0, bI_n1, Bool.true_eq_false, Bool.false_eq_true, eq_self, i_0, i_1, i_2, i_3, i_4, i_5, i_6, i_7, i_8, i_9, i_10, i_11, i_12, i_13, i_14, i_15, i_16, i_17, i_18, i_19, i_20, i_21, i_22, i_23, i_24, i_25, i_26, i_27, i_28, i_29, i_30, i_31, i_32, i_33, i_34, i_35, i_36, i_37, i_38, i_39, i_40, i_41, i_42, i_43, i_44, i_45, i_48, i_49, i_57, i_59, i_60, i_61, i_62, i_64, i_97, i_110, i_122, i_123, i_125, i_126, i_127, i_160, i_255, i_300, i_400, ir]
      | false =>
        have ma := p_M_add (M := M) (b := b) (p := (qg (L 1) i).1) (r := 1) (by omega)
        obtain ⟨M', o, r'⟩ := mid (mAdd M b (qg (L 1) i).1 1) _ (bI false) (mAdd_bd (r := 1) h (by omega)) (mAdd_fr.mono (by omega) (by omega))
        refine ⟨M', ?_, r'⟩
        rw [← o]
        simp (disch := omega) only [↓reduceIte, nI_leT, nI_leF, nI_ltT, nI_ltF, nI_eqT, nI_eqF, xin_T, nI_clampT, nI_add, nI_inc, pk_subT, xb_some, xval, xlet, mI_s, mI_n, mI_k, mI_2, mJ_1, mJ_s, mJ_n, mJ_k, mJ_2, mT_1, mT_2, mT_s, mT_n, mT_k, mT_3, mR_1, mR_2, mR_3, bI_0, bI_1, bI_n0, bI_n1, Bool.true_eq_false, Bool.false_eq_true, eq_self, i_0, i_1, i_2, i_3, i_4, i_5, i_6, i_7, i_8, i_9, i_10, i_11, i_12, i_13, i_14, i_15, i_16, i_17, i_18, i_19, i_20, i_21, i_22, i_23, i_24, i_25, i_26, i_27, i_28, i_29, i_30, i_31, i_32, i_33, i_34, i_35, i_36, i_37, i_38, i_39, i_40, i_41, i_42, i_43, i_44, i_45, i_48, i_49, i_57, i_59, i_60, i_61, i_62, i_64, i_97, i_110, i_122, i_123, i_125, i_126, i_127, i_160, i_255, i_300, i_400, ir, ma]
    · rw [decide_eq_true c] at ir
      rw [decide_eq_false c, Bool.false_and]
      obtain ⟨M', o, r'⟩ := mid M K (bI g) h pFr.rfl
      refine ⟨M', ?_, r'⟩
      rw [← o]
      simp (disch := omega) only [↓reduceIte, nI_leT, nI_leF, nI_ltT, nI_ltF, nI_eqT, nI_eqF, xin_T, nI_clampT, nI_add, nI_inc, pk_subT, xb_some, xval, xlet, mI_s, mI_n, mI_k, mI_2, mJ_1, mJ_s, mJ_n, mJ_k, mJ_2, mT_1, mT_2, mT_s, mT_n, mT_k, mT_3, mR_1, mR_2, mR_3, bI_0, bI_1, bI_n0, bI_n1, Bool.true_eq_false, Bool.false_eq_true, eq_self, i_0, i_1, i_2, i_3, i_4, i_5, i_6, i_7, i_8, i_9, i_10, i_11, i_12, i_13, i_14, i_15, i_16, i_17, i_18, i_19, i_20, i_21, i_22, i_23, i_24, i_25, i_26, i_27, i_28, i_29, i_30, i_31, i_32, i_33, i_34, i_35, i_36, i_37, i_38, i_39, i_40, i_41, i_42, i_43, i_44, i_45, i_48, i_49, i_57, i_59, i_60, i_61, i_62, i_64, i_97, i_110, i_122, i_123, i_125, i_126, i_127, i_160, i_255, i_300, i_400, ir]
  unfold f_B_judge
  by_cases c4 : (qg (L 1) i).2.2.1 = 4
  · rw [decide_eq_true c4] at ip
    obtain ⟨M', o, r'⟩ := fst (qHeld (L 1) R i) (by unfold qUnused; rw [decide_eq_true c4, Bool.true_and])
    refine ⟨M', ?_, r'⟩
    rw [← o]
    cases hh : qHeld (L 1) R i with
    | true => rw [hh] at hd; simp (disch := omega) only [↓reduceIte, nI_leT, nI_leF, nI_ltT, nI_ltF, nI_eqT, nI_eqF, xin_T, nI_clampT, nI_add, nI_inc, pk_subT, xb_some, xval, xlet, mI_s, mI_n, mI_k, mI_2, mJ_1, mJ_s, mJ_n, mJ_k, mJ_2, mT_1, mT_2, mT_s, mT_n, mT_k, mT_3, mR_1, mR_2, mR_3, bI_0, bI_1, bI_n0, bI_n1, Bool.true_eq_false, Bool.false_eq_true, eq_self, i_0, i_1, i_2, i_3, i_4, i_5, i_6, i_7, i_8, i_9, i_10, i_11, i_12, i_13, i_14, i_15, i_16, i_17, i_18, i_19, i_20, i_21, i_22, i_23, i_24, i_25, i_26, i_27, i_28, i_29, i_30, i_31, i_32, i_33, i_34, i_35, i_36, i_37, i_38, i_39, i_40, i_41, i_42, i_43, i_44, i_45, i_48, i_49, i_57, i_59, i_60, i_61, i_62, i_64, i_97, i_110, i_122, i_123, i_125, i_126, i_127, i_160, i_255, i_300, i_400, e13, ip, hd]; rfl
    | false => rw [hh] at hd; simp (disch := omega) only [↓reduceIte, nI_leT, nI_leF, nI_ltT, nI_ltF, nI_eqT, nI_eqF, xin_T, nI_clampT, nI_add, nI_inc, pk_subT, xb_some, xval, xlet, mI_s, mI_n, mI_k, mI_2, mJ_1, mJ_s, mJ_n, mJ_k, mJ_2, mT_1, mT_2, mT_s, mT_n, mT_k, mT_3, mR_1, mR_2, mR_3, bI_0, bI_1, bI_n0, bI_n1, Bool.true_eq_false, Bool.false_eq_true, eq_self, i_0, i_1, i_2, i_3, i_4, i_5, i_6, i_7, i_8, i_9, i_10, i_11, i_12, i_13, i_14, i_15, i_16, i_17, i_18, i_19, i_20, i_21, i_22, i_23, i_24, i_25, i_26, i_27, i_28, i_29, i_30, i_31, i_32, i_33, i_34, i_35, i_36, i_37, i_38, i_39, i_40, i_41, i_42, i_43, i_44, i_45, i_48, i_49, i_57, i_59, i_60, i_61, i_62, i_64, i_97, i_110, i_122, i_123, i_125, i_126, i_127, i_160, i_255, i_300, i_400, e13, ip, hd]; rfl
  · rw [decide_eq_false c4] at ip
    obtain ⟨M', o, r'⟩ := fst false (by unfold qUnused; rw [decide_eq_false c4, Bool.false_and])
    refine ⟨M', ?_, r'⟩
    rw [← o]
    simp (disch := omega) only [↓reduceIte, nI_leT, nI_leF, nI_ltT, nI_ltF, nI_eqT, nI_eqF, xin_T, nI_clampT, nI_add, nI_inc, pk_subT, xb_some, xval, xlet, mI_s, mI_n, mI_k, mI_2, mJ_1, mJ_s, mJ_n, mJ_k, mJ_2, mT_1, mT_2, mT_s, mT_n, mT_k, mT_3, mR_1, mR_2, mR_3, bI_0, bI_1, bI_n0, bI_n1, Bool.true_eq_false, Bool.false_eq_true, eq_self, i_0, i_1, i_2, i_3, i_4, i_5, i_6, i_7, i_8, i_9, i_10, i_11, i_12, i_13, i_14, i_15, i_16, i_17, i_18, i_19, i_20, i_21, i_22, i_23, i_24, i_25, i_26, i_27, i_28, i_29, i_30, i_31, i_32, i_33, i_34, i_35, i_36, i_37, i_38, i_39, i_40, i_41, i_42, i_43, i_44, i_45, i_48, i_49, i_57, i_59, i_60, i_61, i_62, i_64, i_97, i_110, i_122, i_123, i_125, i_126, i_127, i_160, i_255, i_300, i_400, e13, ip]
    rfl
