/-! PURE: the class's memory while it reads -/
def rA (M : xMem) (a : Nat) (l : List qE) (g : qE → Nat) : Prop := ∀ i, i < l.length → M.1 a i = nI (g (qg l i))
theorem rA.to {M M' : xMem} {a : Nat} {l : List qE} {g : qE → Nat} (h : rA M a l g) (e : M'.1 a = M.1 a) : rA M' a l g := by
  intro i hi; rw [e]; exact h i hi
theorem rA.app {M M' : xMem} {a : Nat} {l : List qE} {g : qE → Nat} {x : qE} (h : rA M a l g) (e : ∀ i, i < l.length → M'.1 a i = M.1 a i) (e2 : M'.1 a l.length = nI (g x)) : rA M' a (l ++ [x]) g := by
  intro i hi
  rw [List.length_append, List.length_singleton] at hi
  by_cases q : i < l.length
  · rw [qg_lt q, e i q]; exact h i q
  · have : i = l.length := by omega
    subst this; rw [qg_eq]; exact e2
theorem rA.mod {M M' : xMem} {a k : Nat} {l : List qE} {g : qE → Nat} {u : qE → qE} (h : rA M a l g) (e : ∀ i, i < l.length → i ≠ k → M'.1 a i = M.1 a i) (e2 : k < l.length → M'.1 a k = nI (g (u (qg l k)))) : rA M' a (l.modify k u) g := by
  intro i hi
  rw [List.length_modify] at hi
  by_cases q : i = k
  · subst q; rw [qg_mod hi]; exact e2 hi
  · rw [qg_modn q, e i hi q]; exact h i hi
def rSc (M : xMem) (b : Nat) (l : List qE) : Prop := M.1 (b + 8) 3 = nI l.length ∧ rA M (b + 9) l (fun e => e.1) ∧ rA M (b + 10) l (fun e => e.2.2.1) ∧ rA M (b + 11) l (fun e => e.2.2.2.1)
def rTh (M : xMem) (b : Nat) (wd : Nat → Nat) (l : List qE) : Prop := M.1 (b + 12) 8 = nI l.length ∧ rA M (b + 13) l (fun e => e.1) ∧ rA M (b + 14) l (fun e => wd e.1) ∧ rA M (b + 15) l (fun e => e.2.2.1) ∧ rA M (b + 16) l (fun e => e.2.1) ∧ rA M (b + 17) l (fun _ => 0) ∧ rA M (b + 18) l (fun e => e.2.2.2.2) ∧ rA M (b + 19) l (fun e => e.2.2.2.1) ∧ rA M (b + 20) l (fun e => if e.2.2.2.2 = 0 then 0 else 1)
def rUs (M : xMem) (b : Nat) (l : List qE) : Prop := M.1 (b + 25) 7 = nI l.length ∧ M.1 (b + 25) 8 = nI 0 ∧ rA M (b + 26) l (fun e => e.1) ∧ rA M (b + 27) l (fun e => e.2.1) ∧ rA M (b + 28) l (fun e => e.2.2.1)
/-- x has the bits r < 10 of which P holds, and no others -/
def rBits (P : Nat → Prop) (v : Int32) : Prop := ∃ x, x < 1024 ∧ v = nI x ∧ ∀ r, r < 10 → (x.testBit r = true ↔ P r)
def rMk (M : xMem) (b : Nat) (L : qL) : Prop := ∀ p, p < 60 → rBits (fun r => ∃ e, e ∈ L (10 + r) ∧ e.1 = p) (M.1 (b + 22) p)
def rEx (M : xMem) (b : Nat) (l : List qE) : Prop := ∀ p, p < 60 → rBits (fun r => ∃ e, e ∈ l ∧ e.1 = r ∧ e.2.1 ≤ p ∧ p < e.2.2.1) (M.1 (b + 23) p)
def rLo (M : xMem) (b : Nat) (l : List qE) : Prop := ∀ p, p < 60 → ∃ c : Bool, M.1 (b + 24) p = bI c ∧ (c = true ↔ ∃ e, e ∈ l ∧ e.1 = p ∧ e.2.1 = 1)
/-- all that the grammar has noted -/
def rL (M : xMem) (b : Nat) (wd : Nat → Nat) (L : qL) : Prop := rSc M b (L 0) ∧ rTh M b wd (L 1) ∧ rUs M b (L 2) ∧ rMk M b L ∧ rEx M b (L 4) ∧ rLo M b (L 18)
def kT (t : List Nat) (i : Nat) : Nat := pK (pLex t) i
def wT' (t : List Nat) (i : Nat) : Nat := pWd t (pLex t) i
/-- the digit of a NUMBER that has just one -/
def dT (t : List Nat) (i : Nat) : Nat := if pE (pLex t) i - pS (pLex t) i = 1 then pc t (pS (pLex t) i) - 48 else 10
def nT (t : List Nat) : Nat := (pLex t).length - 1
def rC (M : xMem) (b : Nat) (t : List Nat) (tok sc : Nat) (L : qL) : Prop := pLx M b t ∧ M.1 (b + 29) 4 = nI tok ∧ M.1 (b + 29) 5 = nI sc ∧ rL M b (wT' t) L
theorem pLx.fr {lo hi b : Nat} {M M' : xMem} {t : List Nat} (h : pLx M b t) (f : pFr lo hi M M') (hb : b + 8 ≤ lo) : pLx M' b t := by
  obtain ⟨h1, h2, h3⟩ := h
  refine ⟨h1.fr f (by omega), by rw [(f.1 (b + 2) (by omega)).1]; exact h2, ?_⟩
  intro i hi
  obtain ⟨a1, a2, a3, a4, a5⟩ := h3 i hi
  unfold pEn
  rw [(f.1 (b + 3) (by omega)).2.2, (f.1 (b + 4) (by omega)).1, (f.1 (b + 5) (by omega)).1, (f.1 (b + 6) (by omega)).2.1, (f.1 (b + 7) (by omega)).1]
  exact ⟨a1, a2, a3, a4, a5⟩
theorem rSc.to {M M' : xMem} {b : Nat} {l : List qE} (h : rSc M b l) (e : ∀ a, b + 8 ≤ a → a < b + 12 → M'.1 a = M.1 a) : rSc M' b l :=
  ⟨by rw [e _ (by omega) (by omega)]; exact h.1, h.2.1.to (e _ (by omega) (by omega)), h.2.2.1.to (e _ (by omega) (by omega)), h.2.2.2.to (e _ (by omega) (by omega))⟩
theorem rTh.to {M M' : xMem} {b : Nat} {wd : Nat → Nat} {l : List qE} (h : rTh M b wd l) (e : ∀ a, b + 12 ≤ a → a < b + 21 → M'.1 a = M.1 a) : rTh M' b wd l := by
  obtain ⟨h0, h1, h2, h3, h4, h5, h6, h7, h8⟩ := h
  exact ⟨by rw [e _ (by omega) (by omega)]; exact h0, h1.to (e _ (by omega) (by omega)), h2.to (e _ (by omega) (by omega)), h3.to (e _ (by omega) (by omega)), h4.to (e _ (by omega) (by omega)), h5.to (e _ (by omega) (by omega)), h6.to (e _ (by omega) (by omega)), h7.to (e _ (by omega) (by omega)), h8.to (e _ (by omega) (by omega))⟩
theorem rUs.to {M M' : xMem} {b : Nat} {l : List qE} (h : rUs M b l) (e : ∀ a, b + 25 ≤ a → a < b + 29 → M'.1 a = M.1 a) : rUs M' b l := by
  obtain ⟨h0, h1, h2, h3, h4⟩ := h
  exact ⟨by rw [e _ (by omega) (by omega)]; exact h0, by rw [e _ (by omega) (by omega)]; exact h1, h2.to (e _ (by omega) (by omega)), h3.to (e _ (by omega) (by omega)), h4.to (e _ (by omega) (by omega))⟩
theorem rMk.to {M M' : xMem} {b : Nat} {L L' : qL} (h : rMk M b L) (e : M'.1 (b + 22) = M.1 (b + 22)) (eL : ∀ f, 10 ≤ f → f < 20 → L' f = L f) : rMk M' b L' := by
  intro p hp
  obtain ⟨x, h1, h2, h3⟩ := h p hp
  refine ⟨x, h1, by rw [e]; exact h2, ?_⟩
  intro r hr
  show x.testBit r = true ↔ ∃ e, e ∈ L' (10 + r) ∧ e.1 = p
  rw [eL (10 + r) (by omega) (by omega)]; exact h3 r hr
theorem rEx.to {M M' : xMem} {b : Nat} {l : List qE} (h : rEx M b l) (e : M'.1 (b + 23) = M.1 (b + 23)) : rEx M' b l := by
  intro p hp; rw [e]; exact h p hp
theorem rLo.to {M M' : xMem} {b : Nat} {l : List qE} (h : rLo M b l) (e : M'.1 (b + 24) = M.1 (b + 24)) : rLo M' b l := by
  intro p hp; rw [e]; exact h p hp
/-- only the fields 0, 1, 2, 4 and 10 .. 19 are in the memory -/
theorem rL.to {M M' : xMem} {b : Nat} {wd : Nat → Nat} {L L' : qL} (h : rL M b wd L) (e : ∀ a, b + 8 ≤ a → a < b + 29 → M'.1 a = M.1 a) (e0 : L' 0 = L 0) (e1 : L' 1 = L 1) (e2 : L' 2 = L 2) (e4 : L' 4 = L 4) (eL : ∀ f, 10 ≤ f → f < 20 → L' f = L f) : rL M' b wd L' := by
  obtain ⟨h1, h2, h3, h4, h5, h6⟩ := h
  refine ⟨?_, ?_, ?_, ?_, ?_, ?_⟩
  · rw [e0]; exact h1.to (fun a ha hb => e a ha (by omega))
  · rw [e1]; exact h2.to (fun a ha hb => e a (by omega) (by omega))
  · rw [e2]; exact h3.to (fun a ha hb => e a (by omega) (by omega))
  · exact h4.to (e _ (by omega) (by omega)) eL
  · rw [e4]; exact h5.to (e _ (by omega) (by omega))
  · rw [eL 18 (by omega) (by omega)]; exact h6.to (e _ (by omega) (by omega))
theorem rC.cong {M : xMem} {b tok sc : Nat} {t : List Nat} {L L' : qL} (h : rC M b t tok sc L) (e0 : L' 0 = L 0) (e1 : L' 1 = L 1) (e2 : L' 2 = L 2) (e4 : L' 4 = L 4) (eL : ∀ f, 10 ≤ f → f < 20 → L' f = L f) : rC M b t tok sc L' :=
  ⟨h.1, h.2.1, h.2.2.1, h.2.2.2.to (fun _ _ _ => rfl) e0 e1 e2 e4 eL⟩
theorem kT_lt (t : List Nat) (i : Nat) : kT t i < 28 := by
  unfold kT pK
  by_cases q : i < (pLex t).length
  · have : (pLex t).getD i (27, 0, 0) ∈ pLex t := by rw [List.getD_eq_getElem?_getD, List.getElem?_eq_getElem q]; exact List.getElem_mem q
    exact (pLex_in t _ this).2.2
  · rw [List.getD_eq_getElem?_getD, List.getElem?_eq_none (by omega)]; show 27 < 28; omega
theorem p_kindOf {M : xMem} {b i : Nat} {t : List Nat} (h : pLx M b t) (hi : i < 1000) : f_T_kindOf b (nI i) M = some (kT t i, M) := by
  obtain ⟨h1, h2, h3⟩ := h
  have hl := pLex_len t
  unfold f_T_kindOf
  by_cases q : i < (pLex t).length
  · have e := (h3 i q).1
    have k : pK (pLex t) i < 28 := kT_lt t i
    simp (disch := omega) only [↓reduceIte, nI_leT, nI_leF, nI_ltT, nI_ltF, nI_eqT, nI_eqF, xin_T, nI_clampT, nI_add, nI_inc, pk_subT, xb_some, xval, xlet, mI_s, mI_n, mI_k, mI_2, mJ_1, mJ_s, mJ_n, mJ_k, mJ_2, mT_1, mT_2, mT_s, mT_n, mT_k, mT_3, mR_1, mR_2, mR_3, bI_0, bI_1, bI_n0, bI_n1, Bool.true_eq_false, Bool.false_eq_true, eq_self, i_0, i_1, i_2, i_3, i_4, i_5, i_6, i_7, i_8, i_9, i_10, i_11, i_12, i_13, i_14, i_15, i_16, i_17, i_18, i_19, i_20, i_21, i_22, i_23, i_24, i_25, i_26, i_27, i_28, i_29, i_30, i_31, i_32, i_33, i_34, i_35, i_36, i_37, i_38, i_39, i_40, i_41, i_42, i_43, i_44, i_45, i_48, i_49, i_57, i_59, i_60, i_61, i_62, i_64, i_97, i_110, i_122, i_123, i_125, i_126, i_127, i_160, i_255, i_300, i_400, h2, e, xtok, k]
    rfl
  · have : kT t i = 27 := by
      unfold kT pK; rw [List.getD_eq_getElem?_getD, List.getElem?_eq_none (by omega)]; rfl
    simp (disch := omega) only [↓reduceIte, nI_leT, nI_leF, nI_ltT, nI_ltF, nI_eqT, nI_eqF, xin_T, nI_clampT, nI_add, nI_inc, pk_subT, xb_some, xval, xlet, mI_s, mI_n, mI_k, mI_2, mJ_1, mJ_s, mJ_n, mJ_k, mJ_2, mT_1, mT_2, mT_s, mT_n, mT_k, mT_3, mR_1, mR_2, mR_3, bI_0, bI_1, bI_n0, bI_n1, Bool.true_eq_false, Bool.false_eq_true, eq_self, i_0, i_1, i_2, i_3, i_4, i_5, i_6, i_7, i_8, i_9, i_10, i_11, i_12, i_13, i_14, i_15, i_16, i_17, i_18, i_19, i_20, i_21, i_22, i_23, i_24, i_25, i_26, i_27, i_28, i_29, i_30, i_31, i_32, i_33, i_34, i_35, i_36, i_37, i_38, i_39, i_40, i_41, i_42, i_43, i_44, i_45, i_48, i_49, i_57, i_59, i_60, i_61, i_62, i_64, i_97, i_110, i_122, i_123, i_125, i_126, i_127, i_160, i_255, i_300, i_400, h2, f_T_kindOf_21, this]
theorem p_next {M : xMem} {b tok sc : Nat} {t : List Nat} {L : qL} (h : rC M b t tok sc L) (hi : tok < 1000) : f_P_next b M = some (kT t tok, M) := by
  have e := h.2.1
  have k := kT_lt t tok
  unfold f_P_next
  simp (disch := omega) only [↓reduceIte, nI_leT, nI_leF, nI_ltT, nI_ltF, nI_eqT, nI_eqF, xin_T, nI_clampT, nI_add, nI_inc, pk_subT, xb_some, xval, xlet, mI_s, mI_n, mI_k, mI_2, mJ_1, mJ_s, mJ_n, mJ_k, mJ_2, mT_1, mT_2, mT_s, mT_n, mT_k, mT_3, mR_1, mR_2, mR_3, bI_0, bI_1, bI_n0, bI_n1, Bool.true_eq_false, Bool.false_eq_true, eq_self, i_0, i_1, i_2, i_3, i_4, i_5, i_6, i_7, i_8, i_9, i_10, i_11, i_12, i_13, i_14, i_15, i_16, i_17, i_18, i_19, i_20, i_21, i_22, i_23, i_24, i_25, i_26, i_27, i_28, i_29, i_30, i_31, i_32, i_33, i_34, i_35, i_36, i_37, i_38, i_39, i_40, i_41, i_42, i_43, i_44, i_45, i_48, i_49, i_57, i_59, i_60, i_61, i_62, i_64, i_97, i_110, i_122, i_123, i_125, i_126, i_127, i_160, i_255, i_300, i_400, e, p_kindOf h.1 hi, k]
theorem rC.at {M : xMem} {b tok sc tok' : Nat} {t : List Nat} {L : qL} (h : rC M b t tok sc L) : rC (wI M (b + 29) 4 (nI tok')) b t tok' sc L := by
  have f : pFr (b + 29) (b + 30) M (wI M (b + 29) 4 (nI tok')) := pFr.I (by omega)
  refine ⟨h.1.fr f (by omega), by simp (disch := omega) only [↓reduceIte, nI_leT, nI_leF, nI_ltT, nI_ltF, nI_eqT, nI_eqF, xin_T, nI_clampT, nI_add, nI_inc, pk_subT, xb_some, xval, xlet, mI_s, mI_n, mI_k, mI_2, mJ_1, mJ_s, mJ_n, mJ_k, mJ_2, mT_1, mT_2, mT_s, mT_n, mT_k, mT_3, mR_1, mR_2, mR_3, bI_0, bI_1, bI_n0, bI_n1, Bool.true_eq_false, Bool.false_eq_true, eq_self, i_0, i_1, i_2, i_3, i_4, i_5, i_6, i_7, i_8, i_9, i_10, i_11, i_12, i_13, i_14, i_15, i_16, i_17, i_18, i_19, i_20, i_21, i_22, i_23, i_24, i_25, i_26, i_27, i_28, i_29, i_30, i_31, i_32, i_33, i_34, i_35, i_36, i_37, i_38, i_39, i_40, i_41, i_42, i_43, i_44, i_45, i_48, i_49, i_57, i_59, i_60, i_61, i_62, i_64, i_97, i_110, i_122, i_123, i_125, i_126, i_127, i_160, i_255, i_300, i_400], ?_, ?_⟩
  · have := h.2.2.1; simp (disch := omega) only [↓reduceIte, nI_leT, nI_leF, nI_ltT, nI_ltF, nI_eqT, nI_eqF, xin_T, nI_clampT, nI_add, nI_inc, pk_subT, xb_some, xval, xlet, mI_s, mI_n, mI_k, mI_2, mJ_1, mJ_s, mJ_n, mJ_k, mJ_2, mT_1, mT_2, mT_s, mT_n, mT_k, mT_3, mR_1, mR_2, mR_3, bI_0, bI_1, bI_n0, bI_n1, Bool.true_eq_false, Bool.false_eq_true, eq_self, i_0, i_1, i_2, i_3, i_4, i_5, i_6, i_7, i_8, i_9, i_10, i_11, i_12, i_13, i_14, i_15, i_16, i_17, i_18, i_19, i_20, i_21, i_22, i_23, i_24, i_25, i_26, i_27, i_28, i_29, i_30, i_31, i_32, i_33, i_34, i_35, i_36, i_37, i_38, i_39, i_40, i_41, i_42, i_43, i_44, i_45, i_48, i_49, i_57, i_59, i_60, i_61, i_62, i_64, i_97, i_110, i_122, i_123, i_125, i_126, i_127, i_160, i_255, i_300, i_400, this]
  · exact h.2.2.2.to (fun a ha hb => (f.1 a (by omega)).1) rfl rfl rfl rfl (fun _ _ _ => rfl)
theorem rC.sc {M : xMem} {b tok sc sc' : Nat} {t : List Nat} {L : qL} (h : rC M b t tok sc L) : rC (wI M (b + 29) 5 (nI sc')) b t tok sc' L := by
  have f : pFr (b + 29) (b + 30) M (wI M (b + 29) 5 (nI sc')) := pFr.I (by omega)
  refine ⟨h.1.fr f (by omega), ?_, by simp (disch := omega) only [↓reduceIte, nI_leT, nI_leF, nI_ltT, nI_ltF, nI_eqT, nI_eqF, xin_T, nI_clampT, nI_add, nI_inc, pk_subT, xb_some, xval, xlet, mI_s, mI_n, mI_k, mI_2, mJ_1, mJ_s, mJ_n, mJ_k, mJ_2, mT_1, mT_2, mT_s, mT_n, mT_k, mT_3, mR_1, mR_2, mR_3, bI_0, bI_1, bI_n0, bI_n1, Bool.true_eq_false, Bool.false_eq_true, eq_self, i_0, i_1, i_2, i_3, i_4, i_5, i_6, i_7, i_8, i_9, i_10, i_11, i_12, i_13, i_14, i_15, i_16, i_17, i_18, i_19, i_20, i_21, i_22, i_23, i_24, i_25, i_26, i_27, i_28, i_29, i_30, i_31, i_32, i_33, i_34, i_35, i_36, i_37, i_38, i_39, i_40, i_41, i_42, i_43, i_44, i_45, i_48, i_49, i_57, i_59, i_60, i_61, i_62, i_64, i_97, i_110, i_122, i_123, i_125, i_126, i_127, i_160, i_255, i_300, i_400], ?_⟩
  · have := h.2.1; simp (disch := omega) only [↓reduceIte, nI_leT, nI_leF, nI_ltT, nI_ltF, nI_eqT, nI_eqF, xin_T, nI_clampT, nI_add, nI_inc, pk_subT, xb_some, xval, xlet, mI_s, mI_n, mI_k, mI_2, mJ_1, mJ_s, mJ_n, mJ_k, mJ_2, mT_1, mT_2, mT_s, mT_n, mT_k, mT_3, mR_1, mR_2, mR_3, bI_0, bI_1, bI_n0, bI_n1, Bool.true_eq_false, Bool.false_eq_true, eq_self, i_0, i_1, i_2, i_3, i_4, i_5, i_6, i_7, i_8, i_9, i_10, i_11, i_12, i_13, i_14, i_15, i_16, i_17, i_18, i_19, i_20, i_21, i_22, i_23, i_24, i_25, i_26, i_27, i_28, i_29, i_30, i_31, i_32, i_33, i_34, i_35, i_36, i_37, i_38, i_39, i_40, i_41, i_42, i_43, i_44, i_45, i_48, i_49, i_57, i_59, i_60, i_61, i_62, i_64, i_97, i_110, i_122, i_123, i_125, i_126, i_127, i_160, i_255, i_300, i_400, this]
  · exact h.2.2.2.to (fun a ha hb => (f.1 a (by omega)).1) rfl rfl rfl rfl (fun _ _ _ => rfl)
theorem p_take {M : xMem} {b tok sc k : Nat} {t : List Nat} {L : qL} (h : rC M b t tok sc L) (hi : tok < 1000) (hk : k < 28) : f_P_take b k M = if kT t tok = k then some (nI 1, wI M (b + 29) 4 (nI (tok + 1))) else some (nI 0, M) := by
  have e := h.2.1
  have l := kT_lt t tok
  unfold f_P_take
  by_cases q : kT t tok = k
  · have l' : k < 28 := hk
    simp (disch := omega) only [↓reduceIte, nI_leT, nI_leF, nI_ltT, nI_ltF, nI_eqT, nI_eqF, xin_T, nI_clampT, nI_add, nI_inc, pk_subT, xb_some, xval, xlet, mI_s, mI_n, mI_k, mI_2, mJ_1, mJ_s, mJ_n, mJ_k, mJ_2, mT_1, mT_2, mT_s, mT_n, mT_k, mT_3, mR_1, mR_2, mR_3, bI_0, bI_1, bI_n0, bI_n1, Bool.true_eq_false, Bool.false_eq_true, eq_self, i_0, i_1, i_2, i_3, i_4, i_5, i_6, i_7, i_8, i_9, i_10, i_11, i_12, i_13, i_14, i_15, i_16, i_17, i_18, i_19, i_20, i_21, i_22, i_23, i_24, i_25, i_26, i_27, i_28, i_29, i_30, i_31, i_32, i_33, i_34, i_35, i_36, i_37, i_38, i_39, i_40, i_41, i_42, i_43, i_44, i_45, i_48, i_49, i_57, i_59, i_60, i_61, i_62, i_64, i_97, i_110, i_122, i_123, i_125, i_126, i_127, i_160, i_255, i_300, i_400, hk, p_kindOf h.1 hi, q, e]
  · simp (disch := omega) only [↓reduceIte, nI_leT, nI_leF, nI_ltT, nI_ltF, nI_eqT, nI_eqF, xin_T, nI_clampT, nI_add, nI_inc, pk_subT, xb_some, xval, xlet, mI_s, mI_n, mI_k, mI_2, mJ_1, mJ_s, mJ_n, mJ_k, mJ_2, mT_1, mT_2, mT_s, mT_n, mT_k, mT_3, mR_1, mR_2, mR_3, bI_0, bI_1, bI_n0, bI_n1, Bool.true_eq_false, Bool.false_eq_true, eq_self, i_0, i_1, i_2, i_3, i_4, i_5, i_6, i_7, i_8, i_9, i_10, i_11, i_12, i_13, i_14, i_15, i_16, i_17, i_18, i_19, i_20, i_21, i_22, i_23, i_24, i_25, i_26, i_27, i_28, i_29, i_30, i_31, i_32, i_33, i_34, i_35, i_36, i_37, i_38, i_39, i_40, i_41, i_42, i_43, i_44, i_45, i_48, i_49, i_57, i_59, i_60, i_61, i_62, i_64, i_97, i_110, i_122, i_123, i_125, i_126, i_127, i_160, i_255, i_300, i_400, hk, p_kindOf h.1 hi, q, e, l]
