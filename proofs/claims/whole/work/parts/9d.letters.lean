/-! PURE: Letters grow -/
theorem nar_char' : ∀ c, c < 256 → vp_nar .char (nI c) = nI c := by decide +kernel
theorem nar_char {c : Nat} (h : c < 256) : vp_nar .char (nI c) = nI c := nar_char' c h
theorem pTx_nil {M : xMem} {b : Nat} (h : M.1 b 1 = 0) : pTx M b [] := ⟨h, by decide, fun i hi => absurd hi (by simp), fun i => by show pc [] i < 256; unfold pc; simp⟩
theorem p_add {M : xMem} {b c : Nat} {x : List Nat} (h : pTx M b x) (hl : x.length < 160) (hc : c < 256) : ∃ M', f_L_add b (nI c) M = some ((), M') ∧ pTx M' b (x ++ [c]) ∧ pFr b (b + 2) M M' := by
  obtain ⟨h1, h2, h3, h4⟩ := h
  have o : f_L_add b (nI c) M = some ((), wI (wI M (b + 1) x.length (nI c)) b 1 (nI (x.length + 1))) := by
    unfold f_L_add
    simp (disch := omega) only [↓reduceIte, nI_leT, nI_leF, nI_ltT, nI_ltF, nI_eqT, nI_eqF, xin_T, nI_clampT, nI_add, nI_inc, pk_subT, xb_some, xval, xlet, mI_s, mI_n, mI_k, mI_2, mJ_1, mJ_s, mJ_n, mJ_k, mJ_2, mT_1, mT_2, mT_s, mT_n, mT_k, mT_3, mR_1, mR_2, mR_3, bI_0, bI_1, bI_n0, bI_n1, Bool.true_eq_false, Bool.false_eq_true, eq_self, i_0, i_1, i_2, i_3, i_4, i_5, i_6, i_7, i_8, i_9, i_10, i_11, i_12, i_13, i_14, i_15, i_16, i_17, i_18, i_19, i_20, i_21, i_22, i_23, i_24, i_25, i_26, i_27, i_28, i_29, i_30, i_31, i_32, i_33, i_34, i_35, i_36, i_37, i_38, i_39, i_40, i_41, i_42, i_43, i_44, i_45, i_48, i_49, i_57, i_59, i_60, i_61, i_62, i_64, i_97, i_110, i_122, i_123, i_125, i_126, i_127, i_160, i_255, i_300, i_400, h1, nar_char hc]
  refine ⟨_, o, ⟨?_, ?_, ?_, ?_⟩, (pFr.I (by omega)).trans (pFr.I (by omega))⟩
  · simp (disch := omega) only [↓reduceIte, nI_leT, nI_leF, nI_ltT, nI_ltF, nI_eqT, nI_eqF, xin_T, nI_clampT, nI_add, nI_inc, pk_subT, xb_some, xval, xlet, mI_s, mI_n, mI_k, mI_2, mJ_1, mJ_s, mJ_n, mJ_k, mJ_2, mT_1, mT_2, mT_s, mT_n, mT_k, mT_3, mR_1, mR_2, mR_3, bI_0, bI_1, bI_n0, bI_n1, Bool.true_eq_false, Bool.false_eq_true, eq_self, i_0, i_1, i_2, i_3, i_4, i_5, i_6, i_7, i_8, i_9, i_10, i_11, i_12, i_13, i_14, i_15, i_16, i_17, i_18, i_19, i_20, i_21, i_22, i_23, i_24, i_25, i_26, i_27, i_28, i_29, i_30, i_31, i_32, i_33, i_34, i_35, i_36, i_37, i_38, i_39, i_40, i_41, i_42, i_43, i_44, i_45, i_48, i_49, i_57, i_59, i_60, i_61, i_62, i_64, i_97, i_110, i_122, i_123, i_125, i_126, i_127, i_160, i_255, i_300, i_400]
    rw [List.length_append]; rfl
  · rw [List.length_append]; show x.length + 1 ≤ 160; omega
  · intro i hi
    rw [List.length_append] at hi
    have hi : i < x.length + 1 := hi
    by_cases e : i = x.length
    · subst e
      simp (disch := omega) only [↓reduceIte, nI_leT, nI_leF, nI_ltT, nI_ltF, nI_eqT, nI_eqF, xin_T, nI_clampT, nI_add, nI_inc, pk_subT, xb_some, xval, xlet, mI_s, mI_n, mI_k, mI_2, mJ_1, mJ_s, mJ_n, mJ_k, mJ_2, mT_1, mT_2, mT_s, mT_n, mT_k, mT_3, mR_1, mR_2, mR_3, bI_0, bI_1, bI_n0, bI_n1, Bool.true_eq_false, Bool.false_eq_true, eq_self, i_0, i_1, i_2, i_3, i_4, i_5, i_6, i_7, i_8, i_9, i_10, i_11, i_12, i_13, i_14, i_15, i_16, i_17, i_18, i_19, i_20, i_21, i_22, i_23, i_24, i_25, i_26, i_27, i_28, i_29, i_30, i_31, i_32, i_33, i_34, i_35, i_36, i_37, i_38, i_39, i_40, i_41, i_42, i_43, i_44, i_45, i_48, i_49, i_57, i_59, i_60, i_61, i_62, i_64, i_97, i_110, i_122, i_123, i_125, i_126, i_127, i_160, i_255, i_300, i_400]
      rw [pc_r (i := x.length) (j := 0) rfl]; rfl
    · simp (disch := omega) only [↓reduceIte, nI_leT, nI_leF, nI_ltT, nI_ltF, nI_eqT, nI_eqF, xin_T, nI_clampT, nI_add, nI_inc, pk_subT, xb_some, xval, xlet, mI_s, mI_n, mI_k, mI_2, mJ_1, mJ_s, mJ_n, mJ_k, mJ_2, mT_1, mT_2, mT_s, mT_n, mT_k, mT_3, mR_1, mR_2, mR_3, bI_0, bI_1, bI_n0, bI_n1, Bool.true_eq_false, Bool.false_eq_true, eq_self, i_0, i_1, i_2, i_3, i_4, i_5, i_6, i_7, i_8, i_9, i_10, i_11, i_12, i_13, i_14, i_15, i_16, i_17, i_18, i_19, i_20, i_21, i_22, i_23, i_24, i_25, i_26, i_27, i_28, i_29, i_30, i_31, i_32, i_33, i_34, i_35, i_36, i_37, i_38, i_39, i_40, i_41, i_42, i_43, i_44, i_45, i_48, i_49, i_57, i_59, i_60, i_61, i_62, i_64, i_97, i_110, i_122, i_123, i_125, i_126, i_127, i_160, i_255, i_300, i_400]
      rw [pc_l (by omega)]
      exact h3 i (by omega)
  · intro i
    rw [pc_app]
    split
    · exact h4 i
    · by_cases e : i - x.length = 0
      · rw [e]; exact hc
      · rw [pc_end (by show 1 ≤ i - x.length; omega)]; decide
theorem sl_step {s : List Nat} {p q : Nat} (h : p < q) (hq : q ≤ s.length) : sl s p q = pc s p :: sl s (p + 1) q := by
  unfold sl
  rw [pScan_at (t := s) (k := p) (by omega), show q - p = (q - (p + 1)) + 1 by omega]
  rfl
theorem sl_cat {s : List Nat} {p q r : Nat} (h : p ≤ q) (h2 : q ≤ r) (hr : r ≤ s.length) : sl s p q ++ sl s q r = sl s p r := by
  obtain ⟨n, e⟩ : ∃ n, q = p + n := ⟨q - p, by omega⟩
  subst e
  clear h
  induction n generalizing p with
  | zero => rw [Nat.add_zero, sl_nil (Nat.le_refl _)]; rfl
  | succ n ih =>
    rw [sl_step (p := p) (by omega) (by omega), sl_step (p := p) (q := r) (by omega) hr, List.cons_append, show p + (n + 1) = p + 1 + n by omega, ih (p := p + 1) (by omega)]
theorem p_addPart_3 {b a : Nat} {s : List Nat} {p2 : Int32} {q : Nat} (hab : a + 1 < b ∨ b + 2 ≤ a) (hq : q ≤ s.length) : ∀ (m p fuel : Nat) (M : xMem) (x : List Nat), p + m = q → m < fuel → pTx M b x → pTx M a s → x.length + m ≤ 160 → ∃ M', f_L_addPart_3 b a p2 (nI q) fuel (nI p) M = some ((), M') ∧ pTx M' b (x ++ sl s p q) ∧ pFr b (b + 2) M M' := by
  intro m
  induction m with
  | zero =>
    intro p fuel M x e hf hx ha hl
    obtain ⟨f, ef⟩ : ∃ f, fuel = f + 1 := ⟨fuel - 1, by omega⟩
    subst ef
    have h160 := ha.2.1
    refine ⟨M, ?_, ?_, .rfl⟩
    · rw [f_L_addPart_3]
      simp (disch := omega) only [↓reduceIte, nI_leT, nI_leF, nI_ltT, nI_ltF, nI_eqT, nI_eqF, xin_T, nI_clampT, nI_add, nI_inc, pk_subT, xb_some, xval, xlet, mI_s, mI_n, mI_k, mI_2, mJ_1, mJ_s, mJ_n, mJ_k, mJ_2, mT_1, mT_2, mT_s, mT_n, mT_k, mT_3, mR_1, mR_2, mR_3, bI_0, bI_1, bI_n0, bI_n1, Bool.true_eq_false, Bool.false_eq_true, eq_self, i_0, i_1, i_2, i_3, i_4, i_5, i_6, i_7, i_8, i_9, i_10, i_11, i_12, i_13, i_14, i_15, i_16, i_17, i_18, i_19, i_20, i_21, i_22, i_23, i_24, i_25, i_26, i_27, i_28, i_29, i_30, i_31, i_32, i_33, i_34, i_35, i_36, i_37, i_38, i_39, i_40, i_41, i_42, i_43, i_44, i_45, i_48, i_49, i_57, i_59, i_60, i_61, i_62, i_64, i_97, i_110, i_122, i_123, i_125, i_126, i_127, i_160, i_255, i_300, i_400]
    · rw [sl_nil (by omega), List.append_nil]; exact hx
  | succ m ih =>
    intro p fuel M x e hf hx ha hl
    obtain ⟨f, ef⟩ : ∃ f, fuel = f + 1 := ⟨fuel - 1, by omega⟩
    subst ef
    have h160 := ha.2.1
    obtain ⟨M1, o1, o2, o3⟩ := p_add hx (by omega) (ha.2.2.2 p)
    obtain ⟨M2, q1, q2, q3⟩ := ih (p + 1) f M1 (x ++ [pc s p]) (by omega) (by omega) o2 (ha.fr o3 (by omega)) (by rw [List.length_append]; show x.length + 1 + m ≤ 160; omega)
    refine ⟨M2, ?_, ?_, o3.trans q3⟩
    · rw [f_L_addPart_3]
      simp (disch := omega) only [↓reduceIte, nI_leT, nI_leF, nI_ltT, nI_ltF, nI_eqT, nI_eqF, xin_T, nI_clampT, nI_add, nI_inc, pk_subT, xb_some, xval, xlet, mI_s, mI_n, mI_k, mI_2, mJ_1, mJ_s, mJ_n, mJ_k, mJ_2, mT_1, mT_2, mT_s, mT_n, mT_k, mT_3, mR_1, mR_2, mR_3, bI_0, bI_1, bI_n0, bI_n1, Bool.true_eq_false, Bool.false_eq_true, eq_self, i_0, i_1, i_2, i_3, i_4, i_5, i_6, i_7, i_8, i_9, i_10, i_11, i_12, i_13, i_14, i_15, i_16, i_17, i_18, i_19, i_20, i_21, i_22, i_23, i_24, i_25, i_26, i_27, i_28, i_29, i_30, i_31, i_32, i_33, i_34, i_35, i_36, i_37, i_38, i_39, i_40, i_41, i_42, i_43, i_44, i_45, i_48, i_49, i_57, i_59, i_60, i_61, i_62, i_64, i_97, i_110, i_122, i_123, i_125, i_126, i_127, i_160, i_255, i_300, i_400, p_L_at ha (show p < 2147483648 by omega), o1]
      exact q1
    · rw [sl_step (by omega) hq]
      rw [List.append_assoc] at q2
      exact q2
theorem p_addPart {M : xMem} {b a p q : Nat} {s x : List Nat} (hx : pTx M b x) (ha : pTx M a s) (hab : a + 1 < b ∨ b + 2 ≤ a) (hpq : p ≤ q) (hq : q ≤ s.length) (hl : x.length + (q - p) ≤ 160) : ∃ M', f_L_addPart b a (nI p) (nI q) M = some ((), M') ∧ pTx M' b (x ++ sl s p q) ∧ pFr b (b + 2) M M' :=
  p_addPart_3 hab hq (q - p) p 2000 M x (by omega) (by have := ha.2.1; omega) hx ha hl
theorem pT_lt256 : ∀ k, k < 28 → ∀ i, i < (pT k).length → pc (pT k) i < 256 := by decide
theorem p_addText_2 {b k : Nat} (hk : k < 28) : ∀ (m p fuel : Nat) (M : xMem) (x : List Nat), p + m = (pT k).length → m < fuel → pTx M b x → x.length + m ≤ 160 → ∃ M', f_L_addText_2 b k fuel (nI p) M = some ((), M') ∧ pTx M' b (x ++ sl (pT k) p (pT k).length) ∧ pFr b (b + 2) M M' := by
  have h6 := (pT_len k hk).2
  intro m
  induction m with
  | zero =>
    intro p fuel M x e hf hx hl
    obtain ⟨f, ef⟩ : ∃ f, fuel = f + 1 := ⟨fuel - 1, by omega⟩
    subst ef
    refine ⟨M, ?_, ?_, .rfl⟩
    · rw [f_L_addText_2, if_pos hk]
      simp (disch := omega) only [↓reduceIte, nI_leT, nI_leF, nI_ltT, nI_ltF, nI_eqT, nI_eqF, xin_T, nI_clampT, nI_add, nI_inc, pk_subT, xb_some, xval, xlet, mI_s, mI_n, mI_k, mI_2, mJ_1, mJ_s, mJ_n, mJ_k, mJ_2, mT_1, mT_2, mT_s, mT_n, mT_k, mT_3, mR_1, mR_2, mR_3, bI_0, bI_1, bI_n0, bI_n1, Bool.true_eq_false, Bool.false_eq_true, eq_self, i_0, i_1, i_2, i_3, i_4, i_5, i_6, i_7, i_8, i_9, i_10, i_11, i_12, i_13, i_14, i_15, i_16, i_17, i_18, i_19, i_20, i_21, i_22, i_23, i_24, i_25, i_26, i_27, i_28, i_29, i_30, i_31, i_32, i_33, i_34, i_35, i_36, i_37, i_38, i_39, i_40, i_41, i_42, i_43, i_44, i_45, i_48, i_49, i_57, i_59, i_60, i_61, i_62, i_64, i_97, i_110, i_122, i_123, i_125, i_126, i_127, i_160, i_255, i_300, i_400, p_JS_length hk]
    · rw [sl_nil (by omega), List.append_nil]; exact hx
  | succ m ih =>
    intro p fuel M x e hf hx hl
    obtain ⟨f, ef⟩ : ∃ f, fuel = f + 1 := ⟨fuel - 1, by omega⟩
    subst ef
    obtain ⟨M1, o1, o2, o3⟩ := p_add hx (by omega) (pT_lt256 k hk p (by omega))
    obtain ⟨M2, q1, q2, q3⟩ := ih (p + 1) f M1 (x ++ [pc (pT k) p]) (by omega) (by omega) o2 (by rw [List.length_append]; show x.length + 1 + m ≤ 160; omega)
    refine ⟨M2, ?_, ?_, o3.trans q3⟩
    · rw [f_L_addText_2, if_pos hk]
      simp (disch := omega) only [↓reduceIte, nI_leT, nI_leF, nI_ltT, nI_ltF, nI_eqT, nI_eqF, xin_T, nI_clampT, nI_add, nI_inc, pk_subT, xb_some, xval, xlet, mI_s, mI_n, mI_k, mI_2, mJ_1, mJ_s, mJ_n, mJ_k, mJ_2, mT_1, mT_2, mT_s, mT_n, mT_k, mT_3, mR_1, mR_2, mR_3, bI_0, bI_1, bI_n0, bI_n1, Bool.true_eq_false, Bool.false_eq_true, eq_self, i_0, i_1, i_2, i_3, i_4, i_5, i_6, i_7, i_8, i_9, i_10, i_11, i_12, i_13, i_14, i_15, i_16, i_17, i_18, i_19, i_20, i_21, i_22, i_23, i_24, i_25, i_26, i_27, i_28, i_29, i_30, i_31, i_32, i_33, i_34, i_35, i_36, i_37, i_38, i_39, i_40, i_41, i_42, i_43, i_44, i_45, i_48, i_49, i_57, i_59, i_60, i_61, i_62, i_64, i_97, i_110, i_122, i_123, i_125, i_126, i_127, i_160, i_255, i_300, i_400, p_JS_length hk]
      simp (disch := omega) only [↓reduceIte, nI_leT, nI_leF, nI_ltT, nI_ltF, nI_eqT, nI_eqF, xin_T, nI_clampT, nI_add, nI_inc, pk_subT, xb_some, xval, xlet, mI_s, mI_n, mI_k, mI_2, mJ_1, mJ_s, mJ_n, mJ_k, mJ_2, mT_1, mT_2, mT_s, mT_n, mT_k, mT_3, mR_1, mR_2, mR_3, bI_0, bI_1, bI_n0, bI_n1, Bool.true_eq_false, Bool.false_eq_true, eq_self, i_0, i_1, i_2, i_3, i_4, i_5, i_6, i_7, i_8, i_9, i_10, i_11, i_12, i_13, i_14, i_15, i_16, i_17, i_18, i_19, i_20, i_21, i_22, i_23, i_24, i_25, i_26, i_27, i_28, i_29, i_30, i_31, i_32, i_33, i_34, i_35, i_36, i_37, i_38, i_39, i_40, i_41, i_42, i_43, i_44, i_45, i_48, i_49, i_57, i_59, i_60, i_61, i_62, i_64, i_97, i_110, i_122, i_123, i_125, i_126, i_127, i_160, i_255, i_300, i_400, p_JS_charAt hk (show p < (pT k).length by omega), o1]
      exact q1
    · rw [sl_step (by omega) (Nat.le_refl _)]
      rw [List.append_assoc] at q2
      exact q2
theorem sl_all (s : List Nat) : sl s 0 s.length = s := by
  unfold sl
  rw [List.drop_zero, Nat.sub_zero, List.take_length]
theorem p_addText {M : xMem} {b k : Nat} {x : List Nat} (hk : k < 28) (hx : pTx M b x) (hl : x.length + (pT k).length ≤ 160) : ∃ M', f_L_addText b k M = some ((), M') ∧ pTx M' b (x ++ pT k) ∧ pFr b (b + 2) M M' := by
  have h6 := (pT_len k hk).2
  obtain ⟨M', o1, o2, o3⟩ := p_addText_2 hk (pT k).length 0 2000 M x (by omega) (by omega) hx hl
  rw [sl_all] at o2
  refine ⟨M', ?_, o2, o3⟩
  unfold f_L_addText
  rw [if_pos hk]
  exact o1
