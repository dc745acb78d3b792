/-! PURE: the reference's cuts(): all TOKENS -/
theorem r_cuts_13 {M : xMem} {b p : Nat} {t : List Nat} {k9 : Int32 → Int32 → xMem → Option (Unit × xMem)} {v2 : Int32} (h : rTx M b t) : ∀ (fuel v : Nat), v ≤ t.length → t.length - v < fuel → f_N_cuts_13 b k9 fuel (nI v) v2 M = f_N_cuts_49 b k9 (nI (pScan pBlank t v)) v2 M := by
  obtain ⟨h1, h2, h3, h4⟩ := h
  intro fuel
  induction fuel with
  | zero => intro v hv hf; omega
  | succ f ih =>
    intro v hv hf
    rw [f_N_cuts_13]
    by_cases c : v < t.length
    · have y := h3 v c
      have z := h4 v
      have x160 : xin (nI v) 160 = true := xin_T (by omega) (by omega)
      have cv : (nI v).toNatClampNeg = v := nI_clampT (by omega)
      have lt : ¬ (M.1 b 2 ≤ nI v) := by rw [h1]; exact nI_ge c (by omega)
      rw [if_neg lt, if_pos x160, cv, y]
      by_cases c1 : pc t v = 32
      · rw [pScan_go c (by unfold pBlank; rw [c1]; rfl), if_pos (show nI (pc t v) = 32 by rw [c1]; rfl)]
        unfold f_N_cuts_43
        rw [nI_inc]
        exact ih (v + 1) (by omega) (by omega)
      · rw [if_neg (show ¬ nI (pc t v) = 32 from fun e => c1 ((nI_eq (by omega) (by omega)).mp (by rw [i_32] at e; exact e))), if_pos x160]
        by_cases c2 : pc t v = 10
        · rw [pScan_go c (by unfold pBlank; rw [c2]; rfl), if_pos (show nI (pc t v) = 10 by rw [c2]; rfl)]
          unfold f_N_cuts_43
          rw [nI_inc]
          exact ih (v + 1) (by omega) (by omega)
        · rw [if_neg (show ¬ nI (pc t v) = 10 from fun e => c2 ((nI_eq (by omega) (by omega)).mp (by rw [i_10] at e; exact e))), pScan_stop c (by unfold pBlank; simp [c1, c2])]
    · rw [if_pos (show M.1 b 2 ≤ nI v by rw [h1]; exact nI_le (by omega) (by omega)), pScan_end (by omega)]
theorem r_cuts_9 {b : Nat} {t : List Nat} {T : List (Nat × Nat × Nat)} (hT : pIn160 T 160) : ∀ (m n p fuel : Nat) (M : xMem) (pre : List (Nat × Nat × Nat)), n + m = 60 → m + 1 < fuel → T = pre ++ pLexN t m (pScan pBlank t p) → pre.length = n → p ≤ t.length → rSn M b t T n → ∃ M', f_N_cuts_9 b fuel (nI p) (nI 1) M = some ((), M') ∧ M'.1 b 9 = nI (T.length - 1) ∧ (∀ i, i < T.length - 1 → rEn M' b T i) ∧ M'.1 (b + 8) (T.length - 1) = nI (rk (pK T (T.length - 1))) ∧ M'.1 (b + 9) (T.length - 1) = nI (pS T (T.length - 1)) ∧ rF (rCutS b) M M' := by
  intro m
  induction m with
  | zero =>
    intro n p fuel M pre hn hf hTp hpre hp h
    obtain ⟨f, rfl⟩ : ∃ f, fuel = f + 2 := ⟨fuel - 2, by omega⟩
    have n60 : n = 60 := by omega
    have hl := h.1.2.1
    rw [pLexN] at hTp
    obtain ⟨k1, k2, k3⟩ := pK_at (pre := pre) (post := []) (x := (if pScan pBlank t p < t.length then 27 else 26, pScan pBlank t p, pScan pBlank t p))
    rw [← hTp, hpre] at k1 k2 k3
    have hlen : T.length - 1 = n := by rw [hTp, List.length_append, hpre]; rfl
    obtain ⟨k, e, M', o1, o2, o3, o4, o5, o6, o7, o8⟩ := r_cuts_49 (k9 := f_N_cuts_9 b (f + 1)) (v2 := nI 1) (p := pScan pBlank t p) h.1 h.2.1 h.2.2.1 (pScan_le hp)
    have ek := o8 n60
    have cl : pClosing k = true := by rw [ek]; split <;> rfl
    rw [cl] at o1
    have c13 := r_cuts_13 (p := p) (k9 := f_N_cuts_9 b (f + 1)) (v2 := nI 1) h.1 xFuel p hp (by unfold xFuel; omega)
    refine ⟨M', ?_, by rw [o6, hlen], ?_, ?_, ?_, o5⟩
    · rw [show f + 2 = (f + 1) + 1 from rfl, f_N_cuts_9, if_neg (by decide), c13, o1, if_pos rfl, f_N_cuts_9, if_pos (show nI 0 = 0 from rfl)]
    · rw [hlen]
      intro i hi
      obtain ⟨w1, w2, w3⟩ := h.2.2.2 i hi
      obtain ⟨u1, u2, u3⟩ := o4 i (by omega)
      exact ⟨by rw [u1]; exact w1, by rw [u2]; exact w2, by rw [u3]; exact w3⟩
    · rw [hlen, o2, k1, ek]
    · rw [hlen, o3, k2]
  | succ m ih =>
    intro n p fuel M pre hn hf hTp hpre hp h
    obtain ⟨f, rfl⟩ : ∃ f, fuel = f + 2 := ⟨fuel - 2, by omega⟩
    have hl := h.1.2.1
    have hsp := pScan_le (f := pBlank) hp
    obtain ⟨t1, t2, t3, t4⟩ := pTok_ok hsp
    rw [pLexN] at hTp
    obtain ⟨k, e, M', o1, o2, o3, o4, o5, o6, o7, o8⟩ := r_cuts_49 (k9 := f_N_cuts_9 b (f + 1)) (v2 := nI 1) (p := pScan pBlank t p) h.1 h.2.1 h.2.2.1 hsp
    obtain ⟨ek, ee⟩ := o7 (by omega)
    have c13 := r_cuts_13 (p := p) (k9 := f_N_cuts_9 b (f + 1)) (v2 := nI 1) h.1 xFuel p hp (by unfold xFuel; omega)
    have old : ∀ i, i < n → rEn M' b T i := by
      intro i hi
      obtain ⟨w1, w2, w3⟩ := h.2.2.2 i hi
      obtain ⟨u1, u2, u3⟩ := o4 i (by omega)
      exact ⟨by rw [u1]; exact w1, by rw [u2]; exact w2, by rw [u3]; exact w3⟩
    by_cases c : pClosing (pTok t (pScan pBlank t p)).1 = true
    · rw [if_pos c] at hTp
      obtain ⟨k1, k2, k3⟩ := pK_at (pre := pre) (post := []) (x := ((pTok t (pScan pBlank t p)).1, pScan pBlank t p, (pTok t (pScan pBlank t p)).2))
      rw [← hTp, hpre] at k1 k2 k3
      have hlen : T.length - 1 = n := by rw [hTp, List.length_append, hpre]; rfl
      have cl : pClosing k = true := by rw [ek]; exact c
      rw [cl] at o1
      refine ⟨M', ?_, by rw [o6, hlen], by rw [hlen]; exact old, ?_, ?_, o5⟩
      · rw [show f + 2 = (f + 1) + 1 from rfl, f_N_cuts_9, if_neg (by decide), c13, o1, if_pos rfl, f_N_cuts_9, if_pos (show nI 0 = 0 from rfl)]
      · rw [hlen, o2, k1, ek]
      · rw [hlen, o3, k2]
    · rw [if_neg c] at hTp
      have c' : pClosing (pTok t (pScan pBlank t p)).1 = false := by simpa using c
      obtain ⟨k1, k2, k3⟩ := pK_at (pre := pre) (post := pLexN t m (pScan pBlank t (pTok t (pScan pBlank t p)).2)) (x := ((pTok t (pScan pBlank t p)).1, pScan pBlank t p, (pTok t (pScan pBlank t p)).2))
      rw [← hTp, hpre] at k1 k2 k3
      have cl : pClosing k = false := by rw [ek]; exact c'
      obtain ⟨ee1, ee2⟩ := ee cl
      rw [cl] at o1
      have f9 : rF (rCutS b) M' (wI M' b 9 (nI (n + 1))) := rF.I (by unfold rCutS; omega)
      have sn : rSn (wI M' b 9 (nI (n + 1))) b t T (n + 1) := by
        refine ⟨h.1.cut (o5.trans f9), by simp (disch := omega) only [↓reduceIte, nI_leT, nI_leF, nI_ltT, nI_ltF, nI_eqT, nI_eqF, xin_T, nI_clampT, nI_add, nI_inc, pk_subT, xb_some, xval, xlet, mI_s, mI_n, mI_k, mI_2, mJ_1, mJ_s, mJ_n, mJ_k, mJ_2, mT_1, mT_2, mT_s, mT_n, mT_k, mT_3, mR_1, mR_2, mR_3, bI_0, bI_1, bI_n0, bI_n1, Bool.true_eq_false, Bool.false_eq_true, eq_self, i_0, i_1, i_2, i_3, i_4, i_5, i_6, i_7, i_8, i_9, i_10, i_11, i_12, i_13, i_14, i_15, i_16, i_17, i_18, i_19, i_20, i_21, i_22, i_23, i_24, i_25, i_26, i_27, i_28, i_29, i_30, i_31, i_32, i_33, i_34, i_35, i_36, i_37, i_38, i_39, i_40, i_41, i_42, i_43, i_44, i_45, i_48, i_49, i_57, i_59, i_60, i_61, i_62, i_64, i_97, i_110, i_122, i_123, i_125, i_126, i_127, i_160, i_255, i_300, i_400], by omega, ?_⟩
        intro i hi
        by_cases q : i < n
        · obtain ⟨w1, w2, w3⟩ := old i q
          exact ⟨by simp (disch := omega) only [↓reduceIte, nI_leT, nI_leF, nI_ltT, nI_ltF, nI_eqT, nI_eqF, xin_T, nI_clampT, nI_add, nI_inc, pk_subT, xb_some, xval, xlet, mI_s, mI_n, mI_k, mI_2, mJ_1, mJ_s, mJ_n, mJ_k, mJ_2, mT_1, mT_2, mT_s, mT_n, mT_k, mT_3, mR_1, mR_2, mR_3, bI_0, bI_1, bI_n0, bI_n1, Bool.true_eq_false, Bool.false_eq_true, eq_self, i_0, i_1, i_2, i_3, i_4, i_5, i_6, i_7, i_8, i_9, i_10, i_11, i_12, i_13, i_14, i_15, i_16, i_17, i_18, i_19, i_20, i_21, i_22, i_23, i_24, i_25, i_26, i_27, i_28, i_29, i_30, i_31, i_32, i_33, i_34, i_35, i_36, i_37, i_38, i_39, i_40, i_41, i_42, i_43, i_44, i_45, i_48, i_49, i_57, i_59, i_60, i_61, i_62, i_64, i_97, i_110, i_122, i_123, i_125, i_126, i_127, i_160, i_255, i_300, i_400, w1], by simp (disch := omega) only [↓reduceIte, nI_leT, nI_leF, nI_ltT, nI_ltF, nI_eqT, nI_eqF, xin_T, nI_clampT, nI_add, nI_inc, pk_subT, xb_some, xval, xlet, mI_s, mI_n, mI_k, mI_2, mJ_1, mJ_s, mJ_n, mJ_k, mJ_2, mT_1, mT_2, mT_s, mT_n, mT_k, mT_3, mR_1, mR_2, mR_3, bI_0, bI_1, bI_n0, bI_n1, Bool.true_eq_false, Bool.false_eq_true, eq_self, i_0, i_1, i_2, i_3, i_4, i_5, i_6, i_7, i_8, i_9, i_10, i_11, i_12, i_13, i_14, i_15, i_16, i_17, i_18, i_19, i_20, i_21, i_22, i_23, i_24, i_25, i_26, i_27, i_28, i_29, i_30, i_31, i_32, i_33, i_34, i_35, i_36, i_37, i_38, i_39, i_40, i_41, i_42, i_43, i_44, i_45, i_48, i_49, i_57, i_59, i_60, i_61, i_62, i_64, i_97, i_110, i_122, i_123, i_125, i_126, i_127, i_160, i_255, i_300, i_400, w2], by simp (disch := omega) only [↓reduceIte, nI_leT, nI_leF, nI_ltT, nI_ltF, nI_eqT, nI_eqF, xin_T, nI_clampT, nI_add, nI_inc, pk_subT, xb_some, xval, xlet, mI_s, mI_n, mI_k, mI_2, mJ_1, mJ_s, mJ_n, mJ_k, mJ_2, mT_1, mT_2, mT_s, mT_n, mT_k, mT_3, mR_1, mR_2, mR_3, bI_0, bI_1, bI_n0, bI_n1, Bool.true_eq_false, Bool.false_eq_true, eq_self, i_0, i_1, i_2, i_3, i_4, i_5, i_6, i_7, i_8, i_9, i_10, i_11, i_12, i_13, i_14, i_15, i_16, i_17, i_18, i_19, i_20, i_21, i_22, i_23, i_24, i_25, i_26, i_27, i_28, i_29, i_30, i_31, i_32, i_33, i_34, i_35, i_36, i_37, i_38, i_39, i_40, i_41, i_42, i_43, i_44, i_45, i_48, i_49, i_57, i_59, i_60, i_61, i_62, i_64, i_97, i_110, i_122, i_123, i_125, i_126, i_127, i_160, i_255, i_300, i_400, w3]⟩
        · have : i = n := by omega
          subst this
          refine ⟨?_, ?_, ?_⟩
          · simp (disch := omega) only [↓reduceIte, nI_leT, nI_leF, nI_ltT, nI_ltF, nI_eqT, nI_eqF, xin_T, nI_clampT, nI_add, nI_inc, pk_subT, xb_some, xval, xlet, mI_s, mI_n, mI_k, mI_2, mJ_1, mJ_s, mJ_n, mJ_k, mJ_2, mT_1, mT_2, mT_s, mT_n, mT_k, mT_3, mR_1, mR_2, mR_3, bI_0, bI_1, bI_n0, bI_n1, Bool.true_eq_false, Bool.false_eq_true, eq_self, i_0, i_1, i_2, i_3, i_4, i_5, i_6, i_7, i_8, i_9, i_10, i_11, i_12, i_13, i_14, i_15, i_16, i_17, i_18, i_19, i_20, i_21, i_22, i_23, i_24, i_25, i_26, i_27, i_28, i_29, i_30, i_31, i_32, i_33, i_34, i_35, i_36, i_37, i_38, i_39, i_40, i_41, i_42, i_43, i_44, i_45, i_48, i_49, i_57, i_59, i_60, i_61, i_62, i_64, i_97, i_110, i_122, i_123, i_125, i_126, i_127, i_160, i_255, i_300, i_400, o2, k1, ek]
          · simp (disch := omega) only [↓reduceIte, nI_leT, nI_leF, nI_ltT, nI_ltF, nI_eqT, nI_eqF, xin_T, nI_clampT, nI_add, nI_inc, pk_subT, xb_some, xval, xlet, mI_s, mI_n, mI_k, mI_2, mJ_1, mJ_s, mJ_n, mJ_k, mJ_2, mT_1, mT_2, mT_s, mT_n, mT_k, mT_3, mR_1, mR_2, mR_3, bI_0, bI_1, bI_n0, bI_n1, Bool.true_eq_false, Bool.false_eq_true, eq_self, i_0, i_1, i_2, i_3, i_4, i_5, i_6, i_7, i_8, i_9, i_10, i_11, i_12, i_13, i_14, i_15, i_16, i_17, i_18, i_19, i_20, i_21, i_22, i_23, i_24, i_25, i_26, i_27, i_28, i_29, i_30, i_31, i_32, i_33, i_34, i_35, i_36, i_37, i_38, i_39, i_40, i_41, i_42, i_43, i_44, i_45, i_48, i_49, i_57, i_59, i_60, i_61, i_62, i_64, i_97, i_110, i_122, i_123, i_125, i_126, i_127, i_160, i_255, i_300, i_400, o3, k2]
          · simp (disch := omega) only [↓reduceIte, nI_leT, nI_leF, nI_ltT, nI_ltF, nI_eqT, nI_eqF, xin_T, nI_clampT, nI_add, nI_inc, pk_subT, xb_some, xval, xlet, mI_s, mI_n, mI_k, mI_2, mJ_1, mJ_s, mJ_n, mJ_k, mJ_2, mT_1, mT_2, mT_s, mT_n, mT_k, mT_3, mR_1, mR_2, mR_3, bI_0, bI_1, bI_n0, bI_n1, Bool.true_eq_false, Bool.false_eq_true, eq_self, i_0, i_1, i_2, i_3, i_4, i_5, i_6, i_7, i_8, i_9, i_10, i_11, i_12, i_13, i_14, i_15, i_16, i_17, i_18, i_19, i_20, i_21, i_22, i_23, i_24, i_25, i_26, i_27, i_28, i_29, i_30, i_31, i_32, i_33, i_34, i_35, i_36, i_37, i_38, i_39, i_40, i_41, i_42, i_43, i_44, i_45, i_48, i_49, i_57, i_59, i_60, i_61, i_62, i_64, i_97, i_110, i_122, i_123, i_125, i_126, i_127, i_160, i_255, i_300, i_400, ee2, k3]
      obtain ⟨M2, i1, i2, i3, i4, i5, i6⟩ := ih (n + 1) (pTok t (pScan pBlank t p)).2 (f + 1) (wI M' b 9 (nI (n + 1))) (pre ++ [((pTok t (pScan pBlank t p)).1, pScan pBlank t p, (pTok t (pScan pBlank t p)).2)]) (by omega) (by omega) (by rw [hTp, List.append_assoc]; rfl) (by rw [List.length_append, hpre]; rfl) t2 sn
      refine ⟨M2, ?_, i2, i3, i4, i5, (o5.trans f9).trans i6⟩
      rw [show f + 2 = (f + 1) + 1 from rfl, f_N_cuts_9, if_neg (by decide), c13, o1, if_neg (by decide), ee1]
      exact i1
/-- the TOKENS of t as the reference has them -/
def rLx (M : xMem) (b : Nat) (t : List Nat) : Prop := rTx M b t ∧ M.1 b 9 = nI (nT t) ∧ (∀ i, i < nT t → rEn M b (pLex t) i) ∧ M.1 (b + 8) (nT t) = nI (rk (kT t (nT t))) ∧ M.1 (b + 9) (nT t) = nI (pS (pLex t) (nT t))
theorem r_cuts {M : xMem} {b : Nat} {t : List Nat} (h : rTx M b t) : ∃ M', f_N_cuts b M = some ((), M') ∧ rLx M' b t ∧ rF (rCutS b) M M' := by
  have f0 : rF (rCutS b) M (wI M b 9 (nI 0)) := rF.I (by unfold rCutS; omega)
  have h0 := h.cut f0
  obtain ⟨M', i1, i2, i3, i4, i5, i6⟩ := r_cuts_9 (b := b) (t := t) (T := pLex t) ((pLex_in t).mono h.2.1) 60 0 0 xFuel (wI M b 9 (nI 0)) [] (by omega) (by unfold xFuel; omega) rfl rfl (Nat.zero_le _) ⟨h0, by simp (disch := omega) only [↓reduceIte, nI_leT, nI_leF, nI_ltT, nI_ltF, nI_eqT, nI_eqF, xin_T, nI_clampT, nI_add, nI_inc, pk_subT, xb_some, xval, xlet, mI_s, mI_n, mI_k, mI_2, mJ_1, mJ_s, mJ_n, mJ_k, mJ_2, mT_1, mT_2, mT_s, mT_n, mT_k, mT_3, mR_1, mR_2, mR_3, bI_0, bI_1, bI_n0, bI_n1, Bool.true_eq_false, Bool.false_eq_true, eq_self, i_0, i_1, i_2, i_3, i_4, i_5, i_6, i_7, i_8, i_9, i_10, i_11, i_12, i_13, i_14, i_15, i_16, i_17, i_18, i_19, i_20, i_21, i_22, i_23, i_24, i_25, i_26, i_27, i_28, i_29, i_30, i_31, i_32, i_33, i_34, i_35, i_36, i_37, i_38, i_39, i_40, i_41, i_42, i_43, i_44, i_45, i_48, i_49, i_57, i_59, i_60, i_61, i_62, i_64, i_97, i_110, i_122, i_123, i_125, i_126, i_127, i_160, i_255, i_300, i_400], by omega, fun i hi => absurd hi (by omega)⟩
  refine ⟨M', ?_, ⟨h0.cut i6, i2, i3, i4, i5⟩, f0.trans i6⟩
  unfold f_N_cuts
  exact i1
