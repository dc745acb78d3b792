/-! PURE: the class's grammar goes with the machine: if, while, return, BLOCKS, fns -/
theorem g_one {t : List Nat} {rest : List qI} {d k tok sc : Nat} {L : qL} : (kT t tok = k → gTo t ((4, d, k, 0) :: rest, tok, sc, L) (.inr (rest, tok + 1, sc, L))) ∧ (kT t tok ≠ k → gTo t ((4, d, k, 0) :: rest, tok, sc, L) (.inl tok)) := by
  refine ⟨fun c => gTo.one ?_, fun c => gTo.one ?_⟩
  · show qOne (kT t) k rest tok sc L = _
    unfold qOne; rw [if_pos c]
  · show qOne (kT t) k rest tok sc L = _
    unfold qOne; rw [if_neg c]
def sCond (b : Nat) (t : List Nat) (rc : Nat → Int32 → Int32 → Int32 → xMem → Option (Int32 × xMem)) (n : Nat) : Prop := ∀ (d : Nat) (M : xMem) (tok sc : Nat) (L : qL) (rest : List qI), 7 * (13 - d) + 2 ≤ n → d ≤ 12 → tok ≤ nT t → rC M b t tok sc L → (kT t tok ≠ 16 → rc 6 (nI d) (nI 0) (nI 0) M = some (nI 0, M)) ∧ (kT t tok = 16 → gW t ((5, d, 0, 0) :: (4, d, 17, 0) :: rest, tok + 1, sc, L) → gOut b t ((5, d, 0, 0) :: (4, d, 17, 0) :: rest, tok + 1, sc, L) M (rc 6 (nI d) (nI 0) (nI 0) M) (gS b t rest tok sc L))
theorem g_cond {b : Nat} {t : List Nat} {rc : Nat → Int32 → Int32 → Int32 → xMem → Option (Int32 × xMem)} {n : Nat} (hV : sVal b t rc n) {d tok sc : Nat} {M : xMem} {L : qL} {rest : List qI} (hn : 4 * (13 - d) + 1 ≤ n) (hd : d ≤ 12) (ht : tok ≤ nT t) (hR : rC M b t tok sc L) : (kT t tok ≠ 16 → f_P_condition rc b (nI d) M = some (nI 0, M)) ∧ (kT t tok = 16 → gW t ((5, d, 0, 0) :: (4, d, 17, 0) :: rest, tok + 1, sc, L) → gOut b t ((5, d, 0, 0) :: (4, d, 17, 0) :: rest, tok + 1, sc, L) M (f_P_condition rc b (nI d) M) (gS b t rest tok sc L)) := by
  have hT := nT_le t
  have tk := p_take (k := 16) hR (by omega) (by omega)
  refine ⟨?_, ?_⟩
  · intro c
    rw [if_neg c] at tk
    unfold f_P_condition
    simp (disch := omega) only [↓reduceIte, nI_leT, nI_leF, nI_ltT, nI_ltF, nI_eqT, nI_eqF, xin_T, nI_clampT, nI_add, nI_inc, pk_subT, xb_some, xval, xlet, mI_s, mI_n, mI_k, mI_2, mJ_1, mJ_s, mJ_n, mJ_k, mJ_2, mT_1, mT_2, mT_s, mT_n, mT_k, mT_3, mR_1, mR_2, mR_3, bI_0, bI_1, bI_n0, bI_n1, Bool.true_eq_false, Bool.false_eq_true, eq_self, i_0, i_1, i_2, i_3, i_4, i_5, i_6, i_7, i_8, i_9, i_10, i_11, i_12, i_13, i_14, i_15, i_16, i_17, i_18, i_19, i_20, i_21, i_22, i_23, i_24, i_25, i_26, i_27, i_28, i_29, i_30, i_31, i_32, i_33, i_34, i_35, i_36, i_37, i_38, i_39, i_40, i_41, i_42, i_43, i_44, i_45, i_48, i_49, i_57, i_59, i_60, i_61, i_62, i_64, i_97, i_110, i_122, i_123, i_125, i_126, i_127, i_160, i_255, i_300, i_400, tk]
  · intro c hW
    rw [if_pos c] at tk
    unfold f_P_condition
    rcases hV d 0 _ (tok + 1) sc L ((4, d, 17, 0) :: rest) hn (by omega) hW (hR.at (tok' := tok + 1)) with ⟨M', c', q1, q2, q3, tok', L', s1, s2, s3, s4⟩ | ⟨M', e, q1, q2, q3, q4⟩
    · subst s1
      have ht' := (hW.to q2).tok
      have tk2 := p_take (k := 17) s2 (by omega) (by omega)
      by_cases c6 : kT t tok' = 17
      · rw [if_pos c6] at tk2
        refine .inl ⟨_, _, ?_, q2.trans (g_one.1 c6), fr_at.trans (q3.trans fr_at), tok' + 1, _, rfl, s2.at (tok' := tok' + 1), by omega, s4⟩
        simp (disch := omega) only [↓reduceIte, nI_leT, nI_leF, nI_ltT, nI_ltF, nI_eqT, nI_eqF, xin_T, nI_clampT, nI_add, nI_inc, pk_subT, xb_some, xval, xlet, mI_s, mI_n, mI_k, mI_2, mJ_1, mJ_s, mJ_n, mJ_k, mJ_2, mT_1, mT_2, mT_s, mT_n, mT_k, mT_3, mR_1, mR_2, mR_3, bI_0, bI_1, bI_n0, bI_n1, Bool.true_eq_false, Bool.false_eq_true, eq_self, i_0, i_1, i_2, i_3, i_4, i_5, i_6, i_7, i_8, i_9, i_10, i_11, i_12, i_13, i_14, i_15, i_16, i_17, i_18, i_19, i_20, i_21, i_22, i_23, i_24, i_25, i_26, i_27, i_28, i_29, i_30, i_31, i_32, i_33, i_34, i_35, i_36, i_37, i_38, i_39, i_40, i_41, i_42, i_43, i_44, i_45, i_48, i_49, i_57, i_59, i_60, i_61, i_62, i_64, i_97, i_110, i_122, i_123, i_125, i_126, i_127, i_160, i_255, i_300, i_400, tk, q1, tk2]
      · rw [if_neg c6] at tk2
        refine .inr ⟨M', tok', ?_, q2.trans (g_one.2 c6), fr_at.trans q3, s2.2.1⟩
        simp (disch := omega) only [↓reduceIte, nI_leT, nI_leF, nI_ltT, nI_ltF, nI_eqT, nI_eqF, xin_T, nI_clampT, nI_add, nI_inc, pk_subT, xb_some, xval, xlet, mI_s, mI_n, mI_k, mI_2, mJ_1, mJ_s, mJ_n, mJ_k, mJ_2, mT_1, mT_2, mT_s, mT_n, mT_k, mT_3, mR_1, mR_2, mR_3, bI_0, bI_1, bI_n0, bI_n1, Bool.true_eq_false, Bool.false_eq_true, eq_self, i_0, i_1, i_2, i_3, i_4, i_5, i_6, i_7, i_8, i_9, i_10, i_11, i_12, i_13, i_14, i_15, i_16, i_17, i_18, i_19, i_20, i_21, i_22, i_23, i_24, i_25, i_26, i_27, i_28, i_29, i_30, i_31, i_32, i_33, i_34, i_35, i_36, i_37, i_38, i_39, i_40, i_41, i_42, i_43, i_44, i_45, i_48, i_49, i_57, i_59, i_60, i_61, i_62, i_64, i_97, i_110, i_122, i_123, i_125, i_126, i_127, i_160, i_255, i_300, i_400, tk, q1, tk2]
    · refine .inr ⟨M', e, ?_, q2, fr_at.trans q3, q4⟩
      simp (disch := omega) only [↓reduceIte, nI_leT, nI_leF, nI_ltT, nI_ltF, nI_eqT, nI_eqF, xin_T, nI_clampT, nI_add, nI_inc, pk_subT, xb_some, xval, xlet, mI_s, mI_n, mI_k, mI_2, mJ_1, mJ_s, mJ_n, mJ_k, mJ_2, mT_1, mT_2, mT_s, mT_n, mT_k, mT_3, mR_1, mR_2, mR_3, bI_0, bI_1, bI_n0, bI_n1, Bool.true_eq_false, Bool.false_eq_true, eq_self, i_0, i_1, i_2, i_3, i_4, i_5, i_6, i_7, i_8, i_9, i_10, i_11, i_12, i_13, i_14, i_15, i_16, i_17, i_18, i_19, i_20, i_21, i_22, i_23, i_24, i_25, i_26, i_27, i_28, i_29, i_30, i_31, i_32, i_33, i_34, i_35, i_36, i_37, i_38, i_39, i_40, i_41, i_42, i_43, i_44, i_45, i_48, i_49, i_57, i_59, i_60, i_61, i_62, i_64, i_97, i_110, i_122, i_123, i_125, i_126, i_127, i_160, i_255, i_300, i_400, tk, q1]
/-- what a STATEMENT has done -/
def gP (b : Nat) (t : List Nat) (rest : List qI) (tok sc : Nat) (L : qL) (a : Nat) : qC → xMem → Prop := fun c' M' => ∃ tok' L', c' = (rest, tok', sc, L') ∧ rC M' b t tok' sc L' ∧ tok < tok' ∧ gKp a L L' ∧ (a ≠ 0 → (qg (L' 5) (a - 1)).1 = if kT t (qBeh t tok) = 7 then 1 else 0)
def sSt (b : Nat) (t : List Nat) (rc : Nat → Int32 → Int32 → Int32 → xMem → Option (Int32 × xMem)) (n : Nat) : Prop := ∀ (d a how r1 r2 : Nat) (M : xMem) (tok sc : Nat) (L : qL) (rest : List qI), 7 * (13 - d) + 4 ≤ n → d ≤ 13 → (r1 = if a ≠ 0 ∧ how < 2 then 1 else 0) → (r2 = if how % 2 = 0 then 1 else 0) → gW t ((2, d, a, how) :: rest, tok, sc, L) → rC M b t tok sc (qDead a (qBeh t tok) L) → gOut b t ((2, d, a, how) :: rest, tok, sc, L) M (rc 1 (nI d) (nI r1) (nI r2) M) (gP b t rest tok sc L a)
theorem sSt.plain {b : Nat} {t : List Nat} {rc : Nat → Int32 → Int32 → Int32 → xMem → Option (Int32 × xMem)} {n : Nat} (h : sSt b t rc n) {d tok sc : Nat} {M : xMem} {L : qL} {rest : List qI} (hn : 7 * (13 - d) + 4 ≤ n) (hd : d ≤ 13) (hW : gW t ((2, d, 0, 1) :: rest, tok, sc, L)) (hR : rC M b t tok sc L) : gOut b t ((2, d, 0, 1) :: rest, tok, sc, L) M (rc 1 (nI d) (nI 0) (nI 0) M) (gS b t rest tok sc L) := by
  refine (h d 0 1 0 0 M tok sc L rest hn hd rfl rfl hW (by rw [qDead_0]; exact hR)).imp ?_
  intro c' M' ⟨tok', L', e1, e2, e3, e4, _⟩
  exact ⟨tok', L', e1, e2, e3, e4⟩
theorem g_if {b : Nat} {t : List Nat} {rc : Nat → Int32 → Int32 → Int32 → xMem → Option (Int32 × xMem)} {n : Nat} (hC : sCond b t rc n) (hS : sSt b t rc n) {d a how tok sc : Nat} {M : xMem} {L : qL} {rest : List qI} (hn : 7 * (13 - d) + 2 ≤ n) (hd : d ≤ 12) (hk : kT t tok = 4) (hW : gW t ((2, d, a, how) :: rest, tok, sc, L)) (hR : rC M b t tok sc (qNote a tok (kT t tok) L)) : gMid b t rest d a how tok sc L M (f_P_choice rc b (nI d) M) := by
  have ht := hW.tok
  have t1 := g_T t tok ht.1 (by omega)
  have hT := nT_le t
  have h4 := hR.2.1
  have r1 := hR.at (tok' := tok + 1)
  have es : qStep (kT t) (wT' t) (dT t) ((2, d, a, how) :: rest, tok, sc, L) = qsIf (kT t) d (kT t tok) rest tok sc (qNote a tok (kT t tok) L) := by
    rw [g_stat]; unfold qStat
    rw [if_neg (by omega), if_neg (by omega), if_neg (by omega), if_neg (by omega), if_neg (by omega), if_pos (by omega)]
  unfold gMid
  generalize hL1 : qNote a tok (kT t tok) L = L1 at *
  obtain ⟨k1, k2⟩ := hC d _ (tok + 1) sc L1 ((2, d + 1, 0, 1) :: (3, d, 0, 0) :: rest) hn hd t1 r1
  unfold f_P_choice
  by_cases c : kT t (tok + 1) = 16
  · have st : gTo t ((2, d, a, how) :: rest, tok, sc, L) (.inr ((5, d, 0, 0) :: (4, d, 17, 0) :: (2, d + 1, 0, 1) :: (3, d, 0, 0) :: rest, tok + 2, sc, L1)) := gTo.one (by
      rw [es]; unfold qsIf; rw [if_neg (by omega), if_pos hk])
    rcases (k2 c (hW.to st)).from st fr_at with ⟨M', c', q1, q2, q3, tok', L', s1, s2, s3, s4⟩ | ⟨M', e, q1, q2, q3, q4⟩
    · subst s1
      have W' := hW.to q2
      rcases (hS.plain (by omega) (by omega) W' s2).from q2 q3 with ⟨M2, c2, u1, u2, u3, tok2, L2, v1, v2, v3, v4⟩ | ⟨M2, e, u1, u2, u3, u4⟩
      · subst v1
        have W2 := hW.to u2
        have ht2 := W2.tok
        have tk := p_take (k := 5) v2 (by omega) (by omega)
        by_cases c5 : kT t tok2 = 5
        · rw [if_pos c5] at tk
          have st2 : gTo t ((3, d, 0, 0) :: rest, tok2, sc, L2) (.inr ((2, d + 1, 0, 1) :: rest, tok2 + 1, sc, L2)) := gTo.one (by
            show qOth (kT t) d rest tok2 sc L2 = _
            unfold qOth; rw [if_pos c5])
          rcases (hS.plain (by omega) (by omega) (W2.to st2) (v2.at (tok' := tok2 + 1))).from (u2.trans st2) (u3.trans fr_at) with ⟨M3, c3, x1, x2, x3, tok3, L3, y1, y2, y3, y4⟩ | ⟨M3, e, x1, x2, x3, x4⟩
          · refine .inl ⟨M3, c3, ?_, x2, x3, tok3, L3, y1, y2, by omega, (s4.trans v4).trans y4⟩
            simp (disch := omega) only [↓reduceIte, nI_leT, nI_leF, nI_ltT, nI_ltF, nI_eqT, nI_eqF, xin_T, nI_clampT, nI_add, nI_inc, pk_subT, xb_some, xval, xlet, mI_s, mI_n, mI_k, mI_2, mJ_1, mJ_s, mJ_n, mJ_k, mJ_2, mT_1, mT_2, mT_s, mT_n, mT_k, mT_3, mR_1, mR_2, mR_3, bI_0, bI_1, bI_n0, bI_n1, Bool.true_eq_false, Bool.false_eq_true, eq_self, i_0, i_1, i_2, i_3, i_4, i_5, i_6, i_7, i_8, i_9, i_10, i_11, i_12, i_13, i_14, i_15, i_16, i_17, i_18, i_19, i_20, i_21, i_22, i_23, i_24, i_25, i_26, i_27, i_28, i_29, i_30, i_31, i_32, i_33, i_34, i_35, i_36, i_37, i_38, i_39, i_40, i_41, i_42, i_43, i_44, i_45, i_48, i_49, i_57, i_59, i_60, i_61, i_62, i_64, i_97, i_110, i_122, i_123, i_125, i_126, i_127, i_160, i_255, i_300, i_400, h4, q1, u1, tk, x1, f_P_choice_54]
          · refine .inr ⟨M3, e, ?_, x2, x3, x4⟩
            simp (disch := omega) only [↓reduceIte, nI_leT, nI_leF, nI_ltT, nI_ltF, nI_eqT, nI_eqF, xin_T, nI_clampT, nI_add, nI_inc, pk_subT, xb_some, xval, xlet, mI_s, mI_n, mI_k, mI_2, mJ_1, mJ_s, mJ_n, mJ_k, mJ_2, mT_1, mT_2, mT_s, mT_n, mT_k, mT_3, mR_1, mR_2, mR_3, bI_0, bI_1, bI_n0, bI_n1, Bool.true_eq_false, Bool.false_eq_true, eq_self, i_0, i_1, i_2, i_3, i_4, i_5, i_6, i_7, i_8, i_9, i_10, i_11, i_12, i_13, i_14, i_15, i_16, i_17, i_18, i_19, i_20, i_21, i_22, i_23, i_24, i_25, i_26, i_27, i_28, i_29, i_30, i_31, i_32, i_33, i_34, i_35, i_36, i_37, i_38, i_39, i_40, i_41, i_42, i_43, i_44, i_45, i_48, i_49, i_57, i_59, i_60, i_61, i_62, i_64, i_97, i_110, i_122, i_123, i_125, i_126, i_127, i_160, i_255, i_300, i_400, h4, q1, u1, tk, x1]
        · rw [if_neg c5] at tk
          have st2 : gTo t ((3, d, 0, 0) :: rest, tok2, sc, L2) (.inr (rest, tok2, sc, L2)) := gTo.one (by
            show qOth (kT t) d rest tok2 sc L2 = _
            unfold qOth; rw [if_neg c5])
          refine .inl ⟨M2, _, ?_, u2.trans st2, u3, tok2, L2, rfl, v2, by omega, s4.trans v4⟩
          simp (disch := omega) only [↓reduceIte, nI_leT, nI_leF, nI_ltT, nI_ltF, nI_eqT, nI_eqF, xin_T, nI_clampT, nI_add, nI_inc, pk_subT, xb_some, xval, xlet, mI_s, mI_n, mI_k, mI_2, mJ_1, mJ_s, mJ_n, mJ_k, mJ_2, mT_1, mT_2, mT_s, mT_n, mT_k, mT_3, mR_1, mR_2, mR_3, bI_0, bI_1, bI_n0, bI_n1, Bool.true_eq_false, Bool.false_eq_true, eq_self, i_0, i_1, i_2, i_3, i_4, i_5, i_6, i_7, i_8, i_9, i_10, i_11, i_12, i_13, i_14, i_15, i_16, i_17, i_18, i_19, i_20, i_21, i_22, i_23, i_24, i_25, i_26, i_27, i_28, i_29, i_30, i_31, i_32, i_33, i_34, i_35, i_36, i_37, i_38, i_39, i_40, i_41, i_42, i_43, i_44, i_45, i_48, i_49, i_57, i_59, i_60, i_61, i_62, i_64, i_97, i_110, i_122, i_123, i_125, i_126, i_127, i_160, i_255, i_300, i_400, h4, q1, u1, tk, f_P_choice_54]
      · refine .inr ⟨M2, e, ?_, u2, u3, u4⟩
        simp (disch := omega) only [↓reduceIte, nI_leT, nI_leF, nI_ltT, nI_ltF, nI_eqT, nI_eqF, xin_T, nI_clampT, nI_add, nI_inc, pk_subT, xb_some, xval, xlet, mI_s, mI_n, mI_k, mI_2, mJ_1, mJ_s, mJ_n, mJ_k, mJ_2, mT_1, mT_2, mT_s, mT_n, mT_k, mT_3, mR_1, mR_2, mR_3, bI_0, bI_1, bI_n0, bI_n1, Bool.true_eq_false, Bool.false_eq_true, eq_self, i_0, i_1, i_2, i_3, i_4, i_5, i_6, i_7, i_8, i_9, i_10, i_11, i_12, i_13, i_14, i_15, i_16, i_17, i_18, i_19, i_20, i_21, i_22, i_23, i_24, i_25, i_26, i_27, i_28, i_29, i_30, i_31, i_32, i_33, i_34, i_35, i_36, i_37, i_38, i_39, i_40, i_41, i_42, i_43, i_44, i_45, i_48, i_49, i_57, i_59, i_60, i_61, i_62, i_64, i_97, i_110, i_122, i_123, i_125, i_126, i_127, i_160, i_255, i_300, i_400, h4, q1, u1]
    · refine .inr ⟨M', e, ?_, q2, q3, q4⟩
      simp (disch := omega) only [↓reduceIte, nI_leT, nI_leF, nI_ltT, nI_ltF, nI_eqT, nI_eqF, xin_T, nI_clampT, nI_add, nI_inc, pk_subT, xb_some, xval, xlet, mI_s, mI_n, mI_k, mI_2, mJ_1, mJ_s, mJ_n, mJ_k, mJ_2, mT_1, mT_2, mT_s, mT_n, mT_k, mT_3, mR_1, mR_2, mR_3, bI_0, bI_1, bI_n0, bI_n1, Bool.true_eq_false, Bool.false_eq_true, eq_self, i_0, i_1, i_2, i_3, i_4, i_5, i_6, i_7, i_8, i_9, i_10, i_11, i_12, i_13, i_14, i_15, i_16, i_17, i_18, i_19, i_20, i_21, i_22, i_23, i_24, i_25, i_26, i_27, i_28, i_29, i_30, i_31, i_32, i_33, i_34, i_35, i_36, i_37, i_38, i_39, i_40, i_41, i_42, i_43, i_44, i_45, i_48, i_49, i_57, i_59, i_60, i_61, i_62, i_64, i_97, i_110, i_122, i_123, i_125, i_126, i_127, i_160, i_255, i_300, i_400, h4, q1]
  · have q1 := k1 c
    refine .inr ⟨_, tok + 1, ?_, gTo.one ?_, fr_at, r1.2.1⟩
    · simp (disch := omega) only [↓reduceIte, nI_leT, nI_leF, nI_ltT, nI_ltF, nI_eqT, nI_eqF, xin_T, nI_clampT, nI_add, nI_inc, pk_subT, xb_some, xval, xlet, mI_s, mI_n, mI_k, mI_2, mJ_1, mJ_s, mJ_n, mJ_k, mJ_2, mT_1, mT_2, mT_s, mT_n, mT_k, mT_3, mR_1, mR_2, mR_3, bI_0, bI_1, bI_n0, bI_n1, Bool.true_eq_false, Bool.false_eq_true, eq_self, i_0, i_1, i_2, i_3, i_4, i_5, i_6, i_7, i_8, i_9, i_10, i_11, i_12, i_13, i_14, i_15, i_16, i_17, i_18, i_19, i_20, i_21, i_22, i_23, i_24, i_25, i_26, i_27, i_28, i_29, i_30, i_31, i_32, i_33, i_34, i_35, i_36, i_37, i_38, i_39, i_40, i_41, i_42, i_43, i_44, i_45, i_48, i_49, i_57, i_59, i_60, i_61, i_62, i_64, i_97, i_110, i_122, i_123, i_125, i_126, i_127, i_160, i_255, i_300, i_400, h4, q1]
    · rw [es]; unfold qsIf; rw [if_pos c]
theorem g_loop {b : Nat} {t : List Nat} {rc : Nat → Int32 → Int32 → Int32 → xMem → Option (Int32 × xMem)} {n : Nat} (hC : sCond b t rc n) (hS : sSt b t rc n) {d a how tok sc : Nat} {M : xMem} {L : qL} {rest : List qI} (hn : 7 * (13 - d) + 2 ≤ n) (hd : d ≤ 12) (hk : kT t tok = 6) (hW : gW t ((2, d, a, how) :: rest, tok, sc, L)) (hR : rC M b t tok sc (qNote a tok (kT t tok) L)) : gMid b t rest d a how tok sc L M (f_P_loop rc b (nI d) M) := by
  have ht := hW.tok
  have t1 := g_T t tok ht.1 (by omega)
  have hT := nT_le t
  have h4 := hR.2.1
  have r1 := hR.at (tok' := tok + 1)
  have es : qStep (kT t) (wT' t) (dT t) ((2, d, a, how) :: rest, tok, sc, L) = qsIf (kT t) d (kT t tok) rest tok sc (qNote a tok (kT t tok) L) := by
    rw [g_stat]; unfold qStat
    rw [if_neg (by omega), if_neg (by omega), if_neg (by omega), if_neg (by omega), if_neg (by omega), if_pos (by omega)]
  unfold gMid
  generalize hL1 : qNote a tok (kT t tok) L = L1 at *
  obtain ⟨k1, k2⟩ := hC d _ (tok + 1) sc L1 ((2, d + 1, 0, 1) :: rest) hn hd t1 r1
  unfold f_P_loop
  by_cases c : kT t (tok + 1) = 16
  · have st : gTo t ((2, d, a, how) :: rest, tok, sc, L) (.inr ((5, d, 0, 0) :: (4, d, 17, 0) :: (2, d + 1, 0, 1) :: rest, tok + 2, sc, L1)) := gTo.one (by
      rw [es]; unfold qsIf; rw [if_neg (by omega), if_neg (by omega)])
    rcases (k2 c (hW.to st)).from st fr_at with ⟨M', c', q1, q2, q3, tok', L', s1, s2, s3, s4⟩ | ⟨M', e, q1, q2, q3, q4⟩
    · subst s1
      have W' := hW.to q2
      rcases (hS.plain (by omega) (by omega) W' s2).from q2 q3 with ⟨M2, c2, u1, u2, u3, tok2, L2, v1, v2, v3, v4⟩ | ⟨M2, e, u1, u2, u3, u4⟩
      · refine .inl ⟨M2, c2, ?_, u2, u3, tok2, L2, v1, v2, by omega, s4.trans v4⟩
        simp (disch := omega) only [↓reduceIte, nI_leT, nI_leF, nI_ltT, nI_ltF, nI_eqT, nI_eqF, xin_T, nI_clampT, nI_add, nI_inc, pk_subT, xb_some, xval, xlet, mI_s, mI_n, mI_k, mI_2, mJ_1, mJ_s, mJ_n, mJ_k, mJ_2, mT_1, mT_2, mT_s, mT_n, mT_k, mT_3, mR_1, mR_2, mR_3, bI_0, bI_1, bI_n0, bI_n1, Bool.true_eq_false, Bool.false_eq_true, eq_self, i_0, i_1, i_2, i_3, i_4, i_5, i_6, i_7, i_8, i_9, i_10, i_11, i_12, i_13, i_14, i_15, i_16, i_17, i_18, i_19, i_20, i_21, i_22, i_23, i_24, i_25, i_26, i_27, i_28, i_29, i_30, i_31, i_32, i_33, i_34, i_35, i_36, i_37, i_38, i_39, i_40, i_41, i_42, i_43, i_44, i_45, i_48, i_49, i_57, i_59, i_60, i_61, i_62, i_64, i_97, i_110, i_122, i_123, i_125, i_126, i_127, i_160, i_255, i_300, i_400, h4, q1, u1]
      · refine .inr ⟨M2, e, ?_, u2, u3, u4⟩
        simp (disch := omega) only [↓reduceIte, nI_leT, nI_leF, nI_ltT, nI_ltF, nI_eqT, nI_eqF, xin_T, nI_clampT, nI_add, nI_inc, pk_subT, xb_some, xval, xlet, mI_s, mI_n, mI_k, mI_2, mJ_1, mJ_s, mJ_n, mJ_k, mJ_2, mT_1, mT_2, mT_s, mT_n, mT_k, mT_3, mR_1, mR_2, mR_3, bI_0, bI_1, bI_n0, bI_n1, Bool.true_eq_false, Bool.false_eq_true, eq_self, i_0, i_1, i_2, i_3, i_4, i_5, i_6, i_7, i_8, i_9, i_10, i_11, i_12, i_13, i_14, i_15, i_16, i_17, i_18, i_19, i_20, i_21, i_22, i_23, i_24, i_25, i_26, i_27, i_28, i_29, i_30, i_31, i_32, i_33, i_34, i_35, i_36, i_37, i_38, i_39, i_40, i_41, i_42, i_43, i_44, i_45, i_48, i_49, i_57, i_59, i_60, i_61, i_62, i_64, i_97, i_110, i_122, i_123, i_125, i_126, i_127, i_160, i_255, i_300, i_400, h4, q1, u1]
    · refine .inr ⟨M', e, ?_, q2, q3, q4⟩
      simp (disch := omega) only [↓reduceIte, nI_leT, nI_leF, nI_ltT, nI_ltF, nI_eqT, nI_eqF, xin_T, nI_clampT, nI_add, nI_inc, pk_subT, xb_some, xval, xlet, mI_s, mI_n, mI_k, mI_2, mJ_1, mJ_s, mJ_n, mJ_k, mJ_2, mT_1, mT_2, mT_s, mT_n, mT_k, mT_3, mR_1, mR_2, mR_3, bI_0, bI_1, bI_n0, bI_n1, Bool.true_eq_false, Bool.false_eq_true, eq_self, i_0, i_1, i_2, i_3, i_4, i_5, i_6, i_7, i_8, i_9, i_10, i_11, i_12, i_13, i_14, i_15, i_16, i_17, i_18, i_19, i_20, i_21, i_22, i_23, i_24, i_25, i_26, i_27, i_28, i_29, i_30, i_31, i_32, i_33, i_34, i_35, i_36, i_37, i_38, i_39, i_40, i_41, i_42, i_43, i_44, i_45, i_48, i_49, i_57, i_59, i_60, i_61, i_62, i_64, i_97, i_110, i_122, i_123, i_125, i_126, i_127, i_160, i_255, i_300, i_400, h4, q1]
  · have q1 := k1 c
    refine .inr ⟨_, tok + 1, ?_, gTo.one ?_, fr_at, r1.2.1⟩
    · simp (disch := omega) only [↓reduceIte, nI_leT, nI_leF, nI_ltT, nI_ltF, nI_eqT, nI_eqF, xin_T, nI_clampT, nI_add, nI_inc, pk_subT, xb_some, xval, xlet, mI_s, mI_n, mI_k, mI_2, mJ_1, mJ_s, mJ_n, mJ_k, mJ_2, mT_1, mT_2, mT_s, mT_n, mT_k, mT_3, mR_1, mR_2, mR_3, bI_0, bI_1, bI_n0, bI_n1, Bool.true_eq_false, Bool.false_eq_true, eq_self, i_0, i_1, i_2, i_3, i_4, i_5, i_6, i_7, i_8, i_9, i_10, i_11, i_12, i_13, i_14, i_15, i_16, i_17, i_18, i_19, i_20, i_21, i_22, i_23, i_24, i_25, i_26, i_27, i_28, i_29, i_30, i_31, i_32, i_33, i_34, i_35, i_36, i_37, i_38, i_39, i_40, i_41, i_42, i_43, i_44, i_45, i_48, i_49, i_57, i_59, i_60, i_61, i_62, i_64, i_97, i_110, i_122, i_123, i_125, i_126, i_127, i_160, i_255, i_300, i_400, h4, q1]
    · rw [es]; unfold qsIf; rw [if_pos c]
theorem g_leave {b : Nat} {t : List Nat} {rc : Nat → Int32 → Int32 → Int32 → xMem → Option (Int32 × xMem)} {n : Nat} (hV : sVal b t rc n) {d a how tok sc : Nat} {M : xMem} {L : qL} {rest : List qI} (hn : 4 * (13 - d) + 1 ≤ n) (hd : d ≤ 12) (hk : kT t tok = 7) (hh : qHome (qNote a tok (kT t tok) L) sc ≠ 0) (hW : gW t ((2, d, a, how) :: rest, tok, sc, L)) (hR : rC M b t tok sc (qNote a tok (kT t tok) L)) : gMid b t rest d a how tok sc L M (f_P_leave rc b (nI d) M) := by
  have ht := hW.tok
  have t1 := g_T t tok ht.1 (by omega)
  have hT := nT_le t
  have h4 := hR.2.1
  have r1 := hR.at (tok' := tok + 1)
  have tk := p_take (k := 20) r1 (by omega) (by omega)
  have es : qStep (kT t) (wT' t) (dT t) ((2, d, a, how) :: rest, tok, sc, L) = qsRet (kT t) d rest tok sc (qNote a tok (kT t tok) L) := by
    rw [g_stat]; unfold qStat
    rw [if_neg (by omega), if_neg (by omega), if_neg (by omega), if_neg (by omega), if_neg (by omega), if_neg (by omega), if_pos hk]
  unfold gMid
  generalize hL1 : qNote a tok (kT t tok) L = L1 at *
  unfold f_P_leave
  by_cases c : kT t (tok + 1) = 20
  · rw [if_pos c] at tk
    have st : gTo t ((2, d, a, how) :: rest, tok, sc, L) (.inr (rest, tok + 2, sc, L1)) := gTo.one (by
      rw [es]; unfold qsRet; rw [if_neg hh, if_pos c])
    refine .inl ⟨wI (wI M (b + 29) 4 (nI (tok + 1))) (b + 29) 4 (nI (tok + 2)), _, ?_, st, fr_at.trans fr_at, tok + 2, _, rfl, r1.at (tok' := tok + 2), by omega, gKp.same rfl rfl rfl⟩
    simp (disch := omega) only [↓reduceIte, nI_leT, nI_leF, nI_ltT, nI_ltF, nI_eqT, nI_eqF, xin_T, nI_clampT, nI_add, nI_inc, pk_subT, xb_some, xval, xlet, mI_s, mI_n, mI_k, mI_2, mJ_1, mJ_s, mJ_n, mJ_k, mJ_2, mT_1, mT_2, mT_s, mT_n, mT_k, mT_3, mR_1, mR_2, mR_3, bI_0, bI_1, bI_n0, bI_n1, Bool.true_eq_false, Bool.false_eq_true, eq_self, i_0, i_1, i_2, i_3, i_4, i_5, i_6, i_7, i_8, i_9, i_10, i_11, i_12, i_13, i_14, i_15, i_16, i_17, i_18, i_19, i_20, i_21, i_22, i_23, i_24, i_25, i_26, i_27, i_28, i_29, i_30, i_31, i_32, i_33, i_34, i_35, i_36, i_37, i_38, i_39, i_40, i_41, i_42, i_43, i_44, i_45, i_48, i_49, i_57, i_59, i_60, i_61, i_62, i_64, i_97, i_110, i_122, i_123, i_125, i_126, i_127, i_160, i_255, i_300, i_400, h4, tk, f_P_leave_38]
  · rw [if_neg c] at tk
    have st : gTo t ((2, d, a, how) :: rest, tok, sc, L) (.inr ((5, d, 0, 0) :: (4, d, 20, 0) :: rest, tok + 1, sc, L1)) := gTo.one (by
      rw [es]; unfold qsRet; rw [if_neg hh, if_neg c])
    rcases (hV d 0 _ (tok + 1) sc L1 ((4, d, 20, 0) :: rest) hn (by omega) (hW.to st) r1).from st fr_at with ⟨M', c', q1, q2, q3, tok', L', s1, s2, s3, s4⟩ | ⟨M', e, q1, q2, q3, q4⟩
    · subst s1
      have ht' := (hW.to q2).tok
      have tk2 := p_take (k := 20) s2 (by omega) (by omega)
      by_cases c6 : kT t tok' = 20
      · rw [if_pos c6] at tk2
        refine .inl ⟨_, _, ?_, q2.trans (g_one.1 c6), q3.trans fr_at, tok' + 1, _, rfl, s2.at (tok' := tok' + 1), by omega, s4⟩
        simp (disch := omega) only [↓reduceIte, nI_leT, nI_leF, nI_ltT, nI_ltF, nI_eqT, nI_eqF, xin_T, nI_clampT, nI_add, nI_inc, pk_subT, xb_some, xval, xlet, mI_s, mI_n, mI_k, mI_2, mJ_1, mJ_s, mJ_n, mJ_k, mJ_2, mT_1, mT_2, mT_s, mT_n, mT_k, mT_3, mR_1, mR_2, mR_3, bI_0, bI_1, bI_n0, bI_n1, Bool.true_eq_false, Bool.false_eq_true, eq_self, i_0, i_1, i_2, i_3, i_4, i_5, i_6, i_7, i_8, i_9, i_10, i_11, i_12, i_13, i_14, i_15, i_16, i_17, i_18, i_19, i_20, i_21, i_22, i_23, i_24, i_25, i_26, i_27, i_28, i_29, i_30, i_31, i_32, i_33, i_34, i_35, i_36, i_37, i_38, i_39, i_40, i_41, i_42, i_43, i_44, i_45, i_48, i_49, i_57, i_59, i_60, i_61, i_62, i_64, i_97, i_110, i_122, i_123, i_125, i_126, i_127, i_160, i_255, i_300, i_400, h4, tk, q1, tk2, f_P_leave_38]
      · rw [if_neg c6] at tk2
        refine .inr ⟨M', tok', ?_, q2.trans (g_one.2 c6), q3, s2.2.1⟩
        simp (disch := omega) only [↓reduceIte, nI_leT, nI_leF, nI_ltT, nI_ltF, nI_eqT, nI_eqF, xin_T, nI_clampT, nI_add, nI_inc, pk_subT, xb_some, xval, xlet, mI_s, mI_n, mI_k, mI_2, mJ_1, mJ_s, mJ_n, mJ_k, mJ_2, mT_1, mT_2, mT_s, mT_n, mT_k, mT_3, mR_1, mR_2, mR_3, bI_0, bI_1, bI_n0, bI_n1, Bool.true_eq_false, Bool.false_eq_true, eq_self, i_0, i_1, i_2, i_3, i_4, i_5, i_6, i_7, i_8, i_9, i_10, i_11, i_12, i_13, i_14, i_15, i_16, i_17, i_18, i_19, i_20, i_21, i_22, i_23, i_24, i_25, i_26, i_27, i_28, i_29, i_30, i_31, i_32, i_33, i_34, i_35, i_36, i_37, i_38, i_39, i_40, i_41, i_42, i_43, i_44, i_45, i_48, i_49, i_57, i_59, i_60, i_61, i_62, i_64, i_97, i_110, i_122, i_123, i_125, i_126, i_127, i_160, i_255, i_300, i_400, h4, tk, q1, tk2]
    · refine .inr ⟨M', e, ?_, q2, q3, q4⟩
      simp (disch := omega) only [↓reduceIte, nI_leT, nI_leF, nI_ltT, nI_ltF, nI_eqT, nI_eqF, xin_T, nI_clampT, nI_add, nI_inc, pk_subT, xb_some, xval, xlet, mI_s, mI_n, mI_k, mI_2, mJ_1, mJ_s, mJ_n, mJ_k, mJ_2, mT_1, mT_2, mT_s, mT_n, mT_k, mT_3, mR_1, mR_2, mR_3, bI_0, bI_1, bI_n0, bI_n1, Bool.true_eq_false, Bool.false_eq_true, eq_self, i_0, i_1, i_2, i_3, i_4, i_5, i_6, i_7, i_8, i_9, i_10, i_11, i_12, i_13, i_14, i_15, i_16, i_17, i_18, i_19, i_20, i_21, i_22, i_23, i_24, i_25, i_26, i_27, i_28, i_29, i_30, i_31, i_32, i_33, i_34, i_35, i_36, i_37, i_38, i_39, i_40, i_41, i_42, i_43, i_44, i_45, i_48, i_49, i_57, i_59, i_60, i_61, i_62, i_64, i_97, i_110, i_122, i_123, i_125, i_126, i_127, i_160, i_255, i_300, i_400, h4, tk, q1]
def sLst (b : Nat) (t : List Nat) (rc : Nat → Int32 → Int32 → Int32 → xMem → Option (Int32 × xMem)) (n : Nat) : Prop := ∀ (d a m : Nat) (M : xMem) (tok sc : Nat) (L : qL) (rest : List qI), 7 * (13 - d) + 5 ≤ n → d ≤ 13 → (qg (L 5) m).1 = 0 → gW t ((1, d, a, m) :: rest, tok, sc, L) → rC M b t tok sc L → gOut b t ((1, d, a, m) :: rest, tok, sc, L) M (rc 0 (nI d) (nI 0) (nI 0) M) (fun c' M' => ∃ tok' L', c' = ((1, d, a, m) :: rest, tok', sc, L') ∧ rC M' b t tok' sc L' ∧ tok ≤ tok' ∧ gKp (m + 1) L L' ∧ (kT t tok' = 19 ∨ kT t tok' = 26))
/-- where a list can not go on -/
theorem g_end {t : List Nat} {rest : List qI} {d a m tok sc : Nat} {L : qL} (h : kT t tok = 19 ∨ kT t tok = 26) (ha : kT t tok ≠ a) : gTo t ((1, d, a, m) :: rest, tok, sc, L) (.inl tok) := by
  refine gTo.step (c1 := ((2, d, m + 1, 0) :: (1, d, a, m) :: rest, tok, sc, L)) ?_ ?_
  · show qLst (kT t) d a m rest tok sc L = _
    unfold qLst; rw [if_pos ha]
  by_cases c : 12 < d
  · refine gTo.one ?_
    rw [g_stat]; unfold qStat
    rw [if_pos (.inl c)]
  · refine gTo.step (c1 := ((5, d, 0, 0) :: (4, d, 20, 0) :: (1, d, a, m) :: rest, tok, sc, qNote (m + 1) tok (kT t tok) L)) ?_ ?_
    · rw [g_stat]; unfold qStat
      rw [if_neg (by omega), if_neg (by omega), if_neg (by omega), if_neg (by omega), if_neg (by omega), if_neg (by omega), if_neg (by omega), if_neg (by omega)]
    refine gTo.step (c1 := ((7, d, 0, 0) :: (6, d, 0, 0) :: (4, d, 20, 0) :: (1, d, a, m) :: rest, tok, sc, qNote (m + 1) tok (kT t tok) L)) ?_ ?_
    · show qVal (kT t) d 0 _ tok sc _ = _
      unfold qVal; rw [if_neg (by omega), if_neg (by omega)]
    · refine gTo.one ?_
      show qPart (kT t) d _ tok sc _ = _
      unfold qPart
      rw [if_neg (by omega), if_neg (by omega), if_neg (by omega), if_neg (by omega)]
/-- a list within a SCOPE of its own, and its "}" -/
theorem g_body {b : Nat} {t : List Nat} {rc : Nat → Int32 → Int32 → Int32 → xMem → Option (Int32 × xMem)} {n : Nat} (hL : sLst b t rc n) {d tok sc idx : Nat} {M M0 : xMem} {c0 : qC} {L0 L : qL} {rest : List qI} {tok0 : Nat} {k : Int32 → xMem → Option (Int32 × xMem)} (hk : ∀ w M, k w M = (xlet (wI M (b + 29) 5 (nI sc)) fun M => if xnar .boolean w = true then some (w, M) else none)) (hn : 7 * (12 - d) + 5 ≤ n) (hd : d ≤ 12) (hW : gW t (qList (d + 1) 19 tok0 ((9, d, 0, 0) :: rest) tok idx L)) (hidx : idx < (L 0).length) (hp : (qg (L 0) idx).1 = sc) (hto : gTo t c0 (.inr (qList (d + 1) 19 tok0 ((9, d, 0, 0) :: rest) tok idx L))) (f0 : pFr (b + 8) (b + 30) M0 M) (h0 : tok0 < tok) (hb0 : gKp 0 L0 L) (hR : rC M b t tok idx L) : gOut b t c0 M0 (xbind (rc 0 (nI (d + 1)) (nI 0) (nI 0) M) fun r M => if r = 0 then (k 0 M) else (xbind (f_P_take b 19 M) fun r21 M => if r21 = 0 then (k 0 M) else (k 1 M))) (gS b t rest tok0 sc L0) := by
  have hR' : rC M b t tok idx (qA 5 (0, tok0 + 1, 0, 0, 0) L) := hR.cong rfl rfl rfl rfl (fun f h1 h2 => qA_n _ _ (by omega))
  have gb1 : gKp 0 L (qA 5 (0, tok0 + 1, 0, 0, 0) L) := by
    refine ⟨⟨by rw [qA_s]; simp, ?_⟩, ⟨Nat.le_refl _, fun _ _ => rfl⟩, ⟨Nat.le_refl _, fun _ _ => rfl⟩⟩
    intro i hi _
    rw [qA_s, qg_lt hi]
  have r := hL (d + 1) 19 (L 5).length M tok idx (qA 5 (0, tok0 + 1, 0, 0, 0) L) ((9, d, 0, 0) :: rest) (by omega) (by omega) (by rw [qA_s, qg_eq]) hW hR'
  have kx : ∀ (w : Nat) (M : xMem), w ≤ 1 → k (nI w) M = some (nI w, wI M (b + 29) 5 (nI sc)) := by
    intro w M hw
    rw [hk]
    have : w = 0 ∨ w = 1 := by omega
    rcases this with rfl | rfl
    · simp (disch := omega) only [↓reduceIte, nI_leT, nI_leF, nI_ltT, nI_ltF, nI_eqT, nI_eqF, xin_T, nI_clampT, nI_add, nI_inc, pk_subT, xb_some, xval, xlet, mI_s, mI_n, mI_k, mI_2, mJ_1, mJ_s, mJ_n, mJ_k, mJ_2, mT_1, mT_2, mT_s, mT_n, mT_k, mT_3, mR_1, mR_2, mR_3, bI_0, bI_1, bI_n0, bI_n1, Bool.true_eq_false, Bool.false_eq_true, eq_self, i_0, i_1, i_2, i_3, i_4, i_5, i_6, i_7, i_8, i_9, i_10, i_11, i_12, i_13, i_14, i_15, i_16, i_17, i_18, i_19, i_20, i_21, i_22, i_23, i_24, i_25, i_26, i_27, i_28, i_29, i_30, i_31, i_32, i_33, i_34, i_35, i_36, i_37, i_38, i_39, i_40, i_41, i_42, i_43, i_44, i_45, i_48, i_49, i_57, i_59, i_60, i_61, i_62, i_64, i_97, i_110, i_122, i_123, i_125, i_126, i_127, i_160, i_255, i_300, i_400, xnarB0]
    · simp (disch := omega) only [↓reduceIte, nI_leT, nI_leF, nI_ltT, nI_ltF, nI_eqT, nI_eqF, xin_T, nI_clampT, nI_add, nI_inc, pk_subT, xb_some, xval, xlet, mI_s, mI_n, mI_k, mI_2, mJ_1, mJ_s, mJ_n, mJ_k, mJ_2, mT_1, mT_2, mT_s, mT_n, mT_k, mT_3, mR_1, mR_2, mR_3, bI_0, bI_1, bI_n0, bI_n1, Bool.true_eq_false, Bool.false_eq_true, eq_self, i_0, i_1, i_2, i_3, i_4, i_5, i_6, i_7, i_8, i_9, i_10, i_11, i_12, i_13, i_14, i_15, i_16, i_17, i_18, i_19, i_20, i_21, i_22, i_23, i_24, i_25, i_26, i_27, i_28, i_29, i_30, i_31, i_32, i_33, i_34, i_35, i_36, i_37, i_38, i_39, i_40, i_41, i_42, i_43, i_44, i_45, i_48, i_49, i_57, i_59, i_60, i_61, i_62, i_64, i_97, i_110, i_122, i_123, i_125, i_126, i_127, i_160, i_255, i_300, i_400, xnarB1]
  have k0 : ∀ M : xMem, k (nI 0) M = some (nI 0, wI M (b + 29) 5 (nI sc)) := fun M => kx 0 M (by omega)
  have k1 : ∀ M : xMem, k (nI 1) M = some (nI 1, wI M (b + 29) 5 (nI sc)) := fun M => kx 1 M (by omega)
  rcases r with ⟨M', c', q1, q2, q3, tok', L', s1, s2, s3, s4, s5⟩ | ⟨M', e, q1, q2, q3, q4⟩
  · subst s1
    have gbm : gKp 0 L L' := by
      refine ⟨⟨Nat.le_trans gb1.1.1 s4.1.1, ?_⟩, ⟨s4.2.1.1, s4.2.1.2⟩, ⟨s4.2.2.1, s4.2.2.2⟩⟩
      intro i hi _
      rw [s4.1.2 i (by rw [qA_s]; simp; omega) (by omega), qA_s, qg_lt hi]
    have W' := hW.to q2
    have to' := hto.trans q2
    have ht' := W'.tok
    have tk := p_take (k := 19) s2 (by omega) (by omega)
    by_cases c : kT t tok' = 19
    · rw [if_pos c] at tk
      have pe : (qg (L' 0) idx).1 = sc := by rw [gbm.2.2.2 idx hidx]; exact hp
      have st1 : gTo t ((1, d + 1, 19, (L 5).length) :: (9, d, 0, 0) :: rest, tok', idx, L') (.inr ((9, d, 0, 0) :: rest, tok' + 1, idx, L')) := gTo.one (by
        show qLst (kT t) (d + 1) 19 (L 5).length _ tok' idx L' = _
        unfold qLst; rw [if_neg (by omega), if_pos rfl])
      have st2 : gTo t ((9, d, 0, 0) :: rest, tok' + 1, idx, L') (.inr (rest, tok' + 1, sc, L')) := gTo.one (by
        show Sum.inr (rest, tok' + 1, (qg (L' 0) idx).1, L') = _
        rw [pe])
      refine .inl ⟨wI (wI M' (b + 29) 4 (nI (tok' + 1))) (b + 29) 5 (nI sc), _, ?_, (to'.trans st1).trans st2, ((f0.trans q3).trans fr_at).trans fr_at, tok' + 1, L', rfl, (s2.at (tok' := tok' + 1)).sc, by omega, hb0.trans gbm⟩
      simp (disch := omega) only [↓reduceIte, nI_leT, nI_leF, nI_ltT, nI_ltF, nI_eqT, nI_eqF, xin_T, nI_clampT, nI_add, nI_inc, pk_subT, xb_some, xval, xlet, mI_s, mI_n, mI_k, mI_2, mJ_1, mJ_s, mJ_n, mJ_k, mJ_2, mT_1, mT_2, mT_s, mT_n, mT_k, mT_3, mR_1, mR_2, mR_3, bI_0, bI_1, bI_n0, bI_n1, Bool.true_eq_false, Bool.false_eq_true, eq_self, i_0, i_1, i_2, i_3, i_4, i_5, i_6, i_7, i_8, i_9, i_10, i_11, i_12, i_13, i_14, i_15, i_16, i_17, i_18, i_19, i_20, i_21, i_22, i_23, i_24, i_25, i_26, i_27, i_28, i_29, i_30, i_31, i_32, i_33, i_34, i_35, i_36, i_37, i_38, i_39, i_40, i_41, i_42, i_43, i_44, i_45, i_48, i_49, i_57, i_59, i_60, i_61, i_62, i_64, i_97, i_110, i_122, i_123, i_125, i_126, i_127, i_160, i_255, i_300, i_400, q1, tk, k1]
    · rw [if_neg c] at tk
      refine .inr ⟨wI M' (b + 29) 5 (nI sc), tok', ?_, to'.trans (g_end s5 c), (f0.trans q3).trans fr_at, ?_⟩
      · simp (disch := omega) only [↓reduceIte, nI_leT, nI_leF, nI_ltT, nI_ltF, nI_eqT, nI_eqF, xin_T, nI_clampT, nI_add, nI_inc, pk_subT, xb_some, xval, xlet, mI_s, mI_n, mI_k, mI_2, mJ_1, mJ_s, mJ_n, mJ_k, mJ_2, mT_1, mT_2, mT_s, mT_n, mT_k, mT_3, mR_1, mR_2, mR_3, bI_0, bI_1, bI_n0, bI_n1, Bool.true_eq_false, Bool.false_eq_true, eq_self, i_0, i_1, i_2, i_3, i_4, i_5, i_6, i_7, i_8, i_9, i_10, i_11, i_12, i_13, i_14, i_15, i_16, i_17, i_18, i_19, i_20, i_21, i_22, i_23, i_24, i_25, i_26, i_27, i_28, i_29, i_30, i_31, i_32, i_33, i_34, i_35, i_36, i_37, i_38, i_39, i_40, i_41, i_42, i_43, i_44, i_45, i_48, i_49, i_57, i_59, i_60, i_61, i_62, i_64, i_97, i_110, i_122, i_123, i_125, i_126, i_127, i_160, i_255, i_300, i_400, q1, tk, k0]
      · have := s2.2.1
        simp (disch := omega) only [↓reduceIte, nI_leT, nI_leF, nI_ltT, nI_ltF, nI_eqT, nI_eqF, xin_T, nI_clampT, nI_add, nI_inc, pk_subT, xb_some, xval, xlet, mI_s, mI_n, mI_k, mI_2, mJ_1, mJ_s, mJ_n, mJ_k, mJ_2, mT_1, mT_2, mT_s, mT_n, mT_k, mT_3, mR_1, mR_2, mR_3, bI_0, bI_1, bI_n0, bI_n1, Bool.true_eq_false, Bool.false_eq_true, eq_self, i_0, i_1, i_2, i_3, i_4, i_5, i_6, i_7, i_8, i_9, i_10, i_11, i_12, i_13, i_14, i_15, i_16, i_17, i_18, i_19, i_20, i_21, i_22, i_23, i_24, i_25, i_26, i_27, i_28, i_29, i_30, i_31, i_32, i_33, i_34, i_35, i_36, i_37, i_38, i_39, i_40, i_41, i_42, i_43, i_44, i_45, i_48, i_49, i_57, i_59, i_60, i_61, i_62, i_64, i_97, i_110, i_122, i_123, i_125, i_126, i_127, i_160, i_255, i_300, i_400, this]
  · refine .inr ⟨wI M' (b + 29) 5 (nI sc), e, ?_, hto.trans q2, (f0.trans q3).trans fr_at, ?_⟩
    · simp (disch := omega) only [↓reduceIte, nI_leT, nI_leF, nI_ltT, nI_ltF, nI_eqT, nI_eqF, xin_T, nI_clampT, nI_add, nI_inc, pk_subT, xb_some, xval, xlet, mI_s, mI_n, mI_k, mI_2, mJ_1, mJ_s, mJ_n, mJ_k, mJ_2, mT_1, mT_2, mT_s, mT_n, mT_k, mT_3, mR_1, mR_2, mR_3, bI_0, bI_1, bI_n0, bI_n1, Bool.true_eq_false, Bool.false_eq_true, eq_self, i_0, i_1, i_2, i_3, i_4, i_5, i_6, i_7, i_8, i_9, i_10, i_11, i_12, i_13, i_14, i_15, i_16, i_17, i_18, i_19, i_20, i_21, i_22, i_23, i_24, i_25, i_26, i_27, i_28, i_29, i_30, i_31, i_32, i_33, i_34, i_35, i_36, i_37, i_38, i_39, i_40, i_41, i_42, i_43, i_44, i_45, i_48, i_49, i_57, i_59, i_60, i_61, i_62, i_64, i_97, i_110, i_122, i_123, i_125, i_126, i_127, i_160, i_255, i_300, i_400, q1, k0]
    · simp (disch := omega) only [↓reduceIte, nI_leT, nI_leF, nI_ltT, nI_ltF, nI_eqT, nI_eqF, xin_T, nI_clampT, nI_add, nI_inc, pk_subT, xb_some, xval, xlet, mI_s, mI_n, mI_k, mI_2, mJ_1, mJ_s, mJ_n, mJ_k, mJ_2, mT_1, mT_2, mT_s, mT_n, mT_k, mT_3, mR_1, mR_2, mR_3, bI_0, bI_1, bI_n0, bI_n1, Bool.true_eq_false, Bool.false_eq_true, eq_self, i_0, i_1, i_2, i_3, i_4, i_5, i_6, i_7, i_8, i_9, i_10, i_11, i_12, i_13, i_14, i_15, i_16, i_17, i_18, i_19, i_20, i_21, i_22, i_23, i_24, i_25, i_26, i_27, i_28, i_29, i_30, i_31, i_32, i_33, i_34, i_35, i_36, i_37, i_38, i_39, i_40, i_41, i_42, i_43, i_44, i_45, i_48, i_49, i_57, i_59, i_60, i_61, i_62, i_64, i_97, i_110, i_122, i_123, i_125, i_126, i_127, i_160, i_255, i_300, i_400, q4]
theorem g_block {b : Nat} {t : List Nat} {rc : Nat → Int32 → Int32 → Int32 → xMem → Option (Int32 × xMem)} {n : Nat} (hL : sLst b t rc n) {d a how tok sc r1 : Nat} {M : xMem} {L : qL} {rest : List qI} (hn : 7 * (12 - d) + 5 ≤ n) (hd : d ≤ 12) (hk : kT t tok = 18) (hr : r1 = if a ≠ 0 ∧ how < 2 then 1 else 0) (hW : gW t ((2, d, a, how) :: rest, tok, sc, L)) (hR : rC M b t tok sc (qNote a tok (kT t tok) L)) : gMid b t rest d a how tok sc L M (f_P_block rc b (nI d) (nI r1) M) := by
  have ht := hW.tok
  have hre := hW.real (by omega)
  have t1 := g_T t tok ht.1 (by omega)
  have hT := nT_le t
  have h4 := hR.2.1
  have ok := hW.note (k := kT t tok)
  have l0 : (qNote a tok (kT t tok) L 0).length ≤ tok + 1 := ok_len0 ok
  have hsc : sc < (qNote a tok (kT t tok) L 0).length := ok.2.1
  have ra := hR.at (tok' := tok + 1)
  have es : gTo t ((2, d, a, how) :: rest, tok, sc, L) (.inr (qList (d + 1) 19 tok ((9, d, 0, 0) :: rest) (tok + 1) (qNote a tok (kT t tok) L 0).length (qEmpL (kT t) a how tok (qOpen 0 (tok + 1) sc (qNote a tok (kT t tok) L))))) := gTo.one (by
    rw [g_stat]; unfold qStat
    rw [if_neg (by omega), if_neg (by omega), if_neg (by omega), if_neg (by omega), if_pos hk]
    rfl)
  have W1 := hW.to es
  unfold gMid
  generalize hL1 : qNote a tok (kT t tok) L = L1 at *
  have gb : gKp 0 L1 (qEmpL (kT t) a how tok (qOpen 0 (tok + 1) sc L1)) := by
    refine ⟨⟨by rw [q_emp_5, q_open_5]; exact Nat.le_refl _, fun i _ _ => by rw [q_emp_5, q_open_5]⟩, ⟨by rw [q_emp_4, q_open_4]; exact Nat.le_refl _, fun i _ => by rw [q_emp_4, q_open_4]⟩, ⟨?_, ?_⟩⟩
    · rw [q_emp_at (by decide)]; unfold qOpen; rw [qA_s]; simp
    · intro i hi; rw [q_emp_at (by decide)]; unfold qOpen; rw [qA_s, qg_lt hi]
  have e0 : (qEmpL (kT t) a how tok (qOpen 0 (tok + 1) sc L1)) 0 = L1 0 ++ [(sc, 0, qHome L1 sc, (qg (L1 0) sc).2.2.2.1 + 1, tok + 1)] := by
    rw [q_emp_at (by decide)]; rfl
  have hidx : (L1 0).length < ((qEmpL (kT t) a how tok (qOpen 0 (tok + 1) sc L1)) 0).length := by rw [e0]; simp
  have hp : (qg ((qEmpL (kT t) a how tok (qOpen 0 (tok + 1) sc L1)) 0) (L1 0).length).1 = sc := by rw [e0, qg_eq]
  /- block_47 from a memory that has the marks -/
  have key : ∀ (Mx : xMem) (Lx : qL) (v : Int32), rC Mx b t (tok + 1) sc Lx → Lx 0 = L1 0 → (∀ f, f ≠ 0 → qOpen 0 (tok + 1) sc Lx f = (qEmpL (kT t) a how tok (qOpen 0 (tok + 1) sc L1)) f) → pFr (b + 8) (b + 30) M Mx → gOut b t ((2, d, a, how) :: rest, tok, sc, L) M (f_P_block_47 rc b (nI d) (nI r1) v Mx) (gS b t rest tok sc L1) := by
    intro Mx Lx v hx hx0 hxf fx
    have op := p_S_open (s := sc) (fn := 0) hx.2.2.2.1 (by rw [hx0]; exact hsc) (by rw [hx0]; omega) (by omega)
    have ro := mOpen_rC (s := sc) (fn := 0) (p := tok + 1) hx
    have rs := ro.sc (sc' := (L1 0).length)
    have rg : rC (wI (mOpen Mx b (Lx 0).length sc (if 0 = 1 then (Lx 0).length else (qg (Lx 0) sc).2.2.1) ((qg (Lx 0) sc).2.2.2.1 + 1)) (b + 29) 5 (nI (L1 0).length)) b t (tok + 1) (L1 0).length (qEmpL (kT t) a how tok (qOpen 0 (tok + 1) sc L1)) := by
      refine rs.cong ?_ (hxf 1 (by omega)).symm (hxf 2 (by omega)).symm (hxf 4 (by omega)).symm (fun f h1 h2 => (hxf f (by omega)).symm)
      rw [e0]; unfold qOpen qHome; rw [qA_s, hx0]; rfl
    have fr : pFr (b + 8) (b + 30) M (wI (mOpen Mx b (Lx 0).length sc (if 0 = 1 then (Lx 0).length else (qg (Lx 0) sc).2.2.1) ((qg (Lx 0) sc).2.2.2.1 + 1)) (b + 29) 5 (nI (L1 0).length)) := (fx.trans (mOpen_fr.mono (by omega) (by omega))).trans fr_at
    have bo := g_body (k := fun w M => f_P_block_92 rc b (nI d) (nI r1) v (nI sc) w M) hL (fun w M => rfl) hn hd W1 hidx hp es fr (by omega) gb rg
    have o : f_P_block_47 rc b (nI d) (nI r1) v Mx = (xbind (rc 0 (nI (d + 1)) (nI 0) (nI 0) (wI (mOpen Mx b (Lx 0).length sc (if 0 = 1 then (Lx 0).length else (qg (Lx 0) sc).2.2.1) ((qg (Lx 0) sc).2.2.2.1 + 1)) (b + 29) 5 (nI (L1 0).length))) fun r M => if r = 0 then (f_P_block_92 rc b (nI d) (nI r1) v (nI sc) 0 M) else (xbind (f_P_take b 19 M) fun r21 M => if r21 = 0 then (f_P_block_92 rc b (nI d) (nI r1) v (nI sc) 0 M) else (f_P_block_92 rc b (nI d) (nI r1) v (nI sc) 1 M))) := by
      unfold f_P_block_47 f_P_block_91
      show xbind (f_S_open b (Mx.1 (b + 29) 5) 0 Mx) _ = _
      rw [hx.2.2.1, i_0, op, xb_some, hx0, show nI d + 1 = nI (d + 1) from nI_1 d]
      rfl
    rw [o]; exact bo
  have nx := p_next ra (by omega)
  have kl := kT_lt t (tok + 1)
  have r01 : r1 = 0 ∨ r1 = 1 := by rw [hr]; split <;> omega
  unfold f_P_block
  by_cases c : kT t (tok + 1) = 19
  · have ma := p_M_add (M := wI M (b + 29) 4 (nI (tok + 1))) (b := b) (p := tok) (r := 8) (by omega)
    have em := mEmp_rC (p := tok) (c := decide (r1 = 1)) ra (by omega)
    have ff : ∀ f, f ≠ 0 → qOpen 0 (tok + 1) sc (qA 18 (tok, if decide (r1 = 1) = true then 1 else 0, 0, 0, 0) L1) f = (qEmpL (kT t) a how tok (qOpen 0 (tok + 1) sc L1)) f := by
      intro f hf
      rw [q_open_at hf]
      unfold qEmpL
      rw [if_pos c]
      rw [qA_at, qA_at, q_open_at hf]
      rcases r01 with h | h
      · have : ¬ (a ≠ 0 ∧ how < 2) := by intro h'; rw [if_pos h'] at hr; omega
        rw [if_neg this, h]; rfl
      · have : a ≠ 0 ∧ how < 2 := by
          by_cases h' : a ≠ 0 ∧ how < 2
          · exact h'
          · rw [if_neg h'] at hr; omega
        rw [if_pos this, h]; rfl
    have kk := key (mEmp (wI M (b + 29) 4 (nI (tok + 1))) b tok (decide (r1 = 1))) _ (nI tok) em rfl ff (fr_at.trans (mEmp_fr.mono (by omega) (by omega)))
    have o : f_P_block rc b (nI d) (nI r1) M = f_P_block_47 rc b (nI d) (nI r1) (nI tok) (mEmp (wI M (b + 29) 4 (nI (tok + 1))) b tok (decide (r1 = 1))) := by
      unfold f_P_block mEmp
      rw [c] at nx
      have k19 : (19 : Nat) < 28 := by omega
      rcases r01 with rfl | rfl
      · simp (disch := omega) only [↓reduceIte, nI_leT, nI_leF, nI_ltT, nI_ltF, nI_eqT, nI_eqF, xin_T, nI_clampT, nI_add, nI_inc, pk_subT, xb_some, xval, xlet, mI_s, mI_n, mI_k, mI_2, mJ_1, mJ_s, mJ_n, mJ_k, mJ_2, mT_1, mT_2, mT_s, mT_n, mT_k, mT_3, mR_1, mR_2, mR_3, bI_0, bI_1, bI_n0, bI_n1, Bool.true_eq_false, Bool.false_eq_true, eq_self, i_0, i_1, i_2, i_3, i_4, i_5, i_6, i_7, i_8, i_9, i_10, i_11, i_12, i_13, i_14, i_15, i_16, i_17, i_18, i_19, i_20, i_21, i_22, i_23, i_24, i_25, i_26, i_27, i_28, i_29, i_30, i_31, i_32, i_33, i_34, i_35, i_36, i_37, i_38, i_39, i_40, i_41, i_42, i_43, i_44, i_45, i_48, i_49, i_57, i_59, i_60, i_61, i_62, i_64, i_97, i_110, i_122, i_123, i_125, i_126, i_127, i_160, i_255, i_300, i_400, h4, nx, k19, ma]
        rfl
      · have lo := p_loosen (M := mAdd (wI M (b + 29) 4 (nI (tok + 1))) b tok 8) (b := b) (p := tok) (by omega)
        simp (disch := omega) only [↓reduceIte, nI_leT, nI_leF, nI_ltT, nI_ltF, nI_eqT, nI_eqF, xin_T, nI_clampT, nI_add, nI_inc, pk_subT, xb_some, xval, xlet, mI_s, mI_n, mI_k, mI_2, mJ_1, mJ_s, mJ_n, mJ_k, mJ_2, mT_1, mT_2, mT_s, mT_n, mT_k, mT_3, mR_1, mR_2, mR_3, bI_0, bI_1, bI_n0, bI_n1, Bool.true_eq_false, Bool.false_eq_true, eq_self, i_0, i_1, i_2, i_3, i_4, i_5, i_6, i_7, i_8, i_9, i_10, i_11, i_12, i_13, i_14, i_15, i_16, i_17, i_18, i_19, i_20, i_21, i_22, i_23, i_24, i_25, i_26, i_27, i_28, i_29, i_30, i_31, i_32, i_33, i_34, i_35, i_36, i_37, i_38, i_39, i_40, i_41, i_42, i_43, i_44, i_45, i_48, i_49, i_57, i_59, i_60, i_61, i_62, i_64, i_97, i_110, i_122, i_123, i_125, i_126, i_127, i_160, i_255, i_300, i_400, h4, nx, k19, ma, lo]
        rfl
    unfold f_P_block at o
    rw [o]; exact kk
  · have ff : ∀ f, f ≠ 0 → qOpen 0 (tok + 1) sc L1 f = (qEmpL (kT t) a how tok (qOpen 0 (tok + 1) sc L1)) f := by
      intro f hf
      unfold qEmpL
      rw [if_neg c]
    have kk := key (wI M (b + 29) 4 (nI (tok + 1))) L1 (nI tok) ra rfl ff fr_at
    have o : f_P_block rc b (nI d) (nI r1) M = f_P_block_47 rc b (nI d) (nI r1) (nI tok) (wI M (b + 29) 4 (nI (tok + 1))) := by
      unfold f_P_block
      simp (disch := omega) only [↓reduceIte, nI_leT, nI_leF, nI_ltT, nI_ltF, nI_eqT, nI_eqF, xin_T, nI_clampT, nI_add, nI_inc, pk_subT, xb_some, xval, xlet, mI_s, mI_n, mI_k, mI_2, mJ_1, mJ_s, mJ_n, mJ_k, mJ_2, mT_1, mT_2, mT_s, mT_n, mT_k, mT_3, mR_1, mR_2, mR_3, bI_0, bI_1, bI_n0, bI_n1, Bool.true_eq_false, Bool.false_eq_true, eq_self, i_0, i_1, i_2, i_3, i_4, i_5, i_6, i_7, i_8, i_9, i_10, i_11, i_12, i_13, i_14, i_15, i_16, i_17, i_18, i_19, i_20, i_21, i_22, i_23, i_24, i_25, i_26, i_27, i_28, i_29, i_30, i_31, i_32, i_33, i_34, i_35, i_36, i_37, i_38, i_39, i_40, i_41, i_42, i_43, i_44, i_45, i_48, i_49, i_57, i_59, i_60, i_61, i_62, i_64, i_97, i_110, i_122, i_123, i_125, i_126, i_127, i_160, i_255, i_300, i_400, h4, nx, kl, c]
    unfold f_P_block at o
    rw [o]; exact kk
