/-! PURE: steps of the reference's grammar: STATEMENTS of each kind -/
/-- where a STATEMENT stands, as the reference has it -/
def nB (a : Nat) : Int32 := if a = 0 then -1 else nI (a - 1)
theorem nB_lt {a : Nat} (ha : a ≤ 100) : (nB a < 0) ↔ a = 0 := by
  unfold nB
  split
  · rename_i c; subst c; decide
  · rename_i c
    constructor
    · intro h; exact absurd h (nI_nlt (a := a - 1) (b := 0) (by omega) (by omega) : ¬ nI (a - 1) < nI 0)
    · intro h; exact absurd h c
theorem r_two {M : xMem} {b tok sc d1 d2 w1 w2 a1 a2 b1 b2 : Nat} {t : List Nat} {r : List qI} {L : qL} (h : nQ M b t r tok sc L) (hr : r.length ≤ 200) (k : xMem → Option (Unit × xMem)) : ∃ M', (xbind (f_N_push b (nI w1) (nI d1) (nA (w1, d1, a1, b1)) (nI b1) M) fun _ M => xbind (f_N_push b (nI w2) (nI d2) (nA (w2, d2, a2, b2)) (nI b2) M) fun _ M => k M) = k M' ∧ nQ M' b t ((w2, d2, a2, b2) :: (w1, d1, a1, b1) :: r) tok sc L ∧ rF (rGrS b) M M' ∧ M'.1 b 4 = M.1 b 4 ∧ M'.1 b 55 = M.1 b 55 := by
  have p1 := r_push (b := b) (w := w1) (d := d1) (a := nA (w1, d1, a1, b1)) (c := b1) h.2.2.1 (by omega)
  have q1 := h.push (w1, d1, a1, b1)
  have p2 := r_push (b := b) (w := w2) (d := d2) (a := nA (w2, d2, a2, b2)) (c := b2) q1.2.2.1 (by simp only [List.length_cons]; omega)
  refine ⟨_, ?_, q1.push (w2, d2, a2, b2), mPush_gr.trans mPush_gr, by rw [mPush_4, mPush_4], by rw [mPush_55, mPush_55]⟩
  rw [p1, xb_some]
  dsimp only at p2 ⊢
  rw [p2, xb_some]
theorem rs_121 {M : xMem} {b d a h tok sc v6 n : Nat} {t : List Nat} {r : List qI} {L : qL} (hq : nQ M b t r tok sc L) (h4 : M.1 b 4 = -1) (ht : tok ≤ nT t) (hr : r.length ≤ 190) (ha : a ≤ 100) (hh : h ≤ 3) (ok : qOk (kT t) (fun _ => tok) sc L) (h5 : (L 5).length < 64) (h22 : kT t tok ≠ 22) (hn : (L 15).length = n) (hn64 : n < 64) (hv : v6 ≤ 1) : nRes M b t (if v6 = 1 then qMapL (qA 15 (tok, 0, 0, 0, 0)) (qRestS (kT t) (wT' t) d a h r tok sc L) else qRestS (kT t) (wT' t) d a h r tok sc L) (f_N_statement_121 b (nI d) (nB a) (nI h) (nI (rk (kT t tok))) (nI (pS (pLex t) tok)) (nI v6) M) := by
  have hT := nT_le t
  have h7 := hq.2.1
  have h55 : M.1 b 55 = nI n := by have := hq.2.2.2.2.2.2.2.2.2.2.1.1; rw [this, hn]
  have kl := kT_lt t tok
  have rl := rk_lt _ kl
  have fin : ∀ {M' : xMem}, nRs M b t (qRestS (kT t) (wT' t) d a h r tok sc L) (some ((), M')) → nRes M b t (if v6 = 1 then qMapL (qA 15 (tok, 0, 0, 0, 0)) (qRestS (kT t) (wT' t) d a h r tok sc L) else qRestS (kT t) (wT' t) d a h r tok sc L) (f_N_statement_499 b (nI d) (nB a) (nI h) (nI (rk (kT t tok))) (nI (pS (pLex t) tok)) (nI v6) M') :=
    fun hs => rs_499 hs h55 hn64 (fun st tok' sc' L' e => by rw [rest_15 e]; exact hn) hv
  generalize hRR : (if v6 = 1 then qMapL (qA 15 (tok, 0, 0, 0, 0)) (qRestS (kT t) (wT' t) d a h r tok sc L) else qRestS (kT t) (wT' t) d a h r tok sc L) = RR at fin ⊢
  have l0 := ok_len0 ok
  have l18 : (L 18).length ≤ tok + 1 := by
    have := (ok.1 18).len (lo := 0) (fun x _ => Nat.zero_le _) (by omega); omega
  have l19 : (L 19).length ≤ tok + 1 := by
    have := (ok.1 19).len (lo := 0) (fun x _ => Nat.zero_le _) (by omega); omega
  have le0 := pS_lt t tok hq.1.1.2.1
  have le1 := pS_lt t (tok + 1) hq.1.1.2.1
  have rkne : ∀ k, k < 28 → kT t tok ≠ k → ¬ (nI (rk (kT t tok)) = nI (rk k)) := by
    intro k hk hne e
    have l2 := rk_lt k hk
    exact hne (rk_inj _ kl k hk ((nI_eq (by omega) (by omega)).mp e))
  unfold f_N_statement_121
  by_cases c2 : kT t tok ≤ 2
  · have hin : f_N_in (nI (rk (kT t tok))) 4 6 M = some (1, M) := by
      unfold f_N_in
      have e : rk (kT t tok) = kT t tok + 4 := by unfold rk; rw [if_pos (by omega)]
      rw [e]; simp (disch := omega) only [↓reduceIte, nI_leT, nI_leF, nI_ltT, nI_ltF, nI_eqT, nI_eqF, xin_T, nI_clampT, nI_add, nI_inc, pk_subT, xb_some, xval, xlet, mI_s, mI_n, mI_k, mI_2, mJ_1, mJ_s, mJ_n, mJ_k, mJ_2, mT_1, mT_2, mT_s, mT_n, mT_k, mT_3, mR_1, mR_2, mR_3, bI_0, bI_1, bI_n0, bI_n1, Bool.true_eq_false, Bool.false_eq_true, eq_self, i_0, i_1, i_2, i_3, i_4, i_5, i_6, i_7, i_8, i_9, i_10, i_11, i_12, i_13, i_14, i_15, i_16, i_17, i_18, i_19, i_20, i_21, i_22, i_23, i_24, i_25, i_26, i_27, i_28, i_29, i_30, i_31, i_32, i_33, i_34, i_35, i_36, i_37, i_38, i_39, i_40, i_41, i_42, i_43, i_44, i_45, i_48, i_49, i_57, i_59, i_60, i_61, i_62, i_64, i_97, i_110, i_122, i_123, i_125, i_126, i_127, i_160, i_255, i_300, i_400]
    have rs := rs_decl (d := d) hq h4 ht (by omega) ok rfl c2
    have eR : qRestS (kT t) (wT' t) d a h r tok sc L = qsVar (kT t) (wT' t) d (kT t tok) r tok sc L := by unfold qRestS; rw [if_pos c2]
    rw [← eR] at rs
    obtain ⟨M', o, rs'⟩ := rs.some
    rw [hin, xb_some, if_neg (by decide), o, xb_some]
    exact fin rs'
  have hin : f_N_in (nI (rk (kT t tok))) 4 6 M = some (0, M) := by
    unfold f_N_in
    by_cases c : rk (kT t tok) < 4
    · simp (disch := omega) only [↓reduceIte, nI_leT, nI_leF, nI_ltT, nI_ltF, nI_eqT, nI_eqF, xin_T, nI_clampT, nI_add, nI_inc, pk_subT, xb_some, xval, xlet, mI_s, mI_n, mI_k, mI_2, mJ_1, mJ_s, mJ_n, mJ_k, mJ_2, mT_1, mT_2, mT_s, mT_n, mT_k, mT_3, mR_1, mR_2, mR_3, bI_0, bI_1, bI_n0, bI_n1, Bool.true_eq_false, Bool.false_eq_true, eq_self, i_0, i_1, i_2, i_3, i_4, i_5, i_6, i_7, i_8, i_9, i_10, i_11, i_12, i_13, i_14, i_15, i_16, i_17, i_18, i_19, i_20, i_21, i_22, i_23, i_24, i_25, i_26, i_27, i_28, i_29, i_30, i_31, i_32, i_33, i_34, i_35, i_36, i_37, i_38, i_39, i_40, i_41, i_42, i_43, i_44, i_45, i_48, i_49, i_57, i_59, i_60, i_61, i_62, i_64, i_97, i_110, i_122, i_123, i_125, i_126, i_127, i_160, i_255, i_300, i_400]
    · have c6 : 6 < rk (kT t tok) := by
        have : ∀ k, k < 28 → ¬ k ≤ 2 → ¬ rk k < 4 → 6 < rk k := by decide
        exact this _ kl c2 c
      simp (disch := omega) only [↓reduceIte, nI_leT, nI_leF, nI_ltT, nI_ltF, nI_eqT, nI_eqF, xin_T, nI_clampT, nI_add, nI_inc, pk_subT, xb_some, xval, xlet, mI_s, mI_n, mI_k, mI_2, mJ_1, mJ_s, mJ_n, mJ_k, mJ_2, mT_1, mT_2, mT_s, mT_n, mT_k, mT_3, mR_1, mR_2, mR_3, bI_0, bI_1, bI_n0, bI_n1, Bool.true_eq_false, Bool.false_eq_true, eq_self, i_0, i_1, i_2, i_3, i_4, i_5, i_6, i_7, i_8, i_9, i_10, i_11, i_12, i_13, i_14, i_15, i_16, i_17, i_18, i_19, i_20, i_21, i_22, i_23, i_24, i_25, i_26, i_27, i_28, i_29, i_30, i_31, i_32, i_33, i_34, i_35, i_36, i_37, i_38, i_39, i_40, i_41, i_42, i_43, i_44, i_45, i_48, i_49, i_57, i_59, i_60, i_61, i_62, i_64, i_97, i_110, i_122, i_123, i_125, i_126, i_127, i_160, i_255, i_300, i_400]
  rw [hin, xb_some, if_pos rfl]
  by_cases c3 : kT t tok = 3
  · have rs := rs_fn (d := d) hq h4 ht (by omega) h5 ok c3
    have eR : qRestS (kT t) (wT' t) d a h r tok sc L = qsFn (kT t) (wT' t) d r tok sc L := by unfold qRestS; rw [if_neg c2, if_pos c3]
    rw [← eR] at rs
    obtain ⟨M', o, rs'⟩ := rs.some
    rw [if_pos (show nI (rk (kT t tok)) = 7 by rw [c3]; rfl), o, xb_some]
    exact fin rs'
  rw [if_neg (show ¬ nI (rk (kT t tok)) = 7 from rkne 3 (by omega) c3)]
  by_cases c18 : kT t tok = 18
  · rw [if_pos (show nI (rk (kT t tok)) = 22 by rw [c18]; rfl)]
    have t1 := g_T t tok ht (by omega)
    have eR : qRestS (kT t) (wT' t) d a h r tok sc L = qsBlk (kT t) d a h r tok sc L := by unfold qRestS; rw [if_neg c2, if_neg c3, if_pos c18]
    have q1 := hq.at (tok' := tok + 1)
    have en := r_enters (g := 0) q1 (by omega) (by omega)
    have q2 := nQ_open (fn := 0) (p := tok + 1) q1
    have b42 : (nOpen (wI M b 7 (nI (tok + 1))) b (L 0).length sc 0).1 b 4 = -1 := by rw [nOpen_4, mI_k (by decide)]; exact h4
    have b52 : (nOpen (wI M b 7 (nI (tok + 1))) b (L 0).length sc 0).1 b 55 = M.1 b 55 := by rw [nOpen_fr.2 _ _ (by unfold nOpenS; omega), mI_k (by decide)]
    have g2 : rF (rGrS b) M (nOpen (wI M b 7 (nI (tok + 1))) b (L 0).length sc 0) := gr_7.trans nOpen_gr
    show nRes _ _ _ _ (xbind (f_N_enters b (nI 0) (wI M b 7 (M.1 b 7 + 1))) _)
    rw [h7, show nI tok + 1 = nI (tok + 1) from nI_1 tok, en, xb_some]
    generalize hM2 : nOpen (wI M b 7 (nI (tok + 1))) b (L 0).length sc 0 = M2 at *
    /- behind the marks: OUT and the list -/
    have out : ∀ {M3 : xMem} {L3 : qL}, nQ M3 b t r (tok + 1) (L 0).length L3 → L3 = qEmpL (kT t) a h tok (qOpen 0 (tok + 1) sc L) → M3.1 b 4 = -1 → M3.1 b 55 = M.1 b 55 → rF (rGrS b) M M3 → nRes M b t RR (f_N_statement_250 b (nI d) (nB a) (nI h) (nI (rk (kT t tok))) (nI (pS (pLex t) tok)) (nI v6) M3) := by
      intro M3 L3 hq3 e3 h43 h53 g3
      have h53' : (L3 5).length < 64 := by rw [e3, q_emp_5, q_open_5]; exact h5
      obtain ⟨M', u1, u2, u3, u4, u5⟩ := r_out_lists (d := d) (q := tok + 1) hq3 (by omega) h53'
      obtain ⟨x, M4, v1, v2⟩ := xbind_some u1
      have o : f_N_statement_250 b (nI d) (nB a) (nI h) (nI (rk (kT t tok))) (nI (pS (pLex t) tok)) (nI v6) M3 = f_N_statement_499 b (nI d) (nB a) (nI h) (nI (rk (kT t tok))) (nI (pS (pLex t) tok)) (nI v6) M' := by
        unfold f_N_statement_250
        show xbind (f_N_push b (nI 9) (nI d) (nI 0) (nI 0) M3) _ = _
        rw [v1, xb_some, show nI d + 1 = nI (d + 1) from nI_1 d]
        show xbind (f_N_lists b (nI (d + 1)) (nI 23) M4) _ = _
        rw [v2, xb_some]
      rw [o]
      refine fin ?_
      rw [eR]
      unfold qsBlk qList
      rw [← e3]
      exact .inr rfl (g3.trans u3) (by rw [u5]; exact h53) u2 (by rw [u4]; exact h43)
    by_cases c19 : kT t (tok + 1) = 19
    · have is : f_N_is b 23 M2 = some (nI 1, M2) := r_isT (k := 19) q2.1 q2.2.1 t1 c19
      have t2 := g_T t (tok + 1) t1 (by omega)
      have e10 : M2.1 (b + 10) (tok + 1) = nI (pE (pLex t) (tok + 1)) := (q2.1.2.2.1 (tok + 1) (by omega)).2.2
      have h58 : M2.1 b 58 = nI (L 18).length := q2.2.2.2.2.2.2.2.2.2.2.2.2.2.1.1
      have h72 := q2.2.1
      have qe := fun g => nQ_nEmp (q := tok) (g := g) q2
      rw [is, xb_some, if_neg (by decide)]
      have go : ∀ g, g ≤ 1 → (g = if a ≠ 0 ∧ h < 2 then 1 else 0) → nRes M b t RR (f_N_statement_239 b (nI d) (nB a) (nI h) (nI (rk (kT t tok))) (nI (pS (pLex t) tok)) (nI v6) (nI (L 18).length) (nI g) (wI (wI M2 (b + 33) (L 18).length (nI (pS (pLex t) tok))) (b + 34) (L 18).length (nI (pE (pLex t) (tok + 1))))) := by
        intro g hg eg
        have o : f_N_statement_239 b (nI d) (nB a) (nI h) (nI (rk (kT t tok))) (nI (pS (pLex t) tok)) (nI v6) (nI (L 18).length) (nI g) (wI (wI M2 (b + 33) (L 18).length (nI (pS (pLex t) tok))) (b + 34) (L 18).length (nI (pE (pLex t) (tok + 1)))) = f_N_statement_250 b (nI d) (nB a) (nI h) (nI (rk (kT t tok))) (nI (pS (pLex t) tok)) (nI v6) (nEmp M2 b (L 18).length (pS (pLex t) tok) (pE (pLex t) (tok + 1)) g) := by
          unfold f_N_statement_239 nEmp
          have : g = 0 ∨ g = 1 := by omega
          rcases this with rfl | rfl
          · simp (disch := omega) only [↓reduceIte, nI_leT, nI_leF, nI_ltT, nI_ltF, nI_eqT, nI_eqF, xin_T, nI_clampT, nI_add, nI_inc, pk_subT, xb_some, xval, xlet, mI_s, mI_n, mI_k, mI_2, mJ_1, mJ_s, mJ_n, mJ_k, mJ_2, mT_1, mT_2, mT_s, mT_n, mT_k, mT_3, mR_1, mR_2, mR_3, bI_0, bI_1, bI_n0, bI_n1, Bool.true_eq_false, Bool.false_eq_true, eq_self, i_0, i_1, i_2, i_3, i_4, i_5, i_6, i_7, i_8, i_9, i_10, i_11, i_12, i_13, i_14, i_15, i_16, i_17, i_18, i_19, i_20, i_21, i_22, i_23, i_24, i_25, i_26, i_27, i_28, i_29, i_30, i_31, i_32, i_33, i_34, i_35, i_36, i_37, i_38, i_39, i_40, i_41, i_42, i_43, i_44, i_45, i_48, i_49, i_57, i_59, i_60, i_61, i_62, i_64, i_97, i_110, i_122, i_123, i_125, i_126, i_127, i_160, i_255, i_300, i_400, vp_narB0, h58]
          · simp (disch := omega) only [↓reduceIte, nI_leT, nI_leF, nI_ltT, nI_ltF, nI_eqT, nI_eqF, xin_T, nI_clampT, nI_add, nI_inc, pk_subT, xb_some, xval, xlet, mI_s, mI_n, mI_k, mI_2, mJ_1, mJ_s, mJ_n, mJ_k, mJ_2, mT_1, mT_2, mT_s, mT_n, mT_k, mT_3, mR_1, mR_2, mR_3, bI_0, bI_1, bI_n0, bI_n1, Bool.true_eq_false, Bool.false_eq_true, eq_self, i_0, i_1, i_2, i_3, i_4, i_5, i_6, i_7, i_8, i_9, i_10, i_11, i_12, i_13, i_14, i_15, i_16, i_17, i_18, i_19, i_20, i_21, i_22, i_23, i_24, i_25, i_26, i_27, i_28, i_29, i_30, i_31, i_32, i_33, i_34, i_35, i_36, i_37, i_38, i_39, i_40, i_41, i_42, i_43, i_44, i_45, i_48, i_49, i_57, i_59, i_60, i_61, i_62, i_64, i_97, i_110, i_122, i_123, i_125, i_126, i_127, i_160, i_255, i_300, i_400, vp_narB1, h58]
        rw [o]
        refine out (qe g) ?_ (by rw [nEmp_4]; exact b42) (by rw [nEmp_fr.2 _ _ (by unfold nEmpS; omega)]; exact b52) (g2.trans nEmp_gr)
        unfold qEmpL
        rw [if_pos c19, ← eg]
      show nRes _ _ _ _ (if xin (M2.1 b 58) 64 = true then xlet (wI M2 (b + 33) (M2.1 b 58).toNatClampNeg (nI (pS (pLex t) tok))) _ else none)
      rw [h58, if_pos (xin_T (by omega) (by omega)), nI_clampT (by omega)]
      have e7 : (wI M2 (b + 33) (L 18).length (nI (pS (pLex t) tok))).1 b 7 = nI (tok + 1) := by rw [mI_n (by omega)]; exact h72
      have e58 : (wI M2 (b + 33) (L 18).length (nI (pS (pLex t) tok))).1 b 58 = nI (L 18).length := by rw [mI_n (by omega)]; exact h58
      have e10' : (wI M2 (b + 33) (L 18).length (nI (pS (pLex t) tok))).1 (b + 10) (tok + 1) = nI (pE (pLex t) (tok + 1)) := by rw [mI_n (by omega)]; exact e10
      have e58' : (wI (wI M2 (b + 33) (L 18).length (nI (pS (pLex t) tok))) (b + 34) (L 18).length (nI (pE (pLex t) (tok + 1)))).1 b 58 = nI (L 18).length := by rw [mI_n (by omega)]; exact e58
      show nRes _ _ _ _ (if xin ((wI M2 (b + 33) (L 18).length (nI (pS (pLex t) tok))).1 b 7) 64 = true then xval ((wI M2 (b + 33) (L 18).length (nI (pS (pLex t) tok))).1 (b + 10) ((wI M2 (b + 33) (L 18).length (nI (pS (pLex t) tok))).1 b 7).toNatClampNeg) _ else none)
      rw [e7, if_pos (xin_T (by omega) (by omega)), nI_clampT (by omega), e10']
      show nRes _ _ _ _ (if xin ((wI M2 (b + 33) (L 18).length (nI (pS (pLex t) tok))).1 b 58) 64 = true then xlet (wI (wI M2 (b + 33) (L 18).length (nI (pS (pLex t) tok))) (b + 34) ((wI M2 (b + 33) (L 18).length (nI (pS (pLex t) tok))).1 b 58).toNatClampNeg (nI (pE (pLex t) (tok + 1)))) _ else none)
      rw [e58, if_pos (xin_T (by omega) (by omega)), nI_clampT (by omega)]
      show nRes _ _ _ _ (if nB a < 0 then f_N_statement_238 b (nI d) (nB a) (nI h) (nI (rk (kT t tok))) (nI (pS (pLex t) tok)) (nI v6) ((wI (wI M2 (b + 33) (L 18).length (nI (pS (pLex t) tok))) (b + 34) (L 18).length (nI (pE (pLex t) (tok + 1)))).1 b 58) (wI (wI M2 (b + 33) (L 18).length (nI (pS (pLex t) tok))) (b + 34) (L 18).length (nI (pE (pLex t) (tok + 1)))) else (if 2 ≤ nI h then f_N_statement_238 b (nI d) (nB a) (nI h) (nI (rk (kT t tok))) (nI (pS (pLex t) tok)) (nI v6) ((wI (wI M2 (b + 33) (L 18).length (nI (pS (pLex t) tok))) (b + 34) (L 18).length (nI (pE (pLex t) (tok + 1)))).1 b 58) (wI (wI M2 (b + 33) (L 18).length (nI (pS (pLex t) tok))) (b + 34) (L 18).length (nI (pE (pLex t) (tok + 1)))) else f_N_statement_239 b (nI d) (nB a) (nI h) (nI (rk (kT t tok))) (nI (pS (pLex t) tok)) (nI v6) ((wI (wI M2 (b + 33) (L 18).length (nI (pS (pLex t) tok))) (b + 34) (L 18).length (nI (pE (pLex t) (tok + 1)))).1 b 58) (nI 1) (wI (wI M2 (b + 33) (L 18).length (nI (pS (pLex t) tok))) (b + 34) (L 18).length (nI (pE (pLex t) (tok + 1))))))
      rw [e58']
      by_cases ca : a = 0
      · rw [if_pos ((nB_lt ha).mpr ca)]
        exact go 0 (by omega) (by rw [if_neg (by omega)])
      · rw [if_neg (fun e => ca ((nB_lt ha).mp e))]
        by_cases ch : 2 ≤ h
        · rw [if_pos (show 2 ≤ nI h from (nI_le (a := 2) ch (by omega) : nI 2 ≤ nI h))]
          exact go 0 (by omega) (by rw [if_neg (by omega)])
        · rw [if_neg (show ¬ 2 ≤ nI h from (nI_ge (a := h) (b := 2) (by omega) (by omega) : ¬ nI 2 ≤ nI h))]
          exact go 1 (by omega) (by rw [if_pos ⟨ca, by omega⟩])
    · have is : f_N_is b 23 M2 = some (nI 0, M2) := r_isF (k := 19) q2.1 q2.2.1 t1 (by omega) c19
      rw [is, xb_some, if_pos (show nI 0 = 0 from rfl)]
      refine out q2 ?_ b42 b52 g2
      unfold qEmpL
      rw [if_neg c19]
  rw [if_neg (show ¬ nI (rk (kT t tok)) = 22 from rkne 18 (by omega) c18)]
  have v499 : ∀ {M3 : xMem} {st : List qI} {tk3 : Nat}, nQ M3 b t st tk3 sc L → M3.1 b 4 = -1 → M3.1 b 55 = M.1 b 55 → rF (rGrS b) M M3 → qRestS (kT t) (wT' t) d a h r tok sc L = .inr (st, tk3, sc, L) → nRes M b t RR (f_N_statement_499 b (nI d) (nB a) (nI h) (nI (rk (kT t tok))) (nI (pS (pLex t) tok)) (nI v6) M3) := by
    intro M3 st tk3 hq3 h43 h53 g3 e
    refine fin ?_
    rw [e]
    exact .inr rfl g3 h53 hq3 h43
  have b499 : ∀ {M3 : xMem} {e : Nat}, M3.1 b 4 = nI (pS (pLex t) e) → M3.1 b 55 = M.1 b 55 → rF (rGrS b) M M3 → qRestS (kT t) (wT' t) d a h r tok sc L = .inl e → nRes M b t RR (f_N_statement_499 b (nI d) (nB a) (nI h) (nI (rk (kT t tok))) (nI (pS (pLex t) tok)) (nI v6) M3) := by
    intro M3 e h43 h53 g3 e'
    refine fin ?_
    rw [e']
    exact .inl rfl g3 h53 h43
  by_cases c46 : kT t tok = 4 ∨ kT t tok = 6
  · have t1 := g_T t tok ht (by omega)
    have eR : qRestS (kT t) (wT' t) d a h r tok sc L = qsIf (kT t) d (kT t tok) r tok sc L := by unfold qRestS; rw [if_neg c2, if_neg c3, if_neg c18, if_pos c46]
    have q1 := hq.at (tok' := tok + 1)
    have b41 : (wI M b 7 (nI (tok + 1))).1 b 4 = -1 := by rw [mI_k (by decide)]; exact h4
    have o : (if nI (rk (kT t tok)) = 8 then (f_N_statement_285 b (nI d) (nB a) (nI h) (nI (rk (kT t tok))) (nI (pS (pLex t) tok)) (nI v6) M) else (if nI (rk (kT t tok)) = 10 then (f_N_statement_285 b (nI d) (nB a) (nI h) (nI (rk (kT t tok))) (nI (pS (pLex t) tok)) (nI v6) M) else none)) = f_N_statement_285 b (nI d) (nB a) (nI h) (nI (rk (kT t tok))) (nI (pS (pLex t) tok)) (nI v6) M := by
      rcases c46 with c | c
      · rw [if_pos (show nI (rk (kT t tok)) = 8 by rw [c]; rfl)]
      · rw [if_neg (show ¬ nI (rk (kT t tok)) = 8 from rkne 4 (by omega) (by omega)), if_pos (show nI (rk (kT t tok)) = 10 by rw [c]; rfl)]
    /- what 285 does behind takes -/
    have go : ∀ {M2 : xMem} {tk2 : Nat}, nQ M2 b t r tk2 sc L → ∃ M', (if nI (rk (kT t tok)) = 8 then (xbind (f_N_push b 3 (nI d) 0 0 M2) fun r75 M => f_N_statement_316 b (nI d) (nB a) (nI h) (nI (rk (kT t tok))) (nI (pS (pLex t) tok)) (nI v6) M) else (f_N_statement_316 b (nI d) (nB a) (nI h) (nI (rk (kT t tok))) (nI (pS (pLex t) tok)) (nI v6) M2)) = f_N_statement_499 b (nI d) (nB a) (nI h) (nI (rk (kT t tok))) (nI (pS (pLex t) tok)) (nI v6) M' ∧ nQ M' b t ((5, d, 0, 0) :: (4, d, 17, 0) :: (2, d + 1, 0, 1) :: (if kT t tok = 4 then (3, d, 0, 0) :: r else r)) tk2 sc L ∧ rF (rGrS b) M2 M' ∧ M'.1 b 4 = M2.1 b 4 ∧ M'.1 b 55 = M2.1 b 55 := by
      intro M2 tk2 hq2
      have three : ∀ {M3 : xMem} {r3 : List qI}, nQ M3 b t r3 tk2 sc L → r3.length ≤ 195 → ∃ M', f_N_statement_316 b (nI d) (nB a) (nI h) (nI (rk (kT t tok))) (nI (pS (pLex t) tok)) (nI v6) M3 = f_N_statement_499 b (nI d) (nB a) (nI h) (nI (rk (kT t tok))) (nI (pS (pLex t) tok)) (nI v6) M' ∧ nQ M' b t ((5, d, 0, 0) :: (4, d, 17, 0) :: (2, d + 1, 0, 1) :: r3) tk2 sc L ∧ rF (rGrS b) M3 M' ∧ M'.1 b 4 = M3.1 b 4 ∧ M'.1 b 55 = M3.1 b 55 := by
        intro M3 r3 hq3 hl3
        have p1 := r_push (b := b) (w := 2) (d := d + 1) (a := nA (2, d + 1, 0, 1)) (c := 1) hq3.2.2.1 (by omega)
        have q3 := hq3.push (2, d + 1, 0, 1)
        obtain ⟨M', u1, u2, u3, u4, u5⟩ := r_two (w1 := 4) (d1 := d) (a1 := 17) (b1 := 0) (w2 := 5) (d2 := d) (a2 := 0) (b2 := 0) q3 (by simp only [List.length_cons]; omega) (fun M => f_N_statement_499 b (nI d) (nB a) (nI h) (nI (rk (kT t tok))) (nI (pS (pLex t) tok)) (nI v6) M)
        refine ⟨M', ?_, u2, mPush_gr.trans u3, by rw [u4, mPush_4], by rw [u5, mPush_55]⟩
        rw [← u1]
        unfold f_N_statement_316
        rw [show nI d + 1 = nI (d + 1) from nI_1 d]
        show xbind (f_N_push b (nI 2) (nI (d + 1)) (nA (2, d + 1, 0, 1)) (nI 1) M3) _ = _
        rw [p1, xb_some]
        rfl
      by_cases c : kT t tok = 4
      · rw [if_pos c, if_pos (show nI (rk (kT t tok)) = 8 by rw [c]; rfl)]
        have p0 := r_push (b := b) (w := 3) (d := d) (a := nI 0) (c := 0) hq2.2.2.1 (by omega)
        have q3 := hq2.push (3, d, 0, 0)
        obtain ⟨M', u1, u2, u3, u4, u5⟩ := three q3 (by simp only [List.length_cons]; omega)
        refine ⟨M', ?_, u2, mPush_gr.trans u3, by rw [u4, mPush_4], by rw [u5, mPush_55]⟩
        show xbind (f_N_push b (nI 3) (nI d) (nI 0) (nI 0) M2) _ = _
        rw [p0, xb_some]
        exact u1
      · rw [if_neg c, if_neg (show ¬ nI (rk (kT t tok)) = 8 from rkne 4 (by omega) c)]
        exact three hq2 (by omega)
    have o' : nRes M b t RR (f_N_statement_285 b (nI d) (nB a) (nI h) (nI (rk (kT t tok))) (nI (pS (pLex t) tok)) (nI v6) M) := by
      unfold f_N_statement_285
      rw [h7, show nI tok + 1 = nI (tok + 1) from nI_1 tok]
      show nRes M b t RR (xbind (f_N_takes b (nI 20) (wI M b 7 (nI (tok + 1)))) _)
      by_cases c16 : kT t (tok + 1) = 16
      · have tk : f_N_takes b (nI 20) (wI M b 7 (nI (tok + 1))) = some ((), wI (wI M b 7 (nI (tok + 1))) b 7 (nI (tok + 2))) := r_takesT (k := 16) q1.1 q1.2.1 b41 t1 c16
        have q2 := q1.at (tok' := tok + 2)
        obtain ⟨M', u1, u2, u3, u4, u5⟩ := go q2
        rw [tk, xb_some, u1]
        refine v499 u2 (by rw [u4, mI_k (by decide)]; exact b41) (by rw [u5, mI_k (by decide), mI_k (by decide)]) ((gr_7.trans gr_7).trans u3) ?_
        rw [eR]; unfold qsIf; rw [if_neg (fun e => e c16)]
      · have tk : f_N_takes b (nI 20) (wI M b 7 (nI (tok + 1))) = some ((), wI (wI M b 7 (nI (tok + 1))) b 4 (nI (pS (pLex t) (tok + 1)))) := r_takesF (k := 16) q1.1 q1.2.1 b41 t1 (by omega) c16
        have q2 := q1.bad (v := nI (pS (pLex t) (tok + 1)))
        obtain ⟨M', u1, u2, u3, u4, u5⟩ := go q2
        rw [tk, xb_some, u1]
        refine b499 (e := tok + 1) (by rw [u4]; simp (disch := omega) only [↓reduceIte, nI_leT, nI_leF, nI_ltT, nI_ltF, nI_eqT, nI_eqF, xin_T, nI_clampT, nI_add, nI_inc, pk_subT, xb_some, xval, xlet, mI_s, mI_n, mI_k, mI_2, mJ_1, mJ_s, mJ_n, mJ_k, mJ_2, mT_1, mT_2, mT_s, mT_n, mT_k, mT_3, mR_1, mR_2, mR_3, bI_0, bI_1, bI_n0, bI_n1, Bool.true_eq_false, Bool.false_eq_true, eq_self, i_0, i_1, i_2, i_3, i_4, i_5, i_6, i_7, i_8, i_9, i_10, i_11, i_12, i_13, i_14, i_15, i_16, i_17, i_18, i_19, i_20, i_21, i_22, i_23, i_24, i_25, i_26, i_27, i_28, i_29, i_30, i_31, i_32, i_33, i_34, i_35, i_36, i_37, i_38, i_39, i_40, i_41, i_42, i_43, i_44, i_45, i_48, i_49, i_57, i_59, i_60, i_61, i_62, i_64, i_97, i_110, i_122, i_123, i_125, i_126, i_127, i_160, i_255, i_300, i_400]) (by rw [u5, mI_k (by decide), mI_k (by decide)]) ((gr_7.trans gr_4).trans u3) ?_
        rw [eR]; unfold qsIf; rw [if_pos c16]
    rcases c46 with c | c
    · rw [if_pos (show nI (rk (kT t tok)) = 8 by rw [c]; rfl)]; exact o'
    · rw [if_neg (show ¬ nI (rk (kT t tok)) = 8 from rkne 4 (by omega) (by omega)), if_pos (show nI (rk (kT t tok)) = 10 by rw [c]; rfl)]; exact o'
  rw [if_neg (show ¬ nI (rk (kT t tok)) = 8 from rkne 4 (by omega) (by omega)), if_neg (show ¬ nI (rk (kT t tok)) = 10 from rkne 6 (by omega) (by omega))]
  have two : ∀ {M2 : xMem} {tk2 : Nat}, nQ M2 b t r tk2 sc L → ∃ M', (xbind (f_N_push b 4 (nI d) 24 0 M2) fun _ M => xbind (f_N_push b 5 (nI d) 0 0 M) fun _ M => f_N_statement_499 b (nI d) (nB a) (nI h) (nI (rk (kT t tok))) (nI (pS (pLex t) tok)) (nI v6) M) = f_N_statement_499 b (nI d) (nB a) (nI h) (nI (rk (kT t tok))) (nI (pS (pLex t) tok)) (nI v6) M' ∧ nQ M' b t ((5, d, 0, 0) :: (4, d, 20, 0) :: r) tk2 sc L ∧ rF (rGrS b) M2 M' ∧ M'.1 b 4 = M2.1 b 4 ∧ M'.1 b 55 = M2.1 b 55 := fun hq2 => r_two (w1 := 4) (d1 := d) (a1 := 20) (b1 := 0) (w2 := 5) (d2 := d) (a2 := 0) (b2 := 0) hq2 (by omega) (fun M => f_N_statement_499 b (nI d) (nB a) (nI h) (nI (rk (kT t tok))) (nI (pS (pLex t) tok)) (nI v6) M)
  by_cases c7 : kT t tok = 7
  · rw [if_pos (show nI (rk (kT t tok)) = 11 by rw [c7]; rfl)]
    have t1 := g_T t tok ht (by omega)
    have eR : qRestS (kT t) (wT' t) d a h r tok sc L = qsRet (kT t) d r tok sc L := by unfold qRestS; rw [if_neg c2, if_neg c3, if_neg c18, if_neg c46, if_pos c7]
    have fa := r_fnAround hq.2.2.2.2.2.1 ok.2.2.1 (by omega) ok.2.1
    have hm := ok_home ok
    have hm' : (qg (L 0) sc).2.2.1 < (L 0).length := hm
    show nRes M b t RR (xbind (f_N_fnAround b (M.1 b 28) M) _)
    rw [hq.2.2.2.2.1, fa, xb_some]
    by_cases ch : qHome L sc = 0
    · have ch' : (qg (L 0) sc).2.2.1 = 0 := ch
      rw [ch', if_pos (show nI 0 = 0 from rfl)]
      unfold f_N_statement_370 f_N_statement_412
      have wr := r_wrongs1 hq.1 h7 h4 ht
      show nRes M b t RR (xbind (f_N_wrongs b (nI 1) M) _)
      rw [wr, xb_some]
      have q1 := hq.bad (v := nI (pS (pLex t) tok))
      have q2 := q1.at (tok' := tok + 1)
      show nRes M b t RR (if 0 ≤ (wI (wI M b 4 (nI (pS (pLex t) tok))) b 7 ((wI M b 4 (nI (pS (pLex t) tok))).1 b 7 + 1)).1 b 4 then _ else _)
      rw [q1.2.1, show nI tok + 1 = nI (tok + 1) from nI_1 tok, if_pos (show 0 ≤ (wI (wI M b 4 (nI (pS (pLex t) tok))) b 7 (nI (tok + 1))).1 b 4 by rw [mI_k (by decide), mI_s rfl rfl]; exact nI_le (Nat.zero_le _) (by omega))]
      obtain ⟨M', u1, u2, u3, u4, u5⟩ := two q2
      rw [u1]
      refine b499 (e := tok) (by rw [u4, mI_k (by decide), mI_s rfl rfl]) (by rw [u5, mI_k (by decide), mI_k (by decide)]) ((gr_4.trans gr_7).trans u3) ?_
      rw [eR]; unfold qsRet; rw [if_pos ch]
    · rw [if_neg (show ¬ nI (qg (L 0) sc).2.2.1 = 0 from fun e => ch ((nI_eq (a := (qg (L 0) sc).2.2.1) (b := 0) (by omega) (by omega)).mp e))]
      unfold f_N_statement_370 f_N_statement_412
      show nRes M b t RR (xbind (f_N_wrongs b (nI 0) M) _)
      rw [r_wrongs0, xb_some]
      have q2 := hq.at (tok' := tok + 1)
      have b42 : (wI M b 7 (nI (tok + 1))).1 b 4 = -1 := by rw [mI_k (by decide)]; exact h4
      show nRes M b t RR (if 0 ≤ (wI M b 7 (M.1 b 7 + 1)).1 b 4 then _ else _)
      rw [h7, show nI tok + 1 = nI (tok + 1) from nI_1 tok, if_neg (show ¬ 0 ≤ (wI M b 7 (nI (tok + 1))).1 b 4 by rw [b42]; decide)]
      by_cases c20 : kT t (tok + 1) = 20
      · have is : f_N_is b 24 (wI M b 7 (nI (tok + 1))) = some (nI 1, _) := r_isT (k := 20) q2.1 q2.2.1 t1 c20
        rw [is, xb_some, if_neg (by decide)]
        show nRes M b t RR (f_N_statement_499 b (nI d) (nB a) (nI h) (nI (rk (kT t tok))) (nI (pS (pLex t) tok)) (nI v6) (wI (wI M b 7 (nI (tok + 1))) b 7 ((wI M b 7 (nI (tok + 1))).1 b 7 + 1)))
        rw [q2.2.1, show nI (tok + 1) + 1 = nI (tok + 2) from nI_1 (tok + 1)]
        refine v499 q2.at (by rw [mI_k (by decide)]; exact b42) (by rw [mI_k (by decide), mI_k (by decide)]) (gr_7.trans gr_7) ?_
        rw [eR]; unfold qsRet; rw [if_neg ch, if_pos c20]
      · have is : f_N_is b 24 (wI M b 7 (nI (tok + 1))) = some (nI 0, _) := r_isF (k := 20) q2.1 q2.2.1 t1 (by omega) c20
        rw [is, xb_some, if_pos (show nI 0 = 0 from rfl)]
        obtain ⟨M', u1, u2, u3, u4, u5⟩ := two q2
        rw [u1]
        refine v499 u2 (by rw [u4]; exact b42) (by rw [u5, mI_k (by decide)]) (gr_7.trans u3) ?_
        rw [eR]; unfold qsRet; rw [if_neg ch, if_neg c20]
  rw [if_neg (show ¬ nI (rk (kT t tok)) = 11 from rkne 7 (by omega) c7)]
  by_cases c20 : kT t tok = 20
  · rw [if_pos (show nI (rk (kT t tok)) = 24 by rw [c20]; rfl)]
    have eR : qRestS (kT t) (wT' t) d a h r tok sc L = .inr (r, tok + 1, sc, qSpaL a h tok L) := by unfold qRestS; rw [if_neg c2, if_neg c3, if_neg c18, if_neg c46, if_neg c7, if_pos c20]
    have plain : ¬ (a ≠ 0 ∧ h < 2) → nRes M b t RR (f_N_statement_469 b (nI d) (nB a) (nI h) (nI (rk (kT t tok))) (nI (pS (pLex t) tok)) (nI v6) M) := by
      intro hs
      unfold f_N_statement_469
      show nRes M b t RR (f_N_statement_499 b (nI d) (nB a) (nI h) (nI (rk (kT t tok))) (nI (pS (pLex t) tok)) (nI v6) (wI M b 7 (M.1 b 7 + 1)))
      rw [h7, show nI tok + 1 = nI (tok + 1) from nI_1 tok]
      refine v499 hq.at (by rw [mI_k (by decide)]; exact h4) (by rw [mI_k (by decide)]) gr_7 ?_
      rw [eR]; unfold qSpaL; rw [if_neg hs]
    by_cases ca : a = 0
    · rw [if_pos ((nB_lt ha).mpr ca)]
      exact plain (by omega)
    · rw [if_neg (fun e => ca ((nB_lt ha).mp e))]
      by_cases chh : 2 ≤ h
      · rw [if_pos (show 2 ≤ nI h from (nI_le (a := 2) chh (by omega) : nI 2 ≤ nI h))]
        exact plain (by omega)
      · rw [if_neg (show ¬ 2 ≤ nI h from (nI_ge (a := h) (b := 2) (by omega) (by omega) : ¬ nI 2 ≤ nI h))]
        have h59 : M.1 b 59 = nI (L 19).length := hq.2.2.2.2.2.2.2.2.2.2.2.2.2.2.1.1
        have q1 := nQ_nSpare (q := tok) hq
        have h71 : (nSpare M b (L 19).length (pS (pLex t) tok)).1 b 7 = nI tok := q1.2.1
        have o : (xval (M.1 b 59) fun x105 => if xin x105 64 = true then xlet (wI M (b + 35) x105.toNatClampNeg (nI (pS (pLex t) tok))) fun M => xval ((M.1 b 59) + 1) fun x107 => xlet (wI M b 59 x107) fun M => f_N_statement_469 b (nI d) (nB a) (nI h) (nI (rk (kT t tok))) (nI (pS (pLex t) tok)) (nI v6) M else none) = f_N_statement_469 b (nI d) (nB a) (nI h) (nI (rk (kT t tok))) (nI (pS (pLex t) tok)) (nI v6) (nSpare M b (L 19).length (pS (pLex t) tok)) := by
          unfold nSpare
          simp (disch := omega) only [↓reduceIte, nI_leT, nI_leF, nI_ltT, nI_ltF, nI_eqT, nI_eqF, xin_T, nI_clampT, nI_add, nI_inc, pk_subT, xb_some, xval, xlet, mI_s, mI_n, mI_k, mI_2, mJ_1, mJ_s, mJ_n, mJ_k, mJ_2, mT_1, mT_2, mT_s, mT_n, mT_k, mT_3, mR_1, mR_2, mR_3, bI_0, bI_1, bI_n0, bI_n1, Bool.true_eq_false, Bool.false_eq_true, eq_self, i_0, i_1, i_2, i_3, i_4, i_5, i_6, i_7, i_8, i_9, i_10, i_11, i_12, i_13, i_14, i_15, i_16, i_17, i_18, i_19, i_20, i_21, i_22, i_23, i_24, i_25, i_26, i_27, i_28, i_29, i_30, i_31, i_32, i_33, i_34, i_35, i_36, i_37, i_38, i_39, i_40, i_41, i_42, i_43, i_44, i_45, i_48, i_49, i_57, i_59, i_60, i_61, i_62, i_64, i_97, i_110, i_122, i_123, i_125, i_126, i_127, i_160, i_255, i_300, i_400, h59]
        rw [o]
        unfold f_N_statement_469
        show nRes M b t RR (f_N_statement_499 b (nI d) (nB a) (nI h) (nI (rk (kT t tok))) (nI (pS (pLex t) tok)) (nI v6) (wI (nSpare M b (L 19).length (pS (pLex t) tok)) b 7 ((nSpare M b (L 19).length (pS (pLex t) tok)).1 b 7 + 1)))
        rw [h71, show nI tok + 1 = nI (tok + 1) from nI_1 tok]
        refine fin ?_
        rw [eR]
        have e : qSpaL a h tok L = qA 19 (tok, 0, 0, 0, 0) L := by unfold qSpaL; rw [if_pos ⟨ca, by omega⟩]
        rw [e]
        exact .inr rfl (nSpare_gr.trans gr_7) (by rw [mI_k (by decide), nSpare_fr.2 _ _ (by unfold nSpareS; omega)]) q1.at (by rw [mI_k (by decide), nSpare_4]; exact h4)
  rw [if_neg (show ¬ nI (rk (kT t tok)) = 24 from rkne 20 (by omega) c20)]
  obtain ⟨M', u1, u2, u3, u4, u5⟩ := two hq
  rw [u1]
  refine v499 u2 (by rw [u4]; exact h4) u5 u3 ?_
  unfold qRestS; rw [if_neg c2, if_neg c3, if_neg c18, if_neg c46, if_neg c7, if_neg c20]
