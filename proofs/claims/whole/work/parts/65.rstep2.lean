/-! PURE: steps of the reference's grammar: declarations -/
/-- as nRes, and the list of the dead is left alone -/
def nRs (M0 : xMem) (b : Nat) (t : List Nat) (r : Nat ⊕ qC) (o : Option (Unit × xMem)) : Prop := ∃ M', o = some ((), M') ∧ rF (rGrS b) M0 M' ∧ M'.1 b 55 = M0.1 b 55 ∧ (∀ e, r = .inl e → M'.1 b 4 = nI (pS (pLex t) e)) ∧ (∀ st tok sc L, r = .inr (st, tok, sc, L) → nQ M' b t st tok sc L ∧ M'.1 b 4 = -1)
theorem nRs.inl {M0 M' : xMem} {b e : Nat} {t : List Nat} {o : Option (Unit × xMem)} (h : o = some ((), M')) (f : rF (rGrS b) M0 M') (h5 : M'.1 b 55 = M0.1 b 55) (h4 : M'.1 b 4 = nI (pS (pLex t) e)) : nRs M0 b t (.inl e) o :=
  ⟨M', h, f, h5, fun _ h => by cases h; exact h4, fun _ _ _ _ h => by cases h⟩
theorem nRs.inr {M0 M' : xMem} {b tok sc : Nat} {t : List Nat} {st : List qI} {L : qL} {o : Option (Unit × xMem)} (h : o = some ((), M')) (f : rF (rGrS b) M0 M') (h5 : M'.1 b 55 = M0.1 b 55) (hq : nQ M' b t st tok sc L) (h4 : M'.1 b 4 = -1) : nRs M0 b t (.inr (st, tok, sc, L)) o :=
  ⟨M', h, f, h5, fun _ h => (by cases h), fun _ _ _ _ h => by cases h; exact ⟨hq, h4⟩⟩
theorem mPush_55 {M : xMem} {b h w d c : Nat} {a : Int32} : (mPush M b h w d a c).1 b 55 = M.1 b 55 := mPush_fr.2 _ _ (by unfold rStS; omega)
theorem r_declares' {M : xMem} {b tok sc p k : Nat} {t : List Nat} {r : List qI} {L : qL} {m : Nat → Nat} (h : nQ M b t r tok sc L) (ok : qOk (kT t) m sc L) (hm0 : m 0 ≤ 62) (hm1 : m 1 ≤ 62) (hm14 : m 14 ≤ 61) (hk : kT t p = 23) (hk4 : k ≤ 4) : ∃ M', f_N_declares b (nI p) (nI k) M = some (nI (qDecT (wT' t) p k sc L), M') ∧ nQ M' b t r tok sc (qDecL (wT' t) p k sc L) ∧ rF (rGrS b) M M' ∧ M'.1 b 4 = M.1 b 4 ∧ M'.1 b 55 = M.1 b 55 := by
  obtain ⟨M', e1, e2, e3, e4⟩ := r_declares h ok hm0 hm1 hm14 hk hk4
  refine ⟨M', e1, e2, e3, e4, ?_⟩
  have a := e2.2.2.2.2.2.2.2.2.2.2.1.1
  have a' := h.2.2.2.2.2.2.2.2.2.2.1.1
  rw [a, a', q_dec_at (by decide) (by decide)]
theorem rs_decl {M : xMem} {b d tok sc k : Nat} {t : List Nat} {r : List qI} {L : qL} (h : nQ M b t r tok sc L) (h4 : M.1 b 4 = -1) (ht : tok ≤ nT t) (hr : r.length ≤ 200) (ok : qOk (kT t) (fun _ => tok) sc L) (hk : kT t tok = k) (hk2 : k ≤ 2) : nRs M b t (qsVar (kT t) (wT' t) d k r tok sc L) (f_N_declaration b (nI d) (nI (rk k)) M) := by
  have hT := nT_le t
  have h7 := h.2.1
  have t1 := g_T t tok ht (by omega)
  have fr := (r_kind h.1 ht).2
  have q1 := h.at (tok' := tok + 1)
  have b4 : (wI M b 7 (nI (tok + 1))).1 b 4 = -1 := by rw [mI_k (by decide)]; exact h4
  have rkk : rk k = k + 4 := by unfold rk; rw [if_pos (by omega)]
  have le1 := pS_lt t (tok + 1) h.1.1.2.1
  have le2 := pS_lt t (tok + 2) h.1.1.2.1
  have n1 : (-nI 1 < nI 0) = True := by decide
  have h4' : M.1 b 4 = -nI 1 := h4
  unfold qsVar
  by_cases cN : kT t (tok + 1) = 23
  · rw [if_neg (fun e => e cN)]
    have tk : f_N_takes b (nI 1) (wI M b 7 (nI (tok + 1))) = some ((), wI (wI M b 7 (nI (tok + 1))) b 7 (nI (tok + 2))) := r_takesT (k := 23) q1.1 q1.2.1 b4 t1 cN
    have t2 := g_T t (tok + 1) t1 (by omega)
    have q2 := q1.at (tok' := tok + 2)
    have b4' : (wI (wI M b 7 (nI (tok + 1))) b 7 (nI (tok + 2))).1 b 4 = -1 := by rw [mI_k (by decide)]; exact b4
    obtain ⟨M2, d1, d2, d3, d4, d5⟩ := r_declares' (p := tok + 1) (k := k) q2 ok (by omega) (by omega) (by omega) cN (by omega)
    have m4 : M2.1 b 4 = -1 := by rw [d4]; exact b4'
    have m4' : M2.1 b 4 = -nI 1 := m4
    have m5 : M2.1 b 55 = M.1 b 55 := by rw [d5]; simp (disch := omega) only [↓reduceIte, nI_leT, nI_leF, nI_ltT, nI_ltF, nI_eqT, nI_eqF, xin_T, nI_clampT, nI_add, nI_inc, pk_subT, xb_some, xval, xlet, mI_s, mI_n, mI_k, mI_2, mJ_1, mJ_s, mJ_n, mJ_k, mJ_2, mT_1, mT_2, mT_s, mT_n, mT_k, mT_3, mR_1, mR_2, mR_3, bI_0, bI_1, bI_n0, bI_n1, Bool.true_eq_false, Bool.false_eq_true, eq_self, i_0, i_1, i_2, i_3, i_4, i_5, i_6, i_7, i_8, i_9, i_10, i_11, i_12, i_13, i_14, i_15, i_16, i_17, i_18, i_19, i_20, i_21, i_22, i_23, i_24, i_25, i_26, i_27, i_28, i_29, i_30, i_31, i_32, i_33, i_34, i_35, i_36, i_37, i_38, i_39, i_40, i_41, i_42, i_43, i_44, i_45, i_48, i_49, i_57, i_59, i_60, i_61, i_62, i_64, i_97, i_110, i_122, i_123, i_125, i_126, i_127, i_160, i_255, i_300, i_400]
    have g2 : rF (rGrS b) M M2 := (gr_7.trans gr_7).trans d3
    have m7 := d2.2.1
    have hb4 : (wI (wI M b 7 (nI (tok + 1))) b 7 (nI (tok + 2))).1 b 4 = -nI 1 := b4'
    have o : f_N_declaration b (nI d) (nI (rk k)) M = (if nI (rk k) = 5 then (f_N_declaration_93 b (nI d) (nI (rk k)) (nI (pS (pLex t) tok)) (nI (tok + 1)) (nI (qDecT (wT' t) (tok + 1) k sc L)) M2) else (xbind (f_N_is b 24 M2) fun r37 M => if r37 = 0 then (f_N_declaration_93 b (nI d) (nI (rk k)) (nI (pS (pLex t) tok)) (nI (tok + 1)) (nI (qDecT (wT' t) (tok + 1) k sc L)) M) else (xval ((M.1 b 7) + 1) fun x40 => xlet (wI M b 7 x40) fun M => some ((), M)))) := by
      unfold f_N_declaration f_N_declaration_63
      have k3 : k = 0 ∨ k = 1 ∨ k = 2 := by omega
      rcases k3 with rfl | rfl | rfl
      · rw [rkk] at *
        simp (disch := omega) only [↓reduceIte, nI_leT, nI_leF, nI_ltT, nI_ltF, nI_eqT, nI_eqF, xin_T, nI_clampT, nI_add, nI_inc, pk_subT, xb_some, xval, xlet, mI_s, mI_n, mI_k, mI_2, mJ_1, mJ_s, mJ_n, mJ_k, mJ_2, mT_1, mT_2, mT_s, mT_n, mT_k, mT_3, mR_1, mR_2, mR_3, bI_0, bI_1, bI_n0, bI_n1, Bool.true_eq_false, Bool.false_eq_true, eq_self, i_0, i_1, i_2, i_3, i_4, i_5, i_6, i_7, i_8, i_9, i_10, i_11, i_12, i_13, i_14, i_15, i_16, i_17, i_18, i_19, i_20, i_21, i_22, i_23, i_24, i_25, i_26, i_27, i_28, i_29, i_30, i_31, i_32, i_33, i_34, i_35, i_36, i_37, i_38, i_39, i_40, i_41, i_42, i_43, i_44, i_45, i_48, i_49, i_57, i_59, i_60, i_61, i_62, i_64, i_97, i_110, i_122, i_123, i_125, i_126, i_127, i_160, i_255, i_300, i_400, h7, fr, tk, h4', n1, d1]
        rfl
      · rw [rkk] at *
        simp (disch := omega) only [↓reduceIte, nI_leT, nI_leF, nI_ltT, nI_ltF, nI_eqT, nI_eqF, xin_T, nI_clampT, nI_add, nI_inc, pk_subT, xb_some, xval, xlet, mI_s, mI_n, mI_k, mI_2, mJ_1, mJ_s, mJ_n, mJ_k, mJ_2, mT_1, mT_2, mT_s, mT_n, mT_k, mT_3, mR_1, mR_2, mR_3, bI_0, bI_1, bI_n0, bI_n1, Bool.true_eq_false, Bool.false_eq_true, eq_self, i_0, i_1, i_2, i_3, i_4, i_5, i_6, i_7, i_8, i_9, i_10, i_11, i_12, i_13, i_14, i_15, i_16, i_17, i_18, i_19, i_20, i_21, i_22, i_23, i_24, i_25, i_26, i_27, i_28, i_29, i_30, i_31, i_32, i_33, i_34, i_35, i_36, i_37, i_38, i_39, i_40, i_41, i_42, i_43, i_44, i_45, i_48, i_49, i_57, i_59, i_60, i_61, i_62, i_64, i_97, i_110, i_122, i_123, i_125, i_126, i_127, i_160, i_255, i_300, i_400, h7, fr, tk, h4', n1, d1]
      · rw [rkk] at *
        simp (disch := omega) only [↓reduceIte, nI_leT, nI_leF, nI_ltT, nI_ltF, nI_eqT, nI_eqF, xin_T, nI_clampT, nI_add, nI_inc, pk_subT, xb_some, xval, xlet, mI_s, mI_n, mI_k, mI_2, mJ_1, mJ_s, mJ_n, mJ_k, mJ_2, mT_1, mT_2, mT_s, mT_n, mT_k, mT_3, mR_1, mR_2, mR_3, bI_0, bI_1, bI_n0, bI_n1, Bool.true_eq_false, Bool.false_eq_true, eq_self, i_0, i_1, i_2, i_3, i_4, i_5, i_6, i_7, i_8, i_9, i_10, i_11, i_12, i_13, i_14, i_15, i_16, i_17, i_18, i_19, i_20, i_21, i_22, i_23, i_24, i_25, i_26, i_27, i_28, i_29, i_30, i_31, i_32, i_33, i_34, i_35, i_36, i_37, i_38, i_39, i_40, i_41, i_42, i_43, i_44, i_45, i_48, i_49, i_57, i_59, i_60, i_61, i_62, i_64, i_97, i_110, i_122, i_123, i_125, i_126, i_127, i_160, i_255, i_300, i_400, h7, fr, tk, h4', n1, d1]
        rfl
    rw [o]
    by_cases c2 : k ≠ 1 ∧ kT t (tok + 2) = 20
    · rw [if_pos c2]
      have is : f_N_is b 24 M2 = some (nI 1, M2) := r_isT (k := 20) d2.1 m7 t2 c2.2
      refine .inr (M' := wI M2 b 7 (nI (tok + 3))) ?_ (g2.trans gr_7) (by rw [mI_k (by decide)]; exact m5) d2.at (by rw [mI_k (by decide)]; exact m4)
      rw [if_neg (show ¬ nI (rk k) = 5 from fun e => c2.1 (by have := (nI_eq (a := rk k) (b := 5) (by omega) (by omega)).mp (by rw [i_5] at e; exact e); omega)), is, xb_some]
      simp (disch := omega) only [↓reduceIte, nI_leT, nI_leF, nI_ltT, nI_ltF, nI_eqT, nI_eqF, xin_T, nI_clampT, nI_add, nI_inc, pk_subT, xb_some, xval, xlet, mI_s, mI_n, mI_k, mI_2, mJ_1, mJ_s, mJ_n, mJ_k, mJ_2, mT_1, mT_2, mT_s, mT_n, mT_k, mT_3, mR_1, mR_2, mR_3, bI_0, bI_1, bI_n0, bI_n1, Bool.true_eq_false, Bool.false_eq_true, eq_self, i_0, i_1, i_2, i_3, i_4, i_5, i_6, i_7, i_8, i_9, i_10, i_11, i_12, i_13, i_14, i_15, i_16, i_17, i_18, i_19, i_20, i_21, i_22, i_23, i_24, i_25, i_26, i_27, i_28, i_29, i_30, i_31, i_32, i_33, i_34, i_35, i_36, i_37, i_38, i_39, i_40, i_41, i_42, i_43, i_44, i_45, i_48, i_49, i_57, i_59, i_60, i_61, i_62, i_64, i_97, i_110, i_122, i_123, i_125, i_126, i_127, i_160, i_255, i_300, i_400, m7]
    rw [if_neg c2]
    /- with a value -/
    have o2 : (if nI (rk k) = 5 then (f_N_declaration_93 b (nI d) (nI (rk k)) (nI (pS (pLex t) tok)) (nI (tok + 1)) (nI (qDecT (wT' t) (tok + 1) k sc L)) M2) else (xbind (f_N_is b 24 M2) fun r37 M => if r37 = 0 then (f_N_declaration_93 b (nI d) (nI (rk k)) (nI (pS (pLex t) tok)) (nI (tok + 1)) (nI (qDecT (wT' t) (tok + 1) k sc L)) M) else (xval ((M.1 b 7) + 1) fun x40 => xlet (wI M b 7 x40) fun M => some ((), M)))) = f_N_declaration_93 b (nI d) (nI (rk k)) (nI (pS (pLex t) tok)) (nI (tok + 1)) (nI (qDecT (wT' t) (tok + 1) k sc L)) M2 := by
      by_cases c3 : k = 1
      · rw [if_pos (show nI (rk k) = 5 by rw [c3]; rfl)]
      · have is : f_N_is b 24 M2 = some (nI 0, M2) := r_isF (k := 20) d2.1 m7 t2 (by omega) (fun e => c2 ⟨c3, e⟩)
        rw [if_neg (show ¬ nI (rk k) = 5 from fun e => c3 (by have := (nI_eq (a := rk k) (b := 5) (by omega) (by omega)).mp (by rw [i_5] at e; exact e); omega)), is, xb_some, if_pos (show nI 0 = 0 from rfl)]
    rw [o2]
    unfold f_N_declaration_93
    by_cases c3 : kT t (tok + 2) = 10
    · rw [if_neg (fun e => e c3)]
      have t3 := g_T t (tok + 2) t2 (by omega)
      have tk2 : f_N_takes b 14 M2 = some ((), wI M2 b 7 (nI (tok + 3))) := r_takesT (k := 10) d2.1 m7 m4 t2 c3
      have q3 := d2.at (tok' := tok + 3)
      have okd := ok_dec (wd := wT' t) (tok := tok + 1) (sort := k) ok (by omega) (by omega) cN (by omega)
      have hn := okd.2.1
      have l1 := ok_len1 okd.1
      have l1 : (qDecL (wT' t) (tok + 1) k sc L 1).length ≤ tok + 2 := l1
      generalize hnn : qDecT (wT' t) (tok + 1) k sc L = n at *
      generalize hLL : qDecL (wT' t) (tok + 1) k sc L = L2 at *
      have e23 : (wI M2 b 7 (nI (tok + 3))).1 (b + 23) n = nI (qg (L2 1) n).2.2.2.2 := q3.2.2.2.2.2.2.2.1.at (c := (23, fun e => nI e.2.2.2.2)) (by simp [c1]) hn
      have e23' : M2.1 (b + 23) n = nI (qg (L2 1) n).2.2.2.2 := by rw [mI_n (by omega)] at e23; exact e23
      have q4 := nQ_nVal (n := n) q3
      have b4v : (nVal (wI M2 b 7 (nI (tok + 3))) b n (qg (L2 1) n).2.2.2.2).1 b 4 = -1 := by rw [nVal_4, mI_k (by decide)]; exact m4
      have b4w : (wI M2 b 7 (nI (tok + 3))).1 b 4 = -nI 1 := by rw [mI_k (by decide)]; exact m4
      by_cases ck : k = 0
      · have l6 : (L2 6).length ≤ tok + 1 := by
          have := (okd.1.1 6).len (lo := 0) (fun x _ => Nat.zero_le _) (by omega)
          have this : (L2 6).length + 0 ≤ tok + 1 := this
          omega
        have q5 := nQ_nFix (q := tok) (x := n) q4
        have h57 := q4.2.2.2.2.2.2.2.2.2.2.2.2.1.1
        have h57 : (nVal (wI M2 b 7 (nI (tok + 3))) b n (qg (L2 1) n).2.2.2.2).1 b 57 = nI (L2 6).length := h57
        generalize hM5 : nFix (nVal (wI M2 b 7 (nI (tok + 3))) b n (qg (L2 1) n).2.2.2.2) b ((qM 1 n (fun e => (e.1, e.2.1, e.2.2.1, e.2.2.2.1, e.2.2.2.2 + 1)) L2) 6).length (pS (pLex t) tok) n = M5 at q5
        have g5 : rF (rGrS b) M M5 := by rw [← hM5]; exact ((g2.trans gr_7).trans nVal_gr).trans nFix_gr
        have m55 : M5.1 b 55 = M.1 b 55 := by
          rw [← hM5, nFix_fr.2 _ _ (by unfold nFixS; omega), nVal_fr.2 _ _ (by unfold nValS; omega), mI_k (by decide)]; exact m5
        have m54 : M5.1 b 4 = -1 := by rw [← hM5, nFix_4]; exact b4v
        have p1 := r_push (b := b) (w := 4) (d := d) (a := nI 24) (c := 0) q5.2.2.1 (by omega)
        have q6 := q5.push (4, d, 20, 0)
        have p2 := r_push (b := b) (w := 5) (d := d + 1) (a := nI 1) (c := 0) q6.2.2.1 (by simp only [List.length_cons]; omega)
        rw [show ((4, d, 20, 0) :: r).length = r.length + 1 from rfl, show nA (4, d, 20, 0) = nI 24 from rfl] at p2
        dsimp only at p2
        have eL : qLetL k tok n L2 = qA 6 (tok, n, 0, 0, 0) (qM 1 n (fun e => (e.1, e.2.1, e.2.2.1, e.2.2.2.1, e.2.2.2.2 + 1)) L2) := by unfold qLetL qVald; rw [if_pos ck]
        rw [eL]
        refine .inr (M' := mPush (mPush M5 b r.length 4 d (nI 24) 0) b (r.length + 1) 5 (d + 1) (nI 1) 0) ?_ ((g5.trans mPush_gr).trans mPush_gr) (by rw [mPush_55, mPush_55]; exact m55) (q6.push (5, d + 1, 1, 0)) (by rw [mPush_4, mPush_4]; exact m54)
        rw [tk2, xb_some]
        have xv : (nVal (wI M2 b 7 (nI (tok + 3))) b n (qg (L2 1) n).2.2.2.2) = wI (wI M2 b 7 (nI (tok + 3))) (b + 23) n (nI ((qg (L2 1) n).2.2.2.2 + 1)) := rfl
        rw [xv] at h57
        have x5 : M5 = wI (wI (wI (wI (wI M2 b 7 (nI (tok + 3))) (b + 23) n (nI ((qg (L2 1) n).2.2.2.2 + 1))) (b + 31) (L2 6).length (nI (pS (pLex t) tok))) (b + 32) (L2 6).length (nI n)) b 57 (nI ((L2 6).length + 1)) := hM5.symm
        unfold f_N_declaration_154
        rw [x5] at p1 p2
        rw [x5, rkk, ck]
        have h57' : M2.1 b 57 = nI (L2 6).length := by rw [mI_n (by omega), mI_k (by decide)] at h57; exact h57
        simp (disch := omega) only [↓reduceIte, nI_leT, nI_leF, nI_ltT, nI_ltF, nI_eqT, nI_eqF, xin_T, nI_clampT, nI_add, nI_inc, pk_subT, xb_some, xval, xlet, mI_s, mI_n, mI_k, mI_2, mJ_1, mJ_s, mJ_n, mJ_k, mJ_2, mT_1, mT_2, mT_s, mT_n, mT_k, mT_3, mR_1, mR_2, mR_3, bI_0, bI_1, bI_n0, bI_n1, Bool.true_eq_false, Bool.false_eq_true, eq_self, i_0, i_1, i_2, i_3, i_4, i_5, i_6, i_7, i_8, i_9, i_10, i_11, i_12, i_13, i_14, i_15, i_16, i_17, i_18, i_19, i_20, i_21, i_22, i_23, i_24, i_25, i_26, i_27, i_28, i_29, i_30, i_31, i_32, i_33, i_34, i_35, i_36, i_37, i_38, i_39, i_40, i_41, i_42, i_43, i_44, i_45, i_48, i_49, i_57, i_59, i_60, i_61, i_62, i_64, i_97, i_110, i_122, i_123, i_125, i_126, i_127, i_160, i_255, i_300, i_400, b4w, n1, e23', h57', p1, p2, m4']
      · have eL : qLetL k tok n L2 = qM 1 n (fun e => (e.1, e.2.1, e.2.2.1, e.2.2.2.1, e.2.2.2.2 + 1)) L2 := by unfold qLetL qVald; rw [if_neg ck]
        rw [eL]
        have p1 := r_push (b := b) (w := 4) (d := d) (a := nI 24) (c := 0) q4.2.2.1 (by omega)
        have q6 := q4.push (4, d, 20, 0)
        have p2 := r_push (b := b) (w := 5) (d := d + 1) (a := nI 1) (c := 0) q6.2.2.1 (by simp only [List.length_cons]; omega)
        rw [show ((4, d, 20, 0) :: r).length = r.length + 1 from rfl, show nA (4, d, 20, 0) = nI 24 from rfl] at p2
        dsimp only at p2
        have g5 : rF (rGrS b) M (nVal (wI M2 b 7 (nI (tok + 3))) b n (qg (L2 1) n).2.2.2.2) := (g2.trans gr_7).trans nVal_gr
        have m55 : (nVal (wI M2 b 7 (nI (tok + 3))) b n (qg (L2 1) n).2.2.2.2).1 b 55 = M.1 b 55 := by
          rw [nVal_fr.2 _ _ (by unfold nValS; omega), mI_k (by decide)]; exact m5
        refine .inr (M' := mPush (mPush (nVal (wI M2 b 7 (nI (tok + 3))) b n (qg (L2 1) n).2.2.2.2) b r.length 4 d (nI 24) 0) b (r.length + 1) 5 (d + 1) (nI 1) 0) ?_ ((g5.trans mPush_gr).trans mPush_gr) (by rw [mPush_55, mPush_55]; exact m55) (q6.push (5, d + 1, 1, 0)) (by rw [mPush_4, mPush_4]; exact b4v)
        rw [tk2, xb_some]
        unfold f_N_declaration_154
        unfold nVal at p1 p2 ⊢
        rw [rkk]
        simp (disch := omega) only [↓reduceIte, nI_leT, nI_leF, nI_ltT, nI_ltF, nI_eqT, nI_eqF, xin_T, nI_clampT, nI_add, nI_inc, pk_subT, xb_some, xval, xlet, mI_s, mI_n, mI_k, mI_2, mJ_1, mJ_s, mJ_n, mJ_k, mJ_2, mT_1, mT_2, mT_s, mT_n, mT_k, mT_3, mR_1, mR_2, mR_3, bI_0, bI_1, bI_n0, bI_n1, Bool.true_eq_false, Bool.false_eq_true, eq_self, i_0, i_1, i_2, i_3, i_4, i_5, i_6, i_7, i_8, i_9, i_10, i_11, i_12, i_13, i_14, i_15, i_16, i_17, i_18, i_19, i_20, i_21, i_22, i_23, i_24, i_25, i_26, i_27, i_28, i_29, i_30, i_31, i_32, i_33, i_34, i_35, i_36, i_37, i_38, i_39, i_40, i_41, i_42, i_43, i_44, i_45, i_48, i_49, i_57, i_59, i_60, i_61, i_62, i_64, i_97, i_110, i_122, i_123, i_125, i_126, i_127, i_160, i_255, i_300, i_400, b4w, n1, e23', p1, p2, m4']
    · rw [if_pos c3]
      have tk2 : f_N_takes b 14 M2 = some ((), wI M2 b 4 (nI (pS (pLex t) (tok + 2)))) := r_takesF (k := 10) d2.1 m7 m4 t2 (by omega) c3
      refine .inl (M' := wI M2 b 4 (nI (pS (pLex t) (tok + 2)))) ?_ (g2.trans gr_4) (by rw [mI_k (by decide)]; exact m5) (by simp (disch := omega) only [↓reduceIte, nI_leT, nI_leF, nI_ltT, nI_ltF, nI_eqT, nI_eqF, xin_T, nI_clampT, nI_add, nI_inc, pk_subT, xb_some, xval, xlet, mI_s, mI_n, mI_k, mI_2, mJ_1, mJ_s, mJ_n, mJ_k, mJ_2, mT_1, mT_2, mT_s, mT_n, mT_k, mT_3, mR_1, mR_2, mR_3, bI_0, bI_1, bI_n0, bI_n1, Bool.true_eq_false, Bool.false_eq_true, eq_self, i_0, i_1, i_2, i_3, i_4, i_5, i_6, i_7, i_8, i_9, i_10, i_11, i_12, i_13, i_14, i_15, i_16, i_17, i_18, i_19, i_20, i_21, i_22, i_23, i_24, i_25, i_26, i_27, i_28, i_29, i_30, i_31, i_32, i_33, i_34, i_35, i_36, i_37, i_38, i_39, i_40, i_41, i_42, i_43, i_44, i_45, i_48, i_49, i_57, i_59, i_60, i_61, i_62, i_64, i_97, i_110, i_122, i_123, i_125, i_126, i_127, i_160, i_255, i_300, i_400])
      rw [tk2, xb_some]
      simp (disch := omega) only [↓reduceIte, nI_leT, nI_leF, nI_ltT, nI_ltF, nI_eqT, nI_eqF, xin_T, nI_clampT, nI_add, nI_inc, pk_subT, xb_some, xval, xlet, mI_s, mI_n, mI_k, mI_2, mJ_1, mJ_s, mJ_n, mJ_k, mJ_2, mT_1, mT_2, mT_s, mT_n, mT_k, mT_3, mR_1, mR_2, mR_3, bI_0, bI_1, bI_n0, bI_n1, Bool.true_eq_false, Bool.false_eq_true, eq_self, i_0, i_1, i_2, i_3, i_4, i_5, i_6, i_7, i_8, i_9, i_10, i_11, i_12, i_13, i_14, i_15, i_16, i_17, i_18, i_19, i_20, i_21, i_22, i_23, i_24, i_25, i_26, i_27, i_28, i_29, i_30, i_31, i_32, i_33, i_34, i_35, i_36, i_37, i_38, i_39, i_40, i_41, i_42, i_43, i_44, i_45, i_48, i_49, i_57, i_59, i_60, i_61, i_62, i_64, i_97, i_110, i_122, i_123, i_125, i_126, i_127, i_160, i_255, i_300, i_400]
  · rw [if_pos cN]
    have tk : f_N_takes b (nI 1) (wI M b 7 (nI (tok + 1))) = some ((), wI (wI M b 7 (nI (tok + 1))) b 4 (nI (pS (pLex t) (tok + 1)))) := r_takesF (k := 23) q1.1 q1.2.1 b4 t1 (by omega) cN
    refine .inl (M' := wI (wI M b 7 (nI (tok + 1))) b 4 (nI (pS (pLex t) (tok + 1)))) ?_ (gr_7.trans gr_4) (by simp (disch := omega) only [↓reduceIte, nI_leT, nI_leF, nI_ltT, nI_ltF, nI_eqT, nI_eqF, xin_T, nI_clampT, nI_add, nI_inc, pk_subT, xb_some, xval, xlet, mI_s, mI_n, mI_k, mI_2, mJ_1, mJ_s, mJ_n, mJ_k, mJ_2, mT_1, mT_2, mT_s, mT_n, mT_k, mT_3, mR_1, mR_2, mR_3, bI_0, bI_1, bI_n0, bI_n1, Bool.true_eq_false, Bool.false_eq_true, eq_self, i_0, i_1, i_2, i_3, i_4, i_5, i_6, i_7, i_8, i_9, i_10, i_11, i_12, i_13, i_14, i_15, i_16, i_17, i_18, i_19, i_20, i_21, i_22, i_23, i_24, i_25, i_26, i_27, i_28, i_29, i_30, i_31, i_32, i_33, i_34, i_35, i_36, i_37, i_38, i_39, i_40, i_41, i_42, i_43, i_44, i_45, i_48, i_49, i_57, i_59, i_60, i_61, i_62, i_64, i_97, i_110, i_122, i_123, i_125, i_126, i_127, i_160, i_255, i_300, i_400]) (by simp (disch := omega) only [↓reduceIte, nI_leT, nI_leF, nI_ltT, nI_ltF, nI_eqT, nI_eqF, xin_T, nI_clampT, nI_add, nI_inc, pk_subT, xb_some, xval, xlet, mI_s, mI_n, mI_k, mI_2, mJ_1, mJ_s, mJ_n, mJ_k, mJ_2, mT_1, mT_2, mT_s, mT_n, mT_k, mT_3, mR_1, mR_2, mR_3, bI_0, bI_1, bI_n0, bI_n1, Bool.true_eq_false, Bool.false_eq_true, eq_self, i_0, i_1, i_2, i_3, i_4, i_5, i_6, i_7, i_8, i_9, i_10, i_11, i_12, i_13, i_14, i_15, i_16, i_17, i_18, i_19, i_20, i_21, i_22, i_23, i_24, i_25, i_26, i_27, i_28, i_29, i_30, i_31, i_32, i_33, i_34, i_35, i_36, i_37, i_38, i_39, i_40, i_41, i_42, i_43, i_44, i_45, i_48, i_49, i_57, i_59, i_60, i_61, i_62, i_64, i_97, i_110, i_122, i_123, i_125, i_126, i_127, i_160, i_255, i_300, i_400])
    unfold f_N_declaration
    simp (disch := omega) only [↓reduceIte, nI_leT, nI_leF, nI_ltT, nI_ltF, nI_eqT, nI_eqF, xin_T, nI_clampT, nI_add, nI_inc, pk_subT, xb_some, xval, xlet, mI_s, mI_n, mI_k, mI_2, mJ_1, mJ_s, mJ_n, mJ_k, mJ_2, mT_1, mT_2, mT_s, mT_n, mT_k, mT_3, mR_1, mR_2, mR_3, bI_0, bI_1, bI_n0, bI_n1, Bool.true_eq_false, Bool.false_eq_true, eq_self, i_0, i_1, i_2, i_3, i_4, i_5, i_6, i_7, i_8, i_9, i_10, i_11, i_12, i_13, i_14, i_15, i_16, i_17, i_18, i_19, i_20, i_21, i_22, i_23, i_24, i_25, i_26, i_27, i_28, i_29, i_30, i_31, i_32, i_33, i_34, i_35, i_36, i_37, i_38, i_39, i_40, i_41, i_42, i_43, i_44, i_45, i_48, i_49, i_57, i_59, i_60, i_61, i_62, i_64, i_97, i_110, i_122, i_123, i_125, i_126, i_127, i_160, i_255, i_300, i_400, h7, fr, tk]
