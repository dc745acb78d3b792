/-! PURE: the reference's declares(), excuses, lists -/
theorem qA_qM {f g i : Nat} {x : qE} {u : qE → qE} {L : qL} (h : f ≠ g) : qA f x (qM g i u L) = qM g i u (qA f x L) := by
  funext e
  rw [qA_at, qM_at, qM_at, qA_at]
  by_cases c : e = f
  · subst c; rw [if_neg h, if_neg h, if_pos rfl]
  · rw [if_neg c, if_neg c]
theorem nL.at {M : xMem} {b k i : Nat} {l : List qE} {cs : List (Nat × (qE → Int32))} (h : nL M b k l cs) {c : Nat × (qE → Int32)} (hc : c ∈ cs) (hi : i < l.length) : M.1 (b + c.1) i = c.2 (qg l i) := h.2 c hc i hi
theorem r_declares_20 {M : xMem} {b tok sc p k : Nat} {t : List Nat} {r : List qI} {L : qL} (h : nQ M b t r tok sc L) (hk : kT t p = 23) (hk4 : k ≤ 4) (h1 : (L 1).length ≤ 62) (h14 : (L 14).length ≤ 62) (hs : (if k = 2 then qHome L sc else sc) < 1000) (hb : ∀ i, i < (L 1).length → (qg (L 1) i).2.1 < 1000 ∧ kT t (qg (L 1) i).1 = 23 ∧ (qg (L 1) i).2.2.1 < 1000) : ∃ M', f_N_declares_20 b (nI p) (nI k) (nI (if k = 2 then qHome L sc else sc)) M = some (nI (qDecT (wT' t) p k sc L), M') ∧ nQ M' b t r tok sc (qDecL (wT' t) p k sc L) ∧ rF (rGrS b) M M' ∧ M'.1 b 4 = M.1 b 4 := by
  have hx := h.1
  have hT := nT_le t
  have hp := kT_real (t := t) (i := p) (by omega)
  have k1 := h.2.2.2.2.2.2.2.1
  have k14 := h.2.2.2.2.2.2.2.2.2.1
  have fr := (r_kind hx (Nat.le_of_lt hp)).2
  have th := r_thingIn (tok := p) hx k1 (by omega) hs (fun i hi => ⟨(hb i hi).1, (hb i hi).2.1⟩) hk
  have et : qDecT (wT' t) p k sc L = qFind (wT' t) (L 1) (if k = 2 then qHome L sc else sc) (wT' t p) := rfl
  rw [← et] at th
  generalize hS : (if k = 2 then qHome L sc else sc) = S at *
  have h36 := k1.1
  have h54 := k14.1
  unfold f_N_declares_20
  by_cases c : qDecT (wT' t) p k sc L < (L 1).length
  · rw [if_pos c] at th
    obtain ⟨b1, b2, b3⟩ := hb _ c
    have e21 : M.1 (b + 21) (qDecT (wT' t) p k sc L) = nI (qg (L 1) (qDecT (wT' t) p k sc L)).2.2.2.1 := k1.at (c := (21, fun e => nI e.2.2.2.1)) (by simp [c1]) c
    have e20 : M.1 (b + 20) (qDecT (wT' t) p k sc L) = nI (qg (L 1) (qDecT (wT' t) p k sc L)).2.2.1 := k1.at (c := (20, fun e => nI e.2.2.1)) (by simp [c1]) c
    generalize hn : qDecT (wT' t) p k sc L = n at *
    by_cases c2 : k ≠ 2 ∨ (qg (L 1) n).2.2.1 ≠ 2
    · have eL : qDecL (wT' t) p k sc L = qM 1 n (fun e => (e.1, e.2.1, e.2.2.1, e.2.2.2.1 + 1, e.2.2.2.2)) (qA 14 (p, 0, 0, 0, 0) L) := by
        unfold qDecL; dsimp only; rw [hn, if_pos c, if_pos c2, qA_qM (by decide)]
      have q1 := nQ_nAgain (q := p) h
      have q2 := nQ_nTime (n := n) q1
      have e21' : (nAgain M b (L 14).length (pS (pLex t) p)).1 (b + 21) n = nI (qg (L 1) n).2.2.2.1 := by rw [nAgain_fr.2 _ _ (by unfold nAgainS; omega)]; exact e21
      refine ⟨nTime (nAgain M b (L 14).length (pS (pLex t) p)) b n (qg (L 1) n).2.2.2.1, ?_, by rw [eL]; exact q2, nAgain_gr.trans nTime_gr, by rw [nTime_4, nAgain_4]⟩
      have n1 : (nI n < nI 0) = False := eq_false (nI_nlt (by omega) (by omega))
      have key : f_N_declares_50 b (nI p) (nI k) (nI S) (nI n) M = some (nI n, nTime (nAgain M b (L 14).length (pS (pLex t) p)) b n (qg (L 1) n).2.2.2.1) := by
        have e21'' := e21'
        unfold nAgain at e21''
        unfold f_N_declares_50 f_N_declares_142 nTime nAgain
        simp (disch := omega) only [↓reduceIte, nI_leT, nI_leF, nI_ltT, nI_ltF, nI_eqT, nI_eqF, xin_T, nI_clampT, nI_add, nI_inc, pk_subT, xb_some, xval, xlet, mI_s, mI_n, mI_k, mI_2, mJ_1, mJ_s, mJ_n, mJ_k, mJ_2, mT_1, mT_2, mT_s, mT_n, mT_k, mT_3, mR_1, mR_2, mR_3, bI_0, bI_1, bI_n0, bI_n1, Bool.true_eq_false, Bool.false_eq_true, eq_self, i_0, i_1, i_2, i_3, i_4, i_5, i_6, i_7, i_8, i_9, i_10, i_11, i_12, i_13, i_14, i_15, i_16, i_17, i_18, i_19, i_20, i_21, i_22, i_23, i_24, i_25, i_26, i_27, i_28, i_29, i_30, i_31, i_32, i_33, i_34, i_35, i_36, i_37, i_38, i_39, i_40, i_41, i_42, i_43, i_44, i_45, i_48, i_49, i_57, i_59, i_60, i_61, i_62, i_64, i_97, i_110, i_122, i_123, i_125, i_126, i_127, i_160, i_255, i_300, i_400, fr, h54, e21]
      by_cases c3 : k = 2
      · have c4 : (qg (L 1) n).2.2.1 ≠ 2 := by omega
        rw [th, xb_some, if_neg (show ¬ nI n < 0 from (nI_nlt (a := n) (b := 0) (by omega) (by omega) : ¬ nI n < nI 0)), if_pos (show nI k = 2 by rw [c3]; rfl), if_pos (xin_T (by omega) (by omega)), nI_clampT (by omega), e20, if_neg (show ¬ nI (qg (L 1) n).2.2.1 = 2 from fun e => c4 ((nI_eq (by omega) (by omega)).mp (by rw [i_2] at e; exact e)))]
        exact key
      · rw [th, xb_some, if_neg (show ¬ nI n < 0 from (nI_nlt (a := n) (b := 0) (by omega) (by omega) : ¬ nI n < nI 0)), if_neg (show ¬ nI k = 2 from fun e => c3 ((nI_eq (by omega) (by omega)).mp (by rw [i_2] at e; exact e)))]
        exact key
    · have c3 : k = 2 := by omega
      have c4 : (qg (L 1) n).2.2.1 = 2 := by omega
      have eL : qDecL (wT' t) p k sc L = qM 1 n (fun e => (e.1, e.2.1, e.2.2.1, e.2.2.2.1 + 1, e.2.2.2.2)) L := by
        unfold qDecL; dsimp only; rw [hn, if_pos c, if_neg c2]
      have q2 := nQ_nTime (n := n) h
      refine ⟨nTime M b n (qg (L 1) n).2.2.2.1, ?_, by rw [eL]; exact q2, nTime_gr, nTime_4⟩
      rw [c4] at e20
      rw [th, xb_some, if_neg (show ¬ nI n < 0 from (nI_nlt (a := n) (b := 0) (by omega) (by omega) : ¬ nI n < nI 0)), if_pos (show nI k = 2 by rw [c3]; rfl), if_pos (xin_T (by omega) (by omega)), nI_clampT (by omega), e20, if_pos (show nI 2 = 2 from rfl)]
      unfold f_N_declares_142 nTime
      simp (disch := omega) only [↓reduceIte, nI_leT, nI_leF, nI_ltT, nI_ltF, nI_eqT, nI_eqF, xin_T, nI_clampT, nI_add, nI_inc, pk_subT, xb_some, xval, xlet, mI_s, mI_n, mI_k, mI_2, mJ_1, mJ_s, mJ_n, mJ_k, mJ_2, mT_1, mT_2, mT_s, mT_n, mT_k, mT_3, mR_1, mR_2, mR_3, bI_0, bI_1, bI_n0, bI_n1, Bool.true_eq_false, Bool.false_eq_true, eq_self, i_0, i_1, i_2, i_3, i_4, i_5, i_6, i_7, i_8, i_9, i_10, i_11, i_12, i_13, i_14, i_15, i_16, i_17, i_18, i_19, i_20, i_21, i_22, i_23, i_24, i_25, i_26, i_27, i_28, i_29, i_30, i_31, i_32, i_33, i_34, i_35, i_36, i_37, i_38, i_39, i_40, i_41, i_42, i_43, i_44, i_45, i_48, i_49, i_57, i_59, i_60, i_61, i_62, i_64, i_97, i_110, i_122, i_123, i_125, i_126, i_127, i_160, i_255, i_300, i_400, e21]
  · have en : qDecT (wT' t) p k sc L = (L 1).length := by
      have := q_find_le (wT' t) (L 1) S (wT' t p); rw [← et] at this; omega
    have eL : qDecL (wT' t) p k sc L = qA 1 (p, S, k, 1, 0) L := by
      unfold qDecL; dsimp only; rw [if_neg c, hS]
    rw [if_neg c] at th
    refine ⟨nThing M b (L 1).length p S k, ?_, by rw [eL]; exact nQ_nThing h, nThing_gr, nThing_4⟩
    rw [th, xb_some, if_pos (by decide), en]
    unfold f_N_declares_142 nThing
    simp (disch := omega) only [↓reduceIte, nI_leT, nI_leF, nI_ltT, nI_ltF, nI_eqT, nI_eqF, xin_T, nI_clampT, nI_add, nI_inc, pk_subT, xb_some, xval, xlet, mI_s, mI_n, mI_k, mI_2, mJ_1, mJ_s, mJ_n, mJ_k, mJ_2, mT_1, mT_2, mT_s, mT_n, mT_k, mT_3, mR_1, mR_2, mR_3, bI_0, bI_1, bI_n0, bI_n1, Bool.true_eq_false, Bool.false_eq_true, eq_self, i_0, i_1, i_2, i_3, i_4, i_5, i_6, i_7, i_8, i_9, i_10, i_11, i_12, i_13, i_14, i_15, i_16, i_17, i_18, i_19, i_20, i_21, i_22, i_23, i_24, i_25, i_26, i_27, i_28, i_29, i_30, i_31, i_32, i_33, i_34, i_35, i_36, i_37, i_38, i_39, i_40, i_41, i_42, i_43, i_44, i_45, i_48, i_49, i_57, i_59, i_60, i_61, i_62, i_64, i_97, i_110, i_122, i_123, i_125, i_126, i_127, i_160, i_255, i_300, i_400, h36]
theorem r_declares {M : xMem} {b tok sc p k : Nat} {t : List Nat} {r : List qI} {L : qL} {m : Nat → Nat} (h : nQ M b t r tok sc L) (ok : qOk (kT t) m sc L) (hm0 : m 0 ≤ 62) (hm1 : m 1 ≤ 62) (hm14 : m 14 ≤ 61) (hk : kT t p = 23) (hk4 : k ≤ 4) : ∃ M', f_N_declares b (nI p) (nI k) M = some (nI (qDecT (wT' t) p k sc L), M') ∧ nQ M' b t r tok sc (qDecL (wT' t) p k sc L) ∧ rF (rGrS b) M M' ∧ M'.1 b 4 = M.1 b 4 := by
  have l0 := ok_len0 ok
  have l1 := ok_len1 ok
  have l14 : (L 14).length ≤ 62 := by
    have := (ok.1 14).len (lo := 0) (fun x _ => Nat.zero_le _) (by omega)
    omega
  have hsc := ok.2.1
  have hho := ok_home ok
  have hb : ∀ i, i < (L 1).length → (qg (L 1) i).2.1 < 1000 ∧ kT t (qg (L 1) i).1 = 23 ∧ (qg (L 1) i).2.2.1 < 1000 := by
    intro i hi
    have := ok.2.2.2.1 i hi
    exact ⟨by omega, this.2.1, by omega⟩
  have d := r_declares_20 (p := p) (k := k) h hk hk4 (by omega) l14 (by split <;> omega) hb
  have h28 := h.2.2.2.2.1
  unfold f_N_declares
  by_cases c : k = 2
  · have fa := r_fnAround h.2.2.2.2.2.1 ok.2.2.1 (by omega) hsc
    rw [if_pos c] at d
    rw [if_pos (show nI k = 2 by rw [c]; rfl)]
    show ∃ M', xbind (f_N_fnAround b (M.1 b 28) M) _ = _ ∧ _
    rw [h28, fa, xb_some]
    exact d
  · rw [if_neg c] at d
    rw [if_neg (show ¬ nI k = 2 from fun e => c ((nI_eq (by omega) (by omega)).mp (by rw [i_2] at e; exact e))), h28]
    exact d
/-- one excuse more -/
def nExc (M : xMem) (b n d p : Nat) : xMem := wI (wI (wI M (b + 36) n (nI d)) (b + 37) n (nI p)) b 60 (nI (n + 1))
def nExcS (b : Nat) (a k : Nat) : Prop := (a = b ∧ k = 60) ∨ a = b + 36 ∨ a = b + 37
theorem nExc_fr {M : xMem} {b n d p : Nat} : rF (nExcS b) M (nExc M b n d p) := by
  unfold nExc
  exact ((rF.I (by unfold nExcS; omega)).trans (rF.I (by unfold nExcS; omega))).trans (rF.I (by unfold nExcS; omega))
theorem nExc_gr {M : xMem} {b n d p : Nat} : rF (rGrS b) M (nExc M b n d p) := nExc_fr.mono (by intro a k; unfold nExcS rGrS; omega)
theorem nExc_4 {M : xMem} {b n d p : Nat} : (nExc M b n d p).1 b 4 = M.1 b 4 := nExc_fr.2 _ _ (by unfold nExcS; omega)
theorem nQ_nExc {M : xMem} {b tok sc d q : Nat} {t : List Nat} {r : List qI} {L : qL} (h : nQ M b t r tok sc L) : nQ (nExc M b (L 4).length d (pS (pLex t) q)) b t r tok sc (qA 4 (d, q, 0, 0, 0) L) := by
  obtain ⟨h1, h2, h3, h4, h5, k0, k5, k1, k2, k14, k15, k16, k6, k18, k19, k4, kx⟩ := h
  have f := nExc_fr (M := M) (b := b) (n := (L 4).length) (d := d) (p := pS (pLex t) q)
  refine ⟨h1.gr (f.mono (by intro a k; unfold nExcS rGrS; omega)), ?_, ?_, h4.to ?_, ?_, k0.fr f ?_ ?_, k5.fr f ?_ ?_, k1.fr f ?_ ?_, k2.fr f ?_ ?_, k14.fr f ?_ ?_, k15.fr f ?_ ?_, k16.fr f ?_ ?_, k6.fr f ?_ ?_, k18.fr f ?_ ?_, k19.fr f ?_ ?_, ?_, ?_⟩
  all_goals first
    | (rw [f.2 _ _ (by unfold nExcS; omega)]; assumption)
    | (unfold nExcS; omega)
    | (intro a h j; simp [c0, c5, c1, c2, c14, c15, c16, c6, c18, c19, c4] at h; unfold nExcS; omega)
    | (intro a j q1 q2 q3; exact f.2 _ _ (by unfold nExcS; omega))
    | (rw [qA_s]; refine k4.app (by unfold nExc; simp (disch := omega) only [↓reduceIte, nI_leT, nI_leF, nI_ltT, nI_ltF, nI_eqT, nI_eqF, xin_T, nI_clampT, nI_add, nI_inc, pk_subT, xb_some, xval, xlet, mI_s, mI_n, mI_k, mI_2, mJ_1, mJ_s, mJ_n, mJ_k, mJ_2, mT_1, mT_2, mT_s, mT_n, mT_k, mT_3, mR_1, mR_2, mR_3, bI_0, bI_1, bI_n0, bI_n1, Bool.true_eq_false, Bool.false_eq_true, eq_self, i_0, i_1, i_2, i_3, i_4, i_5, i_6, i_7, i_8, i_9, i_10, i_11, i_12, i_13, i_14, i_15, i_16, i_17, i_18, i_19, i_20, i_21, i_22, i_23, i_24, i_25, i_26, i_27, i_28, i_29, i_30, i_31, i_32, i_33, i_34, i_35, i_36, i_37, i_38, i_39, i_40, i_41, i_42, i_43, i_44, i_45, i_48, i_49, i_57, i_59, i_60, i_61, i_62, i_64, i_97, i_110, i_122, i_123, i_125, i_126, i_127, i_160, i_255, i_300, i_400]) ?_
       intro c hc
       simp only [c4, List.mem_cons, List.not_mem_nil, or_false] at hc
       rcases hc with rfl | rfl <;> (refine ⟨fun i hi => ?_, ?_⟩ <;> (unfold nExc; simp (disch := omega) only [↓reduceIte, nI_leT, nI_leF, nI_ltT, nI_ltF, nI_eqT, nI_eqF, xin_T, nI_clampT, nI_add, nI_inc, pk_subT, xb_some, xval, xlet, mI_s, mI_n, mI_k, mI_2, mJ_1, mJ_s, mJ_n, mJ_k, mJ_2, mT_1, mT_2, mT_s, mT_n, mT_k, mT_3, mR_1, mR_2, mR_3, bI_0, bI_1, bI_n0, bI_n1, Bool.true_eq_false, Bool.false_eq_true, eq_self, i_0, i_1, i_2, i_3, i_4, i_5, i_6, i_7, i_8, i_9, i_10, i_11, i_12, i_13, i_14, i_15, i_16, i_17, i_18, i_19, i_20, i_21, i_22, i_23, i_24, i_25, i_26, i_27, i_28, i_29, i_30, i_31, i_32, i_33, i_34, i_35, i_36, i_37, i_38, i_39, i_40, i_41, i_42, i_43, i_44, i_45, i_48, i_49, i_57, i_59, i_60, i_61, i_62, i_64, i_97, i_110, i_122, i_123, i_125, i_126, i_127, i_160, i_255, i_300, i_400])))
    | (intro i hi hn
       rw [qA_s] at hi hn ⊢
       rw [List.length_append, List.length_singleton] at hi
       by_cases c : i < (L 4).length
       · rw [qg_lt c] at hn ⊢
         rw [f.2 _ _ (by unfold nExcS; omega)]; exact kx i c hn
       · have : i = (L 4).length := by omega
         subst this
         rw [qg_eq] at hn; exact absurd rfl hn)
/-- an excuse ends -/
theorem nQ_close {M : xMem} {b tok sc n q : Nat} {t : List Nat} {r : List qI} {L : qL} (h : nQ M b t r tok sc L) : nQ (wI M (b + 38) n (nI (pE (pLex t) (q - 1)) - 1)) b t r tok sc (qM 4 n (fun e => (e.1, e.2.1, q, e.2.2.2)) L) := by
  obtain ⟨h1, h2, h3, h4, h5, k0, k5, k1, k2, k14, k15, k16, k6, k18, k19, k4, kx⟩ := h
  have f : rF (fun a k => a = b + 38) M (wI M (b + 38) n (nI (pE (pLex t) (q - 1)) - 1)) := rF.I rfl
  refine ⟨h1.gr (f.mono (by intro a k; unfold rGrS; omega)), ?_, ?_, h4.to ?_, ?_, k0.fr f ?_ ?_, k5.fr f ?_ ?_, k1.fr f ?_ ?_, k2.fr f ?_ ?_, k14.fr f ?_ ?_, k15.fr f ?_ ?_, k16.fr f ?_ ?_, k6.fr f ?_ ?_, k18.fr f ?_ ?_, k19.fr f ?_ ?_, ?_, ?_⟩
  all_goals first
    | (rw [f.2 _ _ (by omega)]; assumption)
    | omega
    | (intro a h j; simp [c0, c5, c1, c2, c14, c15, c16, c6, c18, c19, c4] at h; omega)
    | (intro a j q1 q2 q3; exact f.2 _ _ (by omega))
    | (rw [qM_s]; refine k4.mod (by simp (disch := omega) only [↓reduceIte, nI_leT, nI_leF, nI_ltT, nI_ltF, nI_eqT, nI_eqF, xin_T, nI_clampT, nI_add, nI_inc, pk_subT, xb_some, xval, xlet, mI_s, mI_n, mI_k, mI_2, mJ_1, mJ_s, mJ_n, mJ_k, mJ_2, mT_1, mT_2, mT_s, mT_n, mT_k, mT_3, mR_1, mR_2, mR_3, bI_0, bI_1, bI_n0, bI_n1, Bool.true_eq_false, Bool.false_eq_true, eq_self, i_0, i_1, i_2, i_3, i_4, i_5, i_6, i_7, i_8, i_9, i_10, i_11, i_12, i_13, i_14, i_15, i_16, i_17, i_18, i_19, i_20, i_21, i_22, i_23, i_24, i_25, i_26, i_27, i_28, i_29, i_30, i_31, i_32, i_33, i_34, i_35, i_36, i_37, i_38, i_39, i_40, i_41, i_42, i_43, i_44, i_45, i_48, i_49, i_57, i_59, i_60, i_61, i_62, i_64, i_97, i_110, i_122, i_123, i_125, i_126, i_127, i_160, i_255, i_300, i_400]) ?_
       intro c hc
       have qq := k4.2 c hc
       simp only [c4, List.mem_cons, List.not_mem_nil, or_false] at hc
       rcases hc with rfl | rfl <;> (refine ⟨fun i hi _ => ?_, fun hi => ?_⟩ <;> first | (simp (disch := omega) only [↓reduceIte, nI_leT, nI_leF, nI_ltT, nI_ltF, nI_eqT, nI_eqF, xin_T, nI_clampT, nI_add, nI_inc, pk_subT, xb_some, xval, xlet, mI_s, mI_n, mI_k, mI_2, mJ_1, mJ_s, mJ_n, mJ_k, mJ_2, mT_1, mT_2, mT_s, mT_n, mT_k, mT_3, mR_1, mR_2, mR_3, bI_0, bI_1, bI_n0, bI_n1, Bool.true_eq_false, Bool.false_eq_true, eq_self, i_0, i_1, i_2, i_3, i_4, i_5, i_6, i_7, i_8, i_9, i_10, i_11, i_12, i_13, i_14, i_15, i_16, i_17, i_18, i_19, i_20, i_21, i_22, i_23, i_24, i_25, i_26, i_27, i_28, i_29, i_30, i_31, i_32, i_33, i_34, i_35, i_36, i_37, i_38, i_39, i_40, i_41, i_42, i_43, i_44, i_45, i_48, i_49, i_57, i_59, i_60, i_61, i_62, i_64, i_97, i_110, i_122, i_123, i_125, i_126, i_127, i_160, i_255, i_300, i_400]; done) | (simp (disch := omega) only [↓reduceIte, nI_leT, nI_leF, nI_ltT, nI_ltF, nI_eqT, nI_eqF, xin_T, nI_clampT, nI_add, nI_inc, pk_subT, xb_some, xval, xlet, mI_s, mI_n, mI_k, mI_2, mJ_1, mJ_s, mJ_n, mJ_k, mJ_2, mT_1, mT_2, mT_s, mT_n, mT_k, mT_3, mR_1, mR_2, mR_3, bI_0, bI_1, bI_n0, bI_n1, Bool.true_eq_false, Bool.false_eq_true, eq_self, i_0, i_1, i_2, i_3, i_4, i_5, i_6, i_7, i_8, i_9, i_10, i_11, i_12, i_13, i_14, i_15, i_16, i_17, i_18, i_19, i_20, i_21, i_22, i_23, i_24, i_25, i_26, i_27, i_28, i_29, i_30, i_31, i_32, i_33, i_34, i_35, i_36, i_37, i_38, i_39, i_40, i_41, i_42, i_43, i_44, i_45, i_48, i_49, i_57, i_59, i_60, i_61, i_62, i_64, i_97, i_110, i_122, i_123, i_125, i_126, i_127, i_160, i_255, i_300, i_400]; exact qq _ hi)))
    | (intro i hi hn
       rw [qM_s] at hi hn ⊢
       rw [List.length_modify] at hi
       by_cases c : i = n
       · subst c
         rw [qg_mod hi] at hn ⊢
         exact mI_s rfl rfl
       · rw [qg_modn c] at hn ⊢
         rw [mI_k c]; exact kx i hi hn)
