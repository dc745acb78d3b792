/-! PURE: the reference's loop -/
theorem nQ.pop {M : xMem} {b tok sc : Nat} {t : List Nat} {x : qI} {r : List qI} {L : qL} (h : nQ M b t (x :: r) tok sc L) : nQ (wI M b 8 (nI r.length)) b t r tok sc L := by
  obtain ⟨h1, h2, h3, h4, h5, h6⟩ := h
  have f : rF (fun a k => a = b ∧ k = 8) M (wI M b 8 (nI r.length)) := rF.I ⟨rfl, rfl⟩
  refine ⟨h1.gr (f.mono (by intro a k; unfold rGrS; omega)), by simp (disch := omega) only [↓reduceIte, nI_leT, nI_leF, nI_ltT, nI_ltF, nI_eqT, nI_eqF, xin_T, nI_clampT, nI_add, nI_inc, pk_subT, xb_some, xval, xlet, mI_s, mI_n, mI_k, mI_2, mJ_1, mJ_s, mJ_n, mJ_k, mJ_2, mT_1, mT_2, mT_s, mT_n, mT_k, mT_3, mR_1, mR_2, mR_3, bI_0, bI_1, bI_n0, bI_n1, Bool.true_eq_false, Bool.false_eq_true, eq_self, i_0, i_1, i_2, i_3, i_4, i_5, i_6, i_7, i_8, i_9, i_10, i_11, i_12, i_13, i_14, i_15, i_16, i_17, i_18, i_19, i_20, i_21, i_22, i_23, i_24, i_25, i_26, i_27, i_28, i_29, i_30, i_31, i_32, i_33, i_34, i_35, i_36, i_37, i_38, i_39, i_40, i_41, i_42, i_43, i_44, i_45, i_48, i_49, i_57, i_59, i_60, i_61, i_62, i_64, i_97, i_110, i_122, i_123, i_125, i_126, i_127, i_160, i_255, i_300, i_400, h2], by simp (disch := omega) only [↓reduceIte, nI_leT, nI_leF, nI_ltT, nI_ltF, nI_eqT, nI_eqF, xin_T, nI_clampT, nI_add, nI_inc, pk_subT, xb_some, xval, xlet, mI_s, mI_n, mI_k, mI_2, mJ_1, mJ_s, mJ_n, mJ_k, mJ_2, mT_1, mT_2, mT_s, mT_n, mT_k, mT_3, mR_1, mR_2, mR_3, bI_0, bI_1, bI_n0, bI_n1, Bool.true_eq_false, Bool.false_eq_true, eq_self, i_0, i_1, i_2, i_3, i_4, i_5, i_6, i_7, i_8, i_9, i_10, i_11, i_12, i_13, i_14, i_15, i_16, i_17, i_18, i_19, i_20, i_21, i_22, i_23, i_24, i_25, i_26, i_27, i_28, i_29, i_30, i_31, i_32, i_33, i_34, i_35, i_36, i_37, i_38, i_39, i_40, i_41, i_42, i_43, i_44, i_45, i_48, i_49, i_57, i_59, i_60, i_61, i_62, i_64, i_97, i_110, i_122, i_123, i_125, i_126, i_127, i_160, i_255, i_300, i_400], h4.2.to ?_, by simp (disch := omega) only [↓reduceIte, nI_leT, nI_leF, nI_ltT, nI_ltF, nI_eqT, nI_eqF, xin_T, nI_clampT, nI_add, nI_inc, pk_subT, xb_some, xval, xlet, mI_s, mI_n, mI_k, mI_2, mJ_1, mJ_s, mJ_n, mJ_k, mJ_2, mT_1, mT_2, mT_s, mT_n, mT_k, mT_3, mR_1, mR_2, mR_3, bI_0, bI_1, bI_n0, bI_n1, Bool.true_eq_false, Bool.false_eq_true, eq_self, i_0, i_1, i_2, i_3, i_4, i_5, i_6, i_7, i_8, i_9, i_10, i_11, i_12, i_13, i_14, i_15, i_16, i_17, i_18, i_19, i_20, i_21, i_22, i_23, i_24, i_25, i_26, i_27, i_28, i_29, i_30, i_31, i_32, i_33, i_34, i_35, i_36, i_37, i_38, i_39, i_40, i_41, i_42, i_43, i_44, i_45, i_48, i_49, i_57, i_59, i_60, i_61, i_62, i_64, i_97, i_110, i_122, i_123, i_125, i_126, i_127, i_160, i_255, i_300, i_400, h5], h6.fr f (by intro k _ _ _ h; omega) (by intro a _ _ j h; omega)⟩
  intro a j h1 h2 h3
  exact mI_n (by omega)
theorem rk_1926 : rk 19 = 23 ∧ rk 26 = 0 ∧ rk 17 = 21 ∧ rk 20 = 24 := by decide
/-- one turn of the loop: what is on the stack is done, and the loop goes on -/
theorem r_turn {M : xMem} {b tok sc f : Nat} {t : List Nat} {x : qI} {r : List qI} {L : qL} (h : nQ M b t (x :: r) tok sc L) (h4 : M.1 b 4 = -1) (hW : gW t (x :: r, tok, sc, L)) (hv : qLv (x :: r) sc L) : ∃ M', f_N_scans_90 b (f + 1) M = f_N_scans_90 b f M' ∧ rF (rGrS b) M M' ∧ (∀ e, qStep (kT t) (wT' t) (dT t) (x :: r, tok, sc, L) = .inl e → M'.1 b 4 = nI (pS (pLex t) e)) ∧ (∀ st tok' sc' L', qStep (kT t) (wT' t) (dT t) (x :: r, tok, sc, L) = .inr (st, tok', sc', L') → nQ M' b t st tok' sc' L' ∧ M'.1 b 4 = -1) := by
  obtain ⟨w, d, a, c⟩ := x
  have ht := hW.tok
  have hT := nT_le t
  have h7 := h.2.1
  have h8 : M.1 b 8 = nI (r.length + 1) := h.2.2.1
  have hit := hW.2.2.1
  have hlen : r.length ≤ 30 := by have := q_sk_len hW.2.2; simp only [List.length_cons] at this; omega
  have q0 := h.pop
  obtain ⟨⟨i1, i2, i3, i4⟩, hst⟩ := h.2.2.2.1
  have i1 : M.1 (b + 11) r.length = nI w := i1
  have i2 : M.1 (b + 12) r.length = nI d := i2
  have i3 : M.1 (b + 13) r.length = nA (w, d, a, c) := i3
  have i4 : M.1 (b + 14) r.length = nI c := i4
  have g8 : rF (rGrS b) M (wI M b 8 (nI r.length)) := rF.I (by unfold rGrS; omega)
  have b40 : (wI M b 8 (nI r.length)).1 b 4 = -1 := by rw [mI_k (by decide)]; exact h4
  have e8 : (wI M b 8 (nI r.length)).1 b 8 = nI r.length := mI_s rfl rfl
  have e11 : (wI M b 8 (nI r.length)).1 (b + 11) r.length = nI w := by rw [mI_n (by omega)]; exact i1
  have e12 : (wI M b 8 (nI r.length)).1 (b + 12) r.length = nI d := by rw [mI_n (by omega)]; exact i2
  have e13 : (wI M b 8 (nI r.length)).1 (b + 13) r.length = nA (w, d, a, c) := by rw [mI_n (by omega)]; exact i3
  have e14 : (wI M b 8 (nI r.length)).1 (b + 14) r.length = nI c := by rw [mI_n (by omega)]; exact i4
  have x300 : xin (nI r.length) 300 = true := xin_T (by omega) (by omega)
  have cl : (nI r.length).toNatClampNeg = r.length := nI_clampT (by omega)
  have sub : nI (r.length + 1) - 1 = nI r.length := pk_subT (a := r.length + 1) (b := 1) (by omega)
  have top : ¬ (M.1 b 8 ≤ 0) := by rw [h8]; exact (nI_ge (a := 0) (b := r.length + 1) (by omega) (by omega) : ¬ nI (r.length + 1) ≤ nI 0)
  have nbad : ¬ (0 ≤ M.1 b 4) := by rw [h4]; decide
  have hw10 : 1 ≤ w ∧ w ≤ 10 := by
    have := hit.2.2.2
    have this : qIt (L 4).length (L 5).length r.length w d a c := this
    unfold qIt at this
    split at this <;> first | omega | exact absurd this id
  /- from what a method does to what the turn does -/
  have via : ∀ {R : Nat ⊕ qC} {o : Option (Unit × xMem)}, qStep (kT t) (wT' t) (dT t) ((w, d, a, c) :: r, tok, sc, L) = R → nRes (wI M b 8 (nI r.length)) b t R o → f_N_scans_90 b (f + 1) M = xbind o (fun _ M => f_N_scans_90 b f M) → ∃ M', f_N_scans_90 b (f + 1) M = f_N_scans_90 b f M' ∧ rF (rGrS b) M M' ∧ (∀ e, qStep (kT t) (wT' t) (dT t) ((w, d, a, c) :: r, tok, sc, L) = .inl e → M'.1 b 4 = nI (pS (pLex t) e)) ∧ (∀ st tok' sc' L', qStep (kT t) (wT' t) (dT t) ((w, d, a, c) :: r, tok, sc, L) = .inr (st, tok', sc', L') → nQ M' b t st tok' sc' L' ∧ M'.1 b 4 = -1) := by
    intro R o eR hR eo
    obtain ⟨M', o1, o2, o3, o4⟩ := hR
    refine ⟨M', ?_, g8.trans o2, fun e he => o3 e (by rw [← eR]; exact he), fun st tok' sc' L' he => o4 st tok' sc' L' (by rw [← eR]; exact he)⟩
    rw [eo, o1, xb_some]
  have hw : w = 1 ∨ w = 2 ∨ w = 3 ∨ w = 4 ∨ w = 5 ∨ w = 6 ∨ w = 7 ∨ w = 8 ∨ w = 9 ∨ w = 10 := by omega
  have k7 := q0.2.1
  have ks : ∀ M' : xMem, f_N_scans_90 b f M' = xbind (some ((), M')) (fun _ M => f_N_scans_90 b f M) := fun _ => rfl
  rcases hw with rfl | rfl | rfl | rfl | rfl | rfl | rfl | rfl | rfl | rfl
  · /- a list -/
    obtain ⟨hd1, hd2, hh, j1, j2, j3⟩ := hit
    have j2 : c < (L 5).length := j2
    have j3 : a = 19 ∨ a = 26 := j3
    have eA : nA (1, d, a, c) = nI (rk a) := rfl
    have es : qStep (kT t) (wT' t) (dT t) ((1, d, a, c) :: r, tok, sc, L) = qLst (kT t) d a c r tok sc L := rfl
    rw [eA] at e13
    have ok : qOk (kT t) (fun _ => tok) sc L := hW.2.1.mono (by
      intro f; unfold qBd; show (if f = 15 then tok + 0 else tok) ≤ tok; split <;> omega)
    have l5 : (L 5).length ≤ tok + 1 := by
      have := (ok.1 5).len (lo := 0) (fun x _ => Nat.zero_le _) (by omega); omega
    by_cases ck : kT t tok = a
    · have is := r_isT q0.1 k7 ht.1 ck
      by_cases c19 : a = 19
      · refine via (o := some ((), wI (wI M b 8 (nI r.length)) b 7 (nI (tok + 1)))) (es.trans (by unfold qLst; rw [if_neg (fun e => e ck), if_pos c19])) (.inr rfl gr_7 q0.at (by rw [mI_k (by decide)]; exact b40)) ?_
        rw [← ks]
        rw [f_N_scans_90, if_neg top, if_neg nbad]
        simp only [xval, xlet]
        rw [h8, sub, e8, if_pos x300, if_pos x300, if_pos x300, if_pos x300, cl, e11, e12, e13, e14, if_pos (show nI 1 = 1 from rfl)]
        rw [is, xb_some, if_neg (by decide), if_pos (show nI (rk a) = 23 by rw [c19]; rfl), k7, show nI tok + 1 = nI (tok + 1) from nI_1 tok]
        rfl
      · refine via (o := some ((), wI M b 8 (nI r.length))) (es.trans (by unfold qLst; rw [if_neg (fun e => e ck), if_neg c19])) (.inr rfl rF.rfl q0 b40) ?_
        rw [← ks]
        rw [f_N_scans_90, if_neg top, if_neg nbad]
        simp only [xval, xlet]
        rw [h8, sub, e8, if_pos x300, if_pos x300, if_pos x300, if_pos x300, cl, e11, e12, e13, e14, if_pos (show nI 1 = 1 from rfl)]
        have c26 : a = 26 := by omega
        rw [is, xb_some, if_neg (by decide), if_neg (show ¬ nI (rk a) = 23 by rw [c26]; decide)]
        rfl
    · have is := r_isF q0.1 k7 ht.1 (show a < 28 by omega) ck
      have p1 := r_push (b := b) (w := 1) (d := d) (a := nI (rk a)) (c := c) q0.2.2.1 (by omega)
      have q1 := q0.push (1, d, a, c)
      have p2 := r_push (b := b) (w := 2) (d := d) (a := nI c) (c := 0) q1.2.2.1 (by simp only [List.length_cons]; omega)
      have p1' : f_N_push b 1 (nI d) (nI (rk a)) (nI c) (wI M b 8 (nI r.length)) = some ((), mPush (wI M b 8 (nI r.length)) b r.length 1 d (nI (rk a)) c) := p1
      have p2' : f_N_push b 2 (nI d) (nI c) 0 (mPush (wI M b 8 (nI r.length)) b r.length 1 d (nI (rk a)) c) = some ((), mPush (mPush (wI M b 8 (nI r.length)) b r.length 1 d (nI (rk a)) c) b (r.length + 1) 2 d (nI c) 0) := p2
      refine via (o := some ((), mPush (mPush (wI M b 8 (nI r.length)) b r.length 1 d (nI (rk a)) c) b (r.length + 1) 2 d (nI c) 0)) (es.trans (by unfold qLst; rw [if_pos ck])) (.inr rfl (mPush_gr.trans mPush_gr) (q1.push (2, d, c + 1, 0)) (by rw [mPush_4, mPush_4]; exact b40)) ?_
      rw [← ks]
      rw [f_N_scans_90, if_neg top, if_neg nbad]
      simp only [xval, xlet]
      rw [h8, sub, e8, if_pos x300, if_pos x300, if_pos x300, if_pos x300, cl, e11, e12, e13, e14, if_pos (show nI 1 = 1 from rfl)]
      rw [is, xb_some, if_pos (show nI 0 = 0 from rfl), p1', xb_some, p2', xb_some]
      rfl
  · /- a STATEMENT -/
    have es : qStep (kT t) (wT' t) (dT t) ((2, d, a, c) :: r, tok, sc, L) = qStat (kT t) (wT' t) (dT t) d a c r tok sc L := rfl
    have eA : nA (2, d, a, c) = nB a := rfl
    rw [eA] at e13
    refine via es (rs_stat q0 b40 hW hv.2) ?_
    rw [f_N_scans_90, if_neg top, if_neg nbad]
    simp only [xval, xlet]
    rw [h8, sub, e8, if_pos x300, if_pos x300, if_pos x300, if_pos x300, cl, e11, e12, e13, e14, if_neg (show ¬ nI 2 = 1 by decide), if_pos (show nI 2 = 2 from rfl)]
    rfl
  · /- else -/
    have es : qStep (kT t) (wT' t) (dT t) ((3, d, a, c) :: r, tok, sc, L) = qOth (kT t) d r tok sc L := rfl
    by_cases ck : kT t tok = 5
    · have is : f_N_is b 9 (wI M b 8 (nI r.length)) = some (nI 1, _) := r_isT (k := 5) q0.1 k7 ht.1 ck
      have q1 := q0.at (tok' := tok + 1)
      have p1 := r_push (b := b) (w := 2) (d := d + 1) (a := nA (2, d + 1, 0, 1)) (c := 1) q1.2.2.1 (by omega)
      have p1' : f_N_push b 2 (nI (d + 1)) (-1) 1 (wI (wI M b 8 (nI r.length)) b 7 (nI (tok + 1))) = some ((), mPush (wI (wI M b 8 (nI r.length)) b 7 (nI (tok + 1))) b r.length 2 (d + 1) (nA (2, d + 1, 0, 1)) 1) := p1
      refine via (o := some ((), mPush (wI (wI M b 8 (nI r.length)) b 7 (nI (tok + 1))) b r.length 2 (d + 1) (nA (2, d + 1, 0, 1)) 1)) (es.trans (by unfold qOth; rw [if_pos ck])) (.inr rfl (gr_7.trans mPush_gr) (q1.push (2, d + 1, 0, 1)) (by rw [mPush_4, mI_k (by decide)]; exact b40)) ?_
      rw [← ks]
      rw [f_N_scans_90, if_neg top, if_neg nbad]
      simp only [xval, xlet]
      rw [h8, sub, e8, if_pos x300, if_pos x300, if_pos x300, if_pos x300, cl, e11, e12, e13, e14, if_neg (show ¬ nI 3 = 1 by decide), if_neg (show ¬ nI 3 = 2 by decide), if_pos (show nI 3 = 3 from rfl)]
      rw [is, xb_some, if_neg (by decide), k7, show nI tok + 1 = nI (tok + 1) from nI_1 tok, show nI d + 1 = nI (d + 1) from nI_1 d, p1', xb_some]
      rfl
    · have is : f_N_is b 9 (wI M b 8 (nI r.length)) = some (nI 0, _) := r_isF (k := 5) q0.1 k7 ht.1 (by omega) ck
      refine via (o := some ((), wI M b 8 (nI r.length))) (es.trans (by unfold qOth; rw [if_neg ck])) (.inr rfl rF.rfl q0 b40) ?_
      rw [← ks]
      rw [f_N_scans_90, if_neg top, if_neg nbad]
      simp only [xval, xlet]
      rw [h8, sub, e8, if_pos x300, if_pos x300, if_pos x300, if_pos x300, cl, e11, e12, e13, e14, if_neg (show ¬ nI 3 = 1 by decide), if_neg (show ¬ nI 3 = 2 by decide), if_pos (show nI 3 = 3 from rfl)]
      rw [is, xb_some, if_pos (show nI 0 = 0 from rfl)]
      rfl
  · /- one TOKEN -/
    have es : qStep (kT t) (wT' t) (dT t) ((4, d, a, c) :: r, tok, sc, L) = qOne (kT t) a r tok sc L := rfl
    have j3 : a = 17 ∨ a = 20 := hit.2.2.2
    have eA : nA (4, d, a, c) = nI (rk a) := rfl
    rw [eA] at e13
    by_cases ck : kT t tok = a
    · have tk := r_takesT q0.1 k7 b40 ht.1 ck
      refine via (o := some ((), wI (wI M b 8 (nI r.length)) b 7 (nI (tok + 1)))) (es.trans (by unfold qOne; rw [if_pos ck])) (.inr rfl gr_7 q0.at (by rw [mI_k (by decide)]; exact b40)) ?_
      rw [← ks]
      rw [f_N_scans_90, if_neg top, if_neg nbad]
      simp only [xval, xlet]
      rw [h8, sub, e8, if_pos x300, if_pos x300, if_pos x300, if_pos x300, cl, e11, e12, e13, e14, if_neg (show ¬ nI 4 = 1 by decide), if_neg (show ¬ nI 4 = 2 by decide), if_neg (show ¬ nI 4 = 3 by decide), if_pos (show nI 4 = 4 from rfl)]
      rw [tk, xb_some]
      rfl
    · have tk := r_takesF q0.1 k7 b40 ht.1 (show a < 28 by omega) ck
      refine via (o := some ((), wI (wI M b 8 (nI r.length)) b 4 (nI (pS (pLex t) tok)))) (es.trans (by unfold qOne; rw [if_neg ck])) (.inl rfl gr_4 (mI_s rfl rfl)) ?_
      rw [← ks]
      rw [f_N_scans_90, if_neg top, if_neg nbad]
      simp only [xval, xlet]
      rw [h8, sub, e8, if_pos x300, if_pos x300, if_pos x300, if_pos x300, cl, e11, e12, e13, e14, if_neg (show ¬ nI 4 = 1 by decide), if_neg (show ¬ nI 4 = 2 by decide), if_neg (show ¬ nI 4 = 3 by decide), if_pos (show nI 4 = 4 from rfl)]
      rw [tk, xb_some]
      rfl
  · /- a VALUE -/
    have es : qStep (kT t) (wT' t) (dT t) ((5, d, a, c) :: r, tok, sc, L) = qVal (kT t) d a r tok sc L := rfl
    have eA : nA (5, d, a, c) = nI a := rfl
    rw [eA] at e13
    have hW' : gW t ((5, d, a, 0) :: r, tok, sc, L) := ⟨hW.1, hW.2.1, ⟨hW.2.2.1, hW.2.2.2⟩⟩
    refine via es (rs_value q0 b40 hW') ?_
    rw [f_N_scans_90, if_neg top, if_neg nbad]
    simp only [xval, xlet]
    rw [h8, sub, e8, if_pos x300, if_pos x300, if_pos x300, if_pos x300, cl, e11, e12, e13, e14, if_neg (show ¬ nI 5 = 1 by decide), if_neg (show ¬ nI 5 = 2 by decide), if_neg (show ¬ nI 5 = 3 by decide), if_neg (show ¬ nI 5 = 4 by decide), if_pos (show nI 5 = 5 from rfl)]
    rfl
  · /- more of it -/
    have es : qStep (kT t) (wT' t) (dT t) ((6, d, a, c) :: r, tok, sc, L) = qMore (kT t) d r tok sc L := rfl
    have ok : qOk (kT t) (fun _ => tok) sc L := hW.2.1.mono (by
      intro f; unfold qBd; show (if f = 15 then tok + 0 else tok) ≤ tok; split <;> omega)
    have l16 : (L 16).length ≤ tok + 1 := by
      have := (ok.1 16).len (lo := 0) (fun x _ => Nat.zero_le _) (by omega); omega
    have isF : ∀ k, k < 28 → kT t tok ≠ k → f_N_is b (nI (rk k)) (wI M b 8 (nI r.length)) = some (nI 0, wI M b 8 (nI r.length)) := fun k h1 hk => r_isF q0.1 k7 ht.1 h1 hk
    have isT : ∀ k, kT t tok = k → f_N_is b (nI (rk k)) (wI M b 8 (nI r.length)) = some (nI 1, wI M b 8 (nI r.length)) := fun k hk => r_isT q0.1 k7 ht.1 hk
    have z1 : ¬ (nI 1 = 0) := by decide
    have z0 : nI 0 = 0 := rfl
    cases hj : qJoin (kT t tok) with
    | false =>
      unfold qJoin at hj
      simp only [Bool.or_eq_false_iff, beq_eq_false_iff_ne] at hj
      obtain ⟨⟨⟨⟨⟨n8, n9⟩, n11⟩, n12⟩, n13⟩, n14⟩ := hj
      refine via (o := some ((), wI M b 8 (nI r.length))) (es.trans (by unfold qMore; rw [if_neg (by unfold qJoin; simp [n8, n9, n11, n12, n13, n14])])) (.inr rfl rF.rfl q0 b40) ?_
      have f8 : f_N_is b 12 (wI M b 8 (nI r.length)) = some (nI 0, _) := isF 8 (by omega) n8
      have f9 : f_N_is b 13 (wI M b 8 (nI r.length)) = some (nI 0, _) := isF 9 (by omega) n9
      have f11 : f_N_is b 15 (wI M b 8 (nI r.length)) = some (nI 0, _) := isF 11 (by omega) n11
      have f12 : f_N_is b 16 (wI M b 8 (nI r.length)) = some (nI 0, _) := isF 12 (by omega) n12
      have f13 : f_N_is b 17 (wI M b 8 (nI r.length)) = some (nI 0, _) := isF 13 (by omega) n13
      have f14 : f_N_is b 18 (wI M b 8 (nI r.length)) = some (nI 0, _) := isF 14 (by omega) n14
      rw [← ks]
      rw [f_N_scans_90, if_neg top, if_neg nbad]
      simp only [xval, xlet]
      rw [h8, sub, e8, if_pos x300, if_pos x300, if_pos x300, if_pos x300, cl, e11, e12, e13, e14, if_neg (show ¬ nI 6 = 1 by decide), if_neg (show ¬ nI 6 = 2 by decide), if_neg (show ¬ nI 6 = 3 by decide), if_neg (show ¬ nI 6 = 4 by decide), if_neg (show ¬ nI 6 = 5 by decide), if_pos (show nI 6 = 6 from rfl)]
      rw [f8, xb_some, if_pos z0, f9, xb_some, if_pos z0, f11, xb_some, if_pos z0, f12, xb_some, if_pos z0, f13, xb_some, if_pos z0, f14, xb_some, if_pos z0]
      rfl
    | true =>
      have t1 := g_T t tok ht.1 (by have := qJoin_le hj; omega)
      have o363 : f_N_scans_90 b (f + 1) M = f_N_scans_363 b (f_N_scans_90 b f) (nI d) (nA (6, d, a, c)) (nI c) (wI M b 8 (nI r.length)) := by
        rw [f_N_scans_90, if_neg top, if_neg nbad]
        simp only [xval, xlet]
        rw [h8, sub, e8, if_pos x300, if_pos x300, if_pos x300, if_pos x300, cl, e11, e12, e13, e14, if_neg (show ¬ nI 6 = 1 by decide), if_neg (show ¬ nI 6 = 2 by decide), if_neg (show ¬ nI 6 = 3 by decide), if_neg (show ¬ nI 6 = 4 by decide), if_neg (show ¬ nI 6 = 5 by decide), if_pos (show nI 6 = 6 from rfl)]
        by_cases c8 : kT t tok = 8
        · rw [show f_N_is b 12 (wI M b 8 (nI r.length)) = some (nI 1, _) from isT 8 c8, xb_some, if_neg z1]
        rw [show f_N_is b 12 (wI M b 8 (nI r.length)) = some (nI 0, _) from isF 8 (by omega) c8, xb_some, if_pos z0]
        by_cases c9 : kT t tok = 9
        · rw [show f_N_is b 13 (wI M b 8 (nI r.length)) = some (nI 1, _) from isT 9 c9, xb_some, if_neg z1]
        rw [show f_N_is b 13 (wI M b 8 (nI r.length)) = some (nI 0, _) from isF 9 (by omega) c9, xb_some, if_pos z0]
        by_cases c11 : kT t tok = 11
        · rw [show f_N_is b 15 (wI M b 8 (nI r.length)) = some (nI 1, _) from isT 11 c11, xb_some, if_neg z1]
        rw [show f_N_is b 15 (wI M b 8 (nI r.length)) = some (nI 0, _) from isF 11 (by omega) c11, xb_some, if_pos z0]
        by_cases c12 : kT t tok = 12
        · rw [show f_N_is b 16 (wI M b 8 (nI r.length)) = some (nI 1, _) from isT 12 c12, xb_some, if_neg z1]
        rw [show f_N_is b 16 (wI M b 8 (nI r.length)) = some (nI 0, _) from isF 12 (by omega) c12, xb_some, if_pos z0]
        by_cases c13 : kT t tok = 13
        · rw [show f_N_is b 17 (wI M b 8 (nI r.length)) = some (nI 1, _) from isT 13 c13, xb_some, if_neg z1]
        rw [show f_N_is b 17 (wI M b 8 (nI r.length)) = some (nI 0, _) from isF 13 (by omega) c13, xb_some, if_pos z0]
        have c14 : kT t tok = 14 := by unfold qJoin at hj; simp [c8, c9, c11, c12, c13] at hj; exact hj
        rw [show f_N_is b 18 (wI M b 8 (nI r.length)) = some (nI 1, _) from isT 14 c14, xb_some, if_neg z1]
      /- behind the mark -/
      have o400 : ∀ {M1 : xMem} {L1 : qL}, nQ M1 b t r tok sc L1 → ∃ M', f_N_scans_400 b (f_N_scans_90 b f) (nI d) (nA (6, d, a, c)) (nI c) M1 = f_N_scans_90 b f M' ∧ nQ M' b t ((7, d, 0, 0) :: (6, d, 0, 0) :: r) (tok + 1) sc L1 ∧ rF (rGrS b) M1 M' ∧ M'.1 b 4 = M1.1 b 4 := by
        intro M1 L1 hq1
        have q1 := hq1.at (tok' := tok + 1)
        obtain ⟨M', u1, u2, u3, u4, u5⟩ := r_two (w1 := 6) (d1 := d) (a1 := 0) (b1 := 0) (w2 := 7) (d2 := d) (a2 := 0) (b2 := 0) q1 (by omega) (fun M => f_N_scans_90 b f M)
        refine ⟨M', ?_, u2, gr_7.trans u3, by rw [u4, mI_k (by decide)]⟩
        rw [← u1]
        unfold f_N_scans_400
        rw [hq1.2.1, show nI tok + 1 = nI (tok + 1) from nI_1 tok]
        rfl
      by_cases c9 : kT t tok = 9
      · have is9 : f_N_is b 13 (wI M b 8 (nI r.length)) = some (nI 1, _) := isT 9 c9
        have e9 := (r_kind q0.1 ht.1).2
        have h56 : (wI M b 8 (nI r.length)).1 b 56 = nI (L 16).length := q0.2.2.2.2.2.2.2.2.2.2.2.1.1
        have q1 := nQ_nLike (q := tok) q0
        obtain ⟨M', u1, u2, u3, u4⟩ := o400 q1
        refine via (o := some ((), M')) (es.trans (by unfold qMore; rw [if_pos hj, if_pos c9])) (.inr rfl (nLike_gr.trans u3) u2 (by rw [u4, nLike_4]; exact b40)) ?_
        rw [← ks, o363, ← u1]
        unfold f_N_scans_363
        rw [is9, xb_some, if_neg z1]
        show (if xin ((wI M b 8 (nI r.length)).1 b 7) 64 = true then xval ((wI M b 8 (nI r.length)).1 (b + 9) ((wI M b 8 (nI r.length)).1 b 7).toNatClampNeg) _ else none) = _
        rw [k7, if_pos (xin_T (by omega) (by omega)), nI_clampT (by omega), e9]
        show (if xin ((wI M b 8 (nI r.length)).1 b 56) 64 = true then xlet (wI (wI M b 8 (nI r.length)) (b + 30) ((wI M b 8 (nI r.length)).1 b 56).toNatClampNeg (nI (pS (pLex t) tok))) _ else none) = _
        rw [h56, if_pos (xin_T (by omega) (by omega)), nI_clampT (by omega)]
        show f_N_scans_400 b (f_N_scans_90 b f) (nI d) (nA (6, d, a, c)) (nI c) (wI (wI (wI M b 8 (nI r.length)) (b + 30) (L 16).length (nI (pS (pLex t) tok))) b 56 ((wI (wI M b 8 (nI r.length)) (b + 30) (L 16).length (nI (pS (pLex t) tok))).1 b 56 + 1)) = _
        rw [mI_n (show b ≠ b + 30 by omega), h56, show nI (L 16).length + 1 = nI ((L 16).length + 1) from nI_1 _]
        rfl
      · have is9 : f_N_is b 13 (wI M b 8 (nI r.length)) = some (nI 0, _) := isF 9 (by omega) c9
        obtain ⟨M', u1, u2, u3, u4⟩ := o400 q0
        refine via (o := some ((), M')) (es.trans (by unfold qMore; rw [if_pos hj, if_neg c9])) (.inr rfl u3 u2 (by rw [u4]; exact b40)) ?_
        rw [← ks, o363, ← u1]
        unfold f_N_scans_363
        rw [is9, xb_some, if_pos z0]
  · /- a PART -/
    have es : qStep (kT t) (wT' t) (dT t) ((7, d, a, c) :: r, tok, sc, L) = qPart (kT t) d r tok sc L := rfl
    have hW' : gW t ((7, d, 0, 0) :: r, tok, sc, L) := ⟨hW.1, hW.2.1, ⟨hW.2.2.1, hW.2.2.2⟩⟩
    refine via es (rs_part q0 b40 hW') ?_
    rw [f_N_scans_90, if_neg top, if_neg nbad]
    simp only [xval, xlet]
    rw [h8, sub, e8, if_pos x300, if_pos x300, if_pos x300, if_pos x300, cl, e11, e12, e13, e14, if_neg (show ¬ nI 7 = 1 by decide), if_neg (show ¬ nI 7 = 2 by decide), if_neg (show ¬ nI 7 = 3 by decide), if_neg (show ¬ nI 7 = 4 by decide), if_neg (show ¬ nI 7 = 5 by decide), if_neg (show ¬ nI 7 = 6 by decide), if_pos (show nI 7 = 7 from rfl)]
    rfl
  · /- the rest of a row -/
    have es : qStep (kT t) (wT' t) (dT t) ((8, d, a, c) :: r, tok, sc, L) = qRest (kT t) d r tok sc L := rfl
    by_cases c21 : kT t tok = 21
    · have is : f_N_is b 25 (wI M b 8 (nI r.length)) = some (nI 1, _) := r_isT (k := 21) q0.1 k7 ht.1 c21
      have q1 := q0.at (tok' := tok + 1)
      obtain ⟨M', u1, u2, u3, u4, u5⟩ := r_two (w1 := 8) (d1 := d) (a1 := 0) (b1 := 0) (w2 := 5) (d2 := d + 1) (a2 := 1) (b2 := 0) q1 (by omega) (fun M => f_N_scans_90 b f M)
      refine via (o := some ((), M')) (es.trans (by unfold qRest; rw [if_pos c21])) (.inr rfl (gr_7.trans u3) u2 (by rw [u4, mI_k (by decide)]; exact b40)) ?_
      rw [← ks, ← u1]
      rw [f_N_scans_90, if_neg top, if_neg nbad]
      simp only [xval, xlet]
      rw [h8, sub, e8, if_pos x300, if_pos x300, if_pos x300, if_pos x300, cl, e11, e12, e13, e14, if_neg (show ¬ nI 8 = 1 by decide), if_neg (show ¬ nI 8 = 2 by decide), if_neg (show ¬ nI 8 = 3 by decide), if_neg (show ¬ nI 8 = 4 by decide), if_neg (show ¬ nI 8 = 5 by decide), if_neg (show ¬ nI 8 = 6 by decide), if_neg (show ¬ nI 8 = 7 by decide), if_pos (show nI 8 = 8 from rfl)]
      rw [is, xb_some, if_neg (by decide), k7, show nI tok + 1 = nI (tok + 1) from nI_1 tok, show nI d + 1 = nI (d + 1) from nI_1 d]
      rfl
    · have is : f_N_is b 25 (wI M b 8 (nI r.length)) = some (nI 0, _) := r_isF (k := 21) q0.1 k7 ht.1 (by omega) c21
      by_cases c17 : kT t tok = 17
      · have tk : f_N_takes b 21 (wI M b 8 (nI r.length)) = some ((), _) := r_takesT (k := 17) q0.1 k7 b40 ht.1 c17
        refine via (o := some ((), wI (wI M b 8 (nI r.length)) b 7 (nI (tok + 1)))) (es.trans (by unfold qRest; rw [if_neg c21, if_pos c17])) (.inr rfl gr_7 q0.at (by rw [mI_k (by decide)]; exact b40)) ?_
        rw [← ks]
        rw [f_N_scans_90, if_neg top, if_neg nbad]
        simp only [xval, xlet]
        rw [h8, sub, e8, if_pos x300, if_pos x300, if_pos x300, if_pos x300, cl, e11, e12, e13, e14, if_neg (show ¬ nI 8 = 1 by decide), if_neg (show ¬ nI 8 = 2 by decide), if_neg (show ¬ nI 8 = 3 by decide), if_neg (show ¬ nI 8 = 4 by decide), if_neg (show ¬ nI 8 = 5 by decide), if_neg (show ¬ nI 8 = 6 by decide), if_neg (show ¬ nI 8 = 7 by decide), if_pos (show nI 8 = 8 from rfl)]
        rw [is, xb_some, if_pos (show nI 0 = 0 from rfl), tk, xb_some]
        rfl
      · have tk : f_N_takes b 21 (wI M b 8 (nI r.length)) = some ((), _) := r_takesF (k := 17) q0.1 k7 b40 ht.1 (by omega) c17
        refine via (o := some ((), wI (wI M b 8 (nI r.length)) b 4 (nI (pS (pLex t) tok)))) (es.trans (by unfold qRest; rw [if_neg c21, if_neg c17])) (.inl rfl gr_4 (mI_s rfl rfl)) ?_
        rw [← ks]
        rw [f_N_scans_90, if_neg top, if_neg nbad]
        simp only [xval, xlet]
        rw [h8, sub, e8, if_pos x300, if_pos x300, if_pos x300, if_pos x300, cl, e11, e12, e13, e14, if_neg (show ¬ nI 8 = 1 by decide), if_neg (show ¬ nI 8 = 2 by decide), if_neg (show ¬ nI 8 = 3 by decide), if_neg (show ¬ nI 8 = 4 by decide), if_neg (show ¬ nI 8 = 5 by decide), if_neg (show ¬ nI 8 = 6 by decide), if_neg (show ¬ nI 8 = 7 by decide), if_pos (show nI 8 = 8 from rfl)]
        rw [is, xb_some, if_pos (show nI 0 = 0 from rfl), tk, xb_some]
        rfl
  · /- out of a SCOPE -/
    have es : qStep (kT t) (wT' t) (dT t) ((9, d, a, c) :: r, tok, sc, L) = .inr (r, tok, (qg (L 0) sc).1, L) := rfl
    have ok := hW.2.1
    have hsc : sc < (L 0).length := ok.2.1
    have l0 := hW.len
    have h1 : (qg (L 0) sc).2.2.2.1 = 1 + nOuts r := hv.1
    have e15 : (wI M b 8 (nI r.length)).1 (b + 15) sc = nI (qg (L 0) sc).1 := by
      have := q0.2.2.2.2.2.1.at (c := (15, fun e => if e.2.2.2.1 = 0 then -1 else nI e.1)) (by simp [c0]) hsc
      dsimp only at this
      rw [if_neg (by omega)] at this
      exact this
    have e28 : (wI M b 8 (nI r.length)).1 b 28 = nI sc := q0.2.2.2.2.1
    refine via (o := some ((), nScp (wI M b 8 (nI r.length)) b (qg (L 0) sc).1)) es (.inr rfl nScp_gr (nQ_nScp q0) (by rw [nScp_4]; exact b40)) ?_
    rw [← ks]
    rw [f_N_scans_90, if_neg top, if_neg nbad]
    simp only [xval, xlet]
    rw [h8, sub, e8, if_pos x300, if_pos x300, if_pos x300, if_pos x300, cl, e11, if_neg (show ¬ nI 9 = 1 by decide), if_neg (show ¬ nI 9 = 2 by decide), if_neg (show ¬ nI 9 = 3 by decide), if_neg (show ¬ nI 9 = 4 by decide), if_neg (show ¬ nI 9 = 5 by decide), if_neg (show ¬ nI 9 = 6 by decide), if_neg (show ¬ nI 9 = 7 by decide), if_neg (show ¬ nI 9 = 8 by decide), if_pos (show nI 9 = 9 from rfl), e28, if_pos (xin_T (by omega) (by omega)), nI_clampT (by omega), e15]
    rfl
  · /- an excuse ends -/
    have es : qStep (kT t) (wT' t) (dT t) ((10, d, a, c) :: r, tok, sc, L) = .inr (r, tok, sc, qM 4 a (fun e => (e.1, e.2.1, tok, e.2.2.2)) L) := rfl
    have ha : a < (L 4).length := hit.2.2.2
    have ok := hW.2.1
    have eA : nA (10, d, a, c) = nI a := rfl
    rw [eA] at e13
    have h2 : 2 ≤ (qg (L 4) a).2.1 := (ok.2.2.2.2.2.2.2.2 _ (qg_mem ha)).2
    have hk : (qg (L 4) a).2.1 ≤ tok := by
      have := (ok.1 4).2 _ (qg_mem ha)
      have e : qBd ((10, d, a, c) :: r) tok 4 = tok := rfl
      rw [e] at this
      exact this
    have l4 : (L 4).length ≤ tok + 1 := by
      have := (ok.1 4).len (lo := 0) (fun x _ => Nat.zero_le _) (by omega)
      have e : qBd ((10, d, a, c) :: r) tok 4 = tok := rfl
      rw [e] at this
      omega
    have e10 : (wI M b 8 (nI r.length)).1 (b + 10) (tok - 1) = nI (pE (pLex t) (tok - 1)) := (q0.1.2.2.1 (tok - 1) (by omega)).2.2
    refine via (o := some ((), wI (wI M b 8 (nI r.length)) (b + 38) a (nI (pE (pLex t) (tok - 1)) - 1))) es (.inr rfl (rF.I (by unfold rGrS; omega)) (nQ_close q0) (by rw [mI_n (by omega)]; exact b40)) ?_
    rw [← ks]
    rw [f_N_scans_90, if_neg top, if_neg nbad]
    simp only [xval, xlet]
    rw [h8, sub, e8, if_pos x300, if_pos x300, if_pos x300, if_pos x300, cl, e11, e13, if_neg (show ¬ nI 10 = 1 by decide), if_neg (show ¬ nI 10 = 2 by decide), if_neg (show ¬ nI 10 = 3 by decide), if_neg (show ¬ nI 10 = 4 by decide), if_neg (show ¬ nI 10 = 5 by decide), if_neg (show ¬ nI 10 = 6 by decide), if_neg (show ¬ nI 10 = 7 by decide), if_neg (show ¬ nI 10 = 8 by decide), if_neg (show ¬ nI 10 = 9 by decide), k7, show nI tok - 1 = nI (tok - 1) from pk_subT (a := tok) (b := 1) (by omega), if_pos (xin_T (by omega) (by omega)), nI_clampT (n := tok - 1) (by omega), e10, if_pos (xin_T (by omega) (by omega)), nI_clampT (n := a) (by omega)]
    rfl
/-- all turns -/
theorem r_turns {b : Nat} {t : List Nat} : ∀ (m f : Nat) (M : xMem) (st : List qI) (tok sc : Nat) (L : qL) (R : Nat ⊕ qC), m + 1 < f → nQ M b t st tok sc L → M.1 b 4 = -1 → gW t (st, tok, sc, L) → qLv st sc L → qGo (kT t) (wT' t) (dT t) m (st, tok, sc, L) = R → ((∃ e, R = .inl e ∧ e ≤ nT t) ∨ ∃ tok sc L, R = .inr ([], tok, sc, L)) → ∃ M', f_N_scans_90 b f M = f_N_scans_527 b M' ∧ rF (rGrS b) M M' ∧ (∀ e, R = .inl e → M'.1 b 4 = nI (pS (pLex t) e)) ∧ (∀ tok sc L, R = .inr ([], tok, sc, L) → nQ M' b t [] tok sc L ∧ M'.1 b 4 = -1) := by
  have stop : ∀ (f : Nat) (M : xMem) (e : Nat), M.1 b 4 = nI e → e ≤ 160 → f_N_scans_90 b (f + 1) M = f_N_scans_527 b M := by
    intro f M e h4 he
    rw [f_N_scans_90]
    by_cases c : M.1 b 8 ≤ 0
    · rw [if_pos c]
    · rw [if_neg c, if_pos (show 0 ≤ M.1 b 4 by rw [h4]; exact nI_le (Nat.zero_le _) (by omega))]
  have done : ∀ (f : Nat) (M : xMem) (tok sc : Nat) (L : qL), nQ M b t [] tok sc L → f_N_scans_90 b (f + 1) M = f_N_scans_527 b M := by
    intro f M tok sc L h
    rw [f_N_scans_90, if_pos (show M.1 b 8 ≤ 0 by rw [h.2.2.1]; decide)]
  intro m
  induction m with
  | zero =>
    intro f M st tok sc L R hf h h4 hW hv hg hR
    obtain ⟨f, rfl⟩ : ∃ k, f = k + 1 := ⟨f - 1, by omega⟩
    rw [qGo] at hg
    rcases hR with ⟨e, he, _⟩ | ⟨tok', sc', L', he⟩
    · rw [he] at hg; cases hg
    · rw [he] at hg; cases hg
      exact ⟨M, done f M _ _ _ h, rF.rfl, fun e h' => (by rw [he] at h'; cases h'), fun _ _ _ h' => by rw [he] at h'; cases h'; exact ⟨h, h4⟩⟩
  | succ m ih =>
    intro f M st tok sc L R hf h h4 hW hv hg hR
    obtain ⟨f, rfl⟩ : ∃ k, f = k + 1 := ⟨f - 1, by omega⟩
    cases st with
    | nil =>
      rw [qGo_nil] at hg
      subst hg
      exact ⟨M, done f M _ _ _ h, rF.rfl, fun e h' => (by cases h'), fun _ _ _ h' => by cases h'; exact ⟨h, h4⟩⟩
    | cons x r =>
      obtain ⟨M1, o1, o2, o3, o4⟩ := r_turn (f := f) h h4 hW hv
      rw [qGo] at hg
      cases hs : qStep (kT t) (wT' t) (dT t) (x :: r, tok, sc, L) with
      | inl e =>
        rw [hs] at hg
        have hg : Sum.inl e = R := hg
        subst hg
        have b4 := o3 e hs
        have le := pS_lt t e h.1.1.2.1
        obtain ⟨f, rfl⟩ : ∃ k, f = k + 1 := ⟨f - 1, by omega⟩
        exact ⟨M1, o1.trans (stop f M1 _ b4 le), o2, fun e' h' => (by cases h'; exact b4), fun _ _ _ h' => by cases h'⟩
      | inr c =>
        obtain ⟨st', tok', sc', L'⟩ := c
        rw [hs] at hg
        obtain ⟨p1, p2⟩ := o4 _ _ _ _ hs
        have W' : gW t (st', tok', sc', L') := q_well_step (g_T t) hW hs
        have v' := lv_step hW.2.1.2.2.1 hW.2.1.2.1 hv hs
        obtain ⟨M', u1, u2, u3⟩ := ih f M1 st' tok' sc' L' R (by omega) p1 p2 W' v' hg hR
        exact ⟨M', o1.trans u1, o2.trans u2, u3⟩
/-- what scans() may write, belongs() left out -/
theorem rScS_of {b a k : Nat} (h : rGrS b a k ∨ rCutS b a k) : rScS b a k := by
  unfold rGrS rCutS at h; unfold rScS; omega
def mZero (M : xMem) (b : Nat) : xMem := wI (wI (wI (wI (wI (wI (wI (wI (wI (wI (wI (wI (wI (wI (wI M b 7 (nI 0)) b 4 (-1)) b 8 (nI 0)) b 27 (nI 0)) b 28 (-1)) b 29 (nI 0)) b 36 (nI 0)) b 41 (nI 0)) b 54 (nI 0)) b 55 (nI 0)) b 56 (nI 0)) b 57 (nI 0)) b 58 (nI 0)) b 59 (nI 0)) b 60 (nI 0)
theorem mZero_gr {M : xMem} {b : Nat} : rF (rGrS b) M (mZero M b) := by
  unfold mZero
  exact ((((((((((((((rF.I (by unfold rGrS; omega)).trans (rF.I (by unfold rGrS; omega))).trans (rF.I (by unfold rGrS; omega))).trans (rF.I (by unfold rGrS; omega))).trans (rF.I (by unfold rGrS; omega))).trans (rF.I (by unfold rGrS; omega))).trans (rF.I (by unfold rGrS; omega))).trans (rF.I (by unfold rGrS; omega))).trans (rF.I (by unfold rGrS; omega))).trans (rF.I (by unfold rGrS; omega))).trans (rF.I (by unfold rGrS; omega))).trans (rF.I (by unfold rGrS; omega))).trans (rF.I (by unfold rGrS; omega))).trans (rF.I (by unfold rGrS; omega))).trans (rF.I (by unfold rGrS; omega))
/-- the memory as the reference's loop begins -/
def mBegin (M : xMem) (b : Nat) : xMem := nLst (wI (wI (wI (wI (mZero M b) (b + 15) 0 (-1)) (b + 17) 0 (nI 1)) b 28 (nI 0)) b 27 (nI 1)) b 0 0 1 0
theorem r_begin {M : xMem} {b : Nat} {t : List Nat} (h : rLx M b t) (K : xMem → Option (Unit × xMem)) : (xlet (wI M b 7 0) fun M => xlet (wI M b 4 (-1)) fun M => xlet (wI M b 8 0) fun M => xlet (wI M b 27 0) fun M => xlet (wI M b 28 (-1)) fun M => xlet (wI M b 29 0) fun M => xlet (wI M b 36 0) fun M => xlet (wI M b 41 0) fun M => xlet (wI M b 54 0) fun M => xlet (wI M b 55 0) fun M => xlet (wI M b 56 0) fun M => xlet (wI M b 57 0) fun M => xlet (wI M b 58 0) fun M => xlet (wI M b 59 0) fun M => xlet (wI M b 60 0) fun M => xbind (f_N_enters b 1 M) fun _ M => xbind (f_N_lists b 1 0 M) fun _ M => K M) = K (mBegin M b) ∧ nQ (mBegin M b) b t q0.1 0 0 q0.2.2.2 ∧ (mBegin M b).1 b 4 = -1 ∧ rF (rGrS b) M (mBegin M b) := by
  have g0 := mZero_gr (M := M) (b := b)
  have z27 : (mZero M b).1 b 27 = nI 0 := by unfold mZero; simp (disch := omega) only [↓reduceIte, nI_leT, nI_leF, nI_ltT, nI_ltF, nI_eqT, nI_eqF, xin_T, nI_clampT, nI_add, nI_inc, pk_subT, xb_some, xval, xlet, mI_s, mI_n, mI_k, mI_2, mJ_1, mJ_s, mJ_n, mJ_k, mJ_2, mT_1, mT_2, mT_s, mT_n, mT_k, mT_3, mR_1, mR_2, mR_3, bI_0, bI_1, bI_n0, bI_n1, Bool.true_eq_false, Bool.false_eq_true, eq_self, i_0, i_1, i_2, i_3, i_4, i_5, i_6, i_7, i_8, i_9, i_10, i_11, i_12, i_13, i_14, i_15, i_16, i_17, i_18, i_19, i_20, i_21, i_22, i_23, i_24, i_25, i_26, i_27, i_28, i_29, i_30, i_31, i_32, i_33, i_34, i_35, i_36, i_37, i_38, i_39, i_40, i_41, i_42, i_43, i_44, i_45, i_48, i_49, i_57, i_59, i_60, i_61, i_62, i_64, i_97, i_110, i_122, i_123, i_125, i_126, i_127, i_160, i_255, i_300, i_400]
  have z28 : (mZero M b).1 b 28 = -1 := by unfold mZero; rw [mI_k (by decide), mI_k (by decide), mI_k (by decide), mI_k (by decide), mI_k (by decide), mI_k (by decide), mI_k (by decide), mI_k (by decide), mI_k (by decide), mI_k (by decide), mI_s rfl rfl]
  have z29 : (mZero M b).1 b 29 = nI 0 := by unfold mZero; simp (disch := omega) only [↓reduceIte, nI_leT, nI_leF, nI_ltT, nI_ltF, nI_eqT, nI_eqF, xin_T, nI_clampT, nI_add, nI_inc, pk_subT, xb_some, xval, xlet, mI_s, mI_n, mI_k, mI_2, mJ_1, mJ_s, mJ_n, mJ_k, mJ_2, mT_1, mT_2, mT_s, mT_n, mT_k, mT_3, mR_1, mR_2, mR_3, bI_0, bI_1, bI_n0, bI_n1, Bool.true_eq_false, Bool.false_eq_true, eq_self, i_0, i_1, i_2, i_3, i_4, i_5, i_6, i_7, i_8, i_9, i_10, i_11, i_12, i_13, i_14, i_15, i_16, i_17, i_18, i_19, i_20, i_21, i_22, i_23, i_24, i_25, i_26, i_27, i_28, i_29, i_30, i_31, i_32, i_33, i_34, i_35, i_36, i_37, i_38, i_39, i_40, i_41, i_42, i_43, i_44, i_45, i_48, i_49, i_57, i_59, i_60, i_61, i_62, i_64, i_97, i_110, i_122, i_123, i_125, i_126, i_127, i_160, i_255, i_300, i_400]
  have z8 : (mZero M b).1 b 8 = nI 0 := by unfold mZero; simp (disch := omega) only [↓reduceIte, nI_leT, nI_leF, nI_ltT, nI_ltF, nI_eqT, nI_eqF, xin_T, nI_clampT, nI_add, nI_inc, pk_subT, xb_some, xval, xlet, mI_s, mI_n, mI_k, mI_2, mJ_1, mJ_s, mJ_n, mJ_k, mJ_2, mT_1, mT_2, mT_s, mT_n, mT_k, mT_3, mR_1, mR_2, mR_3, bI_0, bI_1, bI_n0, bI_n1, Bool.true_eq_false, Bool.false_eq_true, eq_self, i_0, i_1, i_2, i_3, i_4, i_5, i_6, i_7, i_8, i_9, i_10, i_11, i_12, i_13, i_14, i_15, i_16, i_17, i_18, i_19, i_20, i_21, i_22, i_23, i_24, i_25, i_26, i_27, i_28, i_29, i_30, i_31, i_32, i_33, i_34, i_35, i_36, i_37, i_38, i_39, i_40, i_41, i_42, i_43, i_44, i_45, i_48, i_49, i_57, i_59, i_60, i_61, i_62, i_64, i_97, i_110, i_122, i_123, i_125, i_126, i_127, i_160, i_255, i_300, i_400]
  have z7 : (mZero M b).1 b 7 = nI 0 := by unfold mZero; simp (disch := omega) only [↓reduceIte, nI_leT, nI_leF, nI_ltT, nI_ltF, nI_eqT, nI_eqF, xin_T, nI_clampT, nI_add, nI_inc, pk_subT, xb_some, xval, xlet, mI_s, mI_n, mI_k, mI_2, mJ_1, mJ_s, mJ_n, mJ_k, mJ_2, mT_1, mT_2, mT_s, mT_n, mT_k, mT_3, mR_1, mR_2, mR_3, bI_0, bI_1, bI_n0, bI_n1, Bool.true_eq_false, Bool.false_eq_true, eq_self, i_0, i_1, i_2, i_3, i_4, i_5, i_6, i_7, i_8, i_9, i_10, i_11, i_12, i_13, i_14, i_15, i_16, i_17, i_18, i_19, i_20, i_21, i_22, i_23, i_24, i_25, i_26, i_27, i_28, i_29, i_30, i_31, i_32, i_33, i_34, i_35, i_36, i_37, i_38, i_39, i_40, i_41, i_42, i_43, i_44, i_45, i_48, i_49, i_57, i_59, i_60, i_61, i_62, i_64, i_97, i_110, i_122, i_123, i_125, i_126, i_127, i_160, i_255, i_300, i_400]
  have z4 : (mZero M b).1 b 4 = -1 := by unfold mZero; rw [mI_k (by decide), mI_k (by decide), mI_k (by decide), mI_k (by decide), mI_k (by decide), mI_k (by decide), mI_k (by decide), mI_k (by decide), mI_k (by decide), mI_k (by decide), mI_k (by decide), mI_k (by decide), mI_k (by decide), mI_s rfl rfl]
  have en : f_N_enters b 1 (mZero M b) = some ((), wI (wI (wI (wI (mZero M b) (b + 15) 0 (-1)) (b + 17) 0 (nI 1)) b 28 (nI 0)) b 27 (nI 1)) := by
    have z28' : (mZero M b).1 b 28 = -nI 1 := z28
    unfold f_N_enters
    simp (disch := omega) only [↓reduceIte, nI_leT, nI_leF, nI_ltT, nI_ltF, nI_eqT, nI_eqF, xin_T, nI_clampT, nI_add, nI_inc, pk_subT, xb_some, xval, xlet, mI_s, mI_n, mI_k, mI_2, mJ_1, mJ_s, mJ_n, mJ_k, mJ_2, mT_1, mT_2, mT_s, mT_n, mT_k, mT_3, mR_1, mR_2, mR_3, bI_0, bI_1, bI_n0, bI_n1, Bool.true_eq_false, Bool.false_eq_true, eq_self, i_0, i_1, i_2, i_3, i_4, i_5, i_6, i_7, i_8, i_9, i_10, i_11, i_12, i_13, i_14, i_15, i_16, i_17, i_18, i_19, i_20, i_21, i_22, i_23, i_24, i_25, i_26, i_27, i_28, i_29, i_30, i_31, i_32, i_33, i_34, i_35, i_36, i_37, i_38, i_39, i_40, i_41, i_42, i_43, i_44, i_45, i_48, i_49, i_57, i_59, i_60, i_61, i_62, i_64, i_97, i_110, i_122, i_123, i_125, i_126, i_127, i_160, i_255, i_300, i_400, z27, z28', vp_narB1]
  generalize hM1 : wI (wI (wI (wI (mZero M b) (b + 15) 0 (-1)) (b + 17) 0 (nI 1)) b 28 (nI 0)) b 27 (nI 1) = M1 at *
  have eB : mBegin M b = nLst M1 b 0 0 1 0 := by unfold mBegin; rw [hM1]
  have a29 : M1.1 b 29 = nI 0 := by rw [← hM1]; simp (disch := omega) only [↓reduceIte, nI_leT, nI_leF, nI_ltT, nI_ltF, nI_eqT, nI_eqF, xin_T, nI_clampT, nI_add, nI_inc, pk_subT, xb_some, xval, xlet, mI_s, mI_n, mI_k, mI_2, mJ_1, mJ_s, mJ_n, mJ_k, mJ_2, mT_1, mT_2, mT_s, mT_n, mT_k, mT_3, mR_1, mR_2, mR_3, bI_0, bI_1, bI_n0, bI_n1, Bool.true_eq_false, Bool.false_eq_true, eq_self, i_0, i_1, i_2, i_3, i_4, i_5, i_6, i_7, i_8, i_9, i_10, i_11, i_12, i_13, i_14, i_15, i_16, i_17, i_18, i_19, i_20, i_21, i_22, i_23, i_24, i_25, i_26, i_27, i_28, i_29, i_30, i_31, i_32, i_33, i_34, i_35, i_36, i_37, i_38, i_39, i_40, i_41, i_42, i_43, i_44, i_45, i_48, i_49, i_57, i_59, i_60, i_61, i_62, i_64, i_97, i_110, i_122, i_123, i_125, i_126, i_127, i_160, i_255, i_300, i_400, z29]
  have a8 : M1.1 b 8 = nI 0 := by rw [← hM1]; simp (disch := omega) only [↓reduceIte, nI_leT, nI_leF, nI_ltT, nI_ltF, nI_eqT, nI_eqF, xin_T, nI_clampT, nI_add, nI_inc, pk_subT, xb_some, xval, xlet, mI_s, mI_n, mI_k, mI_2, mJ_1, mJ_s, mJ_n, mJ_k, mJ_2, mT_1, mT_2, mT_s, mT_n, mT_k, mT_3, mR_1, mR_2, mR_3, bI_0, bI_1, bI_n0, bI_n1, Bool.true_eq_false, Bool.false_eq_true, eq_self, i_0, i_1, i_2, i_3, i_4, i_5, i_6, i_7, i_8, i_9, i_10, i_11, i_12, i_13, i_14, i_15, i_16, i_17, i_18, i_19, i_20, i_21, i_22, i_23, i_24, i_25, i_26, i_27, i_28, i_29, i_30, i_31, i_32, i_33, i_34, i_35, i_36, i_37, i_38, i_39, i_40, i_41, i_42, i_43, i_44, i_45, i_48, i_49, i_57, i_59, i_60, i_61, i_62, i_64, i_97, i_110, i_122, i_123, i_125, i_126, i_127, i_160, i_255, i_300, i_400, z8]
  have li : f_N_lists b 1 0 M1 = some ((), nLst M1 b 0 0 1 0) := r_lists (d := 1) (k := 0) a29 a8 (by omega) (by omega)
  have g1 : rF (rGrS b) M M1 := by
    rw [← hM1]
    exact (((g0.trans (rF.I (by unfold rGrS; omega))).trans (rF.I (by unfold rGrS; omega))).trans (rF.I (by unfold rGrS; omega))).trans (rF.I (by unfold rGrS; omega))
  have gBB : rF (rGrS b) M (nLst M1 b 0 0 1 0) := g1.trans nLst_gr
  /- the scalars that are 0 -/
  have sz : ∀ k, (k = 36 ∨ k = 41 ∨ k = 54 ∨ k = 55 ∨ k = 56 ∨ k = 57 ∨ k = 58 ∨ k = 59 ∨ k = 60) → (nLst M1 b 0 0 1 0).1 b k = nI 0 := by
    intro k hk
    rw [nLst_fr.2 _ _ (by unfold nLstS; omega), ← hM1, mI_k (by omega), mI_k (by omega), mI_n (by omega), mI_n (by omega)]
    rcases hk with rfl | rfl | rfl | rfl | rfl | rfl | rfl | rfl | rfl <;> (unfold mZero; simp (disch := omega) only [↓reduceIte, nI_leT, nI_leF, nI_ltT, nI_ltF, nI_eqT, nI_eqF, xin_T, nI_clampT, nI_add, nI_inc, pk_subT, xb_some, xval, xlet, mI_s, mI_n, mI_k, mI_2, mJ_1, mJ_s, mJ_n, mJ_k, mJ_2, mT_1, mT_2, mT_s, mT_n, mT_k, mT_3, mR_1, mR_2, mR_3, bI_0, bI_1, bI_n0, bI_n1, Bool.true_eq_false, Bool.false_eq_true, eq_self, i_0, i_1, i_2, i_3, i_4, i_5, i_6, i_7, i_8, i_9, i_10, i_11, i_12, i_13, i_14, i_15, i_16, i_17, i_18, i_19, i_20, i_21, i_22, i_23, i_24, i_25, i_26, i_27, i_28, i_29, i_30, i_31, i_32, i_33, i_34, i_35, i_36, i_37, i_38, i_39, i_40, i_41, i_42, i_43, i_44, i_45, i_48, i_49, i_57, i_59, i_60, i_61, i_62, i_64, i_97, i_110, i_122, i_123, i_125, i_126, i_127, i_160, i_255, i_300, i_400])
  have a15 : (nLst M1 b 0 0 1 0).1 (b + 15) 0 = -1 := by
    rw [nLst_fr.2 _ _ (by unfold nLstS; omega), ← hM1, mI_n (by omega), mI_n (by omega), mI_n (by omega), mI_s rfl rfl]
  have a17 : (nLst M1 b 0 0 1 0).1 (b + 17) 0 = nI 1 := by
    rw [nLst_fr.2 _ _ (by unfold nLstS; omega), ← hM1]; simp (disch := omega) only [↓reduceIte, nI_leT, nI_leF, nI_ltT, nI_ltF, nI_eqT, nI_eqF, xin_T, nI_clampT, nI_add, nI_inc, pk_subT, xb_some, xval, xlet, mI_s, mI_n, mI_k, mI_2, mJ_1, mJ_s, mJ_n, mJ_k, mJ_2, mT_1, mT_2, mT_s, mT_n, mT_k, mT_3, mR_1, mR_2, mR_3, bI_0, bI_1, bI_n0, bI_n1, Bool.true_eq_false, Bool.false_eq_true, eq_self, i_0, i_1, i_2, i_3, i_4, i_5, i_6, i_7, i_8, i_9, i_10, i_11, i_12, i_13, i_14, i_15, i_16, i_17, i_18, i_19, i_20, i_21, i_22, i_23, i_24, i_25, i_26, i_27, i_28, i_29, i_30, i_31, i_32, i_33, i_34, i_35, i_36, i_37, i_38, i_39, i_40, i_41, i_42, i_43, i_44, i_45, i_48, i_49, i_57, i_59, i_60, i_61, i_62, i_64, i_97, i_110, i_122, i_123, i_125, i_126, i_127, i_160, i_255, i_300, i_400]
  have a27 : (nLst M1 b 0 0 1 0).1 b 27 = nI 1 := by
    rw [nLst_fr.2 _ _ (by unfold nLstS; omega), ← hM1]; simp (disch := omega) only [↓reduceIte, nI_leT, nI_leF, nI_ltT, nI_ltF, nI_eqT, nI_eqF, xin_T, nI_clampT, nI_add, nI_inc, pk_subT, xb_some, xval, xlet, mI_s, mI_n, mI_k, mI_2, mJ_1, mJ_s, mJ_n, mJ_k, mJ_2, mT_1, mT_2, mT_s, mT_n, mT_k, mT_3, mR_1, mR_2, mR_3, bI_0, bI_1, bI_n0, bI_n1, Bool.true_eq_false, Bool.false_eq_true, eq_self, i_0, i_1, i_2, i_3, i_4, i_5, i_6, i_7, i_8, i_9, i_10, i_11, i_12, i_13, i_14, i_15, i_16, i_17, i_18, i_19, i_20, i_21, i_22, i_23, i_24, i_25, i_26, i_27, i_28, i_29, i_30, i_31, i_32, i_33, i_34, i_35, i_36, i_37, i_38, i_39, i_40, i_41, i_42, i_43, i_44, i_45, i_48, i_49, i_57, i_59, i_60, i_61, i_62, i_64, i_97, i_110, i_122, i_123, i_125, i_126, i_127, i_160, i_255, i_300, i_400]
  have a28 : (nLst M1 b 0 0 1 0).1 b 28 = nI 0 := by
    rw [nLst_fr.2 _ _ (by unfold nLstS; omega), ← hM1]; simp (disch := omega) only [↓reduceIte, nI_leT, nI_leF, nI_ltT, nI_ltF, nI_eqT, nI_eqF, xin_T, nI_clampT, nI_add, nI_inc, pk_subT, xb_some, xval, xlet, mI_s, mI_n, mI_k, mI_2, mJ_1, mJ_s, mJ_n, mJ_k, mJ_2, mT_1, mT_2, mT_s, mT_n, mT_k, mT_3, mR_1, mR_2, mR_3, bI_0, bI_1, bI_n0, bI_n1, Bool.true_eq_false, Bool.false_eq_true, eq_self, i_0, i_1, i_2, i_3, i_4, i_5, i_6, i_7, i_8, i_9, i_10, i_11, i_12, i_13, i_14, i_15, i_16, i_17, i_18, i_19, i_20, i_21, i_22, i_23, i_24, i_25, i_26, i_27, i_28, i_29, i_30, i_31, i_32, i_33, i_34, i_35, i_36, i_37, i_38, i_39, i_40, i_41, i_42, i_43, i_44, i_45, i_48, i_49, i_57, i_59, i_60, i_61, i_62, i_64, i_97, i_110, i_122, i_123, i_125, i_126, i_127, i_160, i_255, i_300, i_400]
  have b29 : (nLst M1 b 0 0 1 0).1 b 29 = nI 1 := by unfold nLst; simp (disch := omega) only [↓reduceIte, nI_leT, nI_leF, nI_ltT, nI_ltF, nI_eqT, nI_eqF, xin_T, nI_clampT, nI_add, nI_inc, pk_subT, xb_some, xval, xlet, mI_s, mI_n, mI_k, mI_2, mJ_1, mJ_s, mJ_n, mJ_k, mJ_2, mT_1, mT_2, mT_s, mT_n, mT_k, mT_3, mR_1, mR_2, mR_3, bI_0, bI_1, bI_n0, bI_n1, Bool.true_eq_false, Bool.false_eq_true, eq_self, i_0, i_1, i_2, i_3, i_4, i_5, i_6, i_7, i_8, i_9, i_10, i_11, i_12, i_13, i_14, i_15, i_16, i_17, i_18, i_19, i_20, i_21, i_22, i_23, i_24, i_25, i_26, i_27, i_28, i_29, i_30, i_31, i_32, i_33, i_34, i_35, i_36, i_37, i_38, i_39, i_40, i_41, i_42, i_43, i_44, i_45, i_48, i_49, i_57, i_59, i_60, i_61, i_62, i_64, i_97, i_110, i_122, i_123, i_125, i_126, i_127, i_160, i_255, i_300, i_400]
  have a16 : (nLst M1 b 0 0 1 0).1 (b + 16) 0 = nI 0 := by
    unfold nLst; rw [mI_n (by omega), mPush_fr.2 _ _ (by unfold rStS; omega), mI_s rfl rfl]
  have b8 : (nLst M1 b 0 0 1 0).1 b 8 = nI 1 := by unfold nLst; rw [mI_k (by decide), mPush_8]
  have b7 : (nLst M1 b 0 0 1 0).1 b 7 = nI 0 := by
    rw [nLst_fr.2 _ _ (by unfold nLstS; omega), ← hM1]; simp (disch := omega) only [↓reduceIte, nI_leT, nI_leF, nI_ltT, nI_ltF, nI_eqT, nI_eqF, xin_T, nI_clampT, nI_add, nI_inc, pk_subT, xb_some, xval, xlet, mI_s, mI_n, mI_k, mI_2, mJ_1, mJ_s, mJ_n, mJ_k, mJ_2, mT_1, mT_2, mT_s, mT_n, mT_k, mT_3, mR_1, mR_2, mR_3, bI_0, bI_1, bI_n0, bI_n1, Bool.true_eq_false, Bool.false_eq_true, eq_self, i_0, i_1, i_2, i_3, i_4, i_5, i_6, i_7, i_8, i_9, i_10, i_11, i_12, i_13, i_14, i_15, i_16, i_17, i_18, i_19, i_20, i_21, i_22, i_23, i_24, i_25, i_26, i_27, i_28, i_29, i_30, i_31, i_32, i_33, i_34, i_35, i_36, i_37, i_38, i_39, i_40, i_41, i_42, i_43, i_44, i_45, i_48, i_49, i_57, i_59, i_60, i_61, i_62, i_64, i_97, i_110, i_122, i_123, i_125, i_126, i_127, i_160, i_255, i_300, i_400, z7]
  have b4 : (nLst M1 b 0 0 1 0).1 b 4 = -1 := by
    rw [nLst_4, ← hM1, mI_k (by decide), mI_k (by decide), mI_n (by omega), mI_n (by omega)]; exact z4
  have sk : nStk (nLst M1 b 0 0 1 0) b [(1, 1, 26, 0)] := by
    refine ⟨⟨?_, ?_, ?_, ?_⟩, trivial⟩
    · show (nLst M1 b 0 0 1 0).1 (b + 11) 0 = nI 1
      unfold nLst mPush; simp (disch := omega) only [↓reduceIte, nI_leT, nI_leF, nI_ltT, nI_ltF, nI_eqT, nI_eqF, xin_T, nI_clampT, nI_add, nI_inc, pk_subT, xb_some, xval, xlet, mI_s, mI_n, mI_k, mI_2, mJ_1, mJ_s, mJ_n, mJ_k, mJ_2, mT_1, mT_2, mT_s, mT_n, mT_k, mT_3, mR_1, mR_2, mR_3, bI_0, bI_1, bI_n0, bI_n1, Bool.true_eq_false, Bool.false_eq_true, eq_self, i_0, i_1, i_2, i_3, i_4, i_5, i_6, i_7, i_8, i_9, i_10, i_11, i_12, i_13, i_14, i_15, i_16, i_17, i_18, i_19, i_20, i_21, i_22, i_23, i_24, i_25, i_26, i_27, i_28, i_29, i_30, i_31, i_32, i_33, i_34, i_35, i_36, i_37, i_38, i_39, i_40, i_41, i_42, i_43, i_44, i_45, i_48, i_49, i_57, i_59, i_60, i_61, i_62, i_64, i_97, i_110, i_122, i_123, i_125, i_126, i_127, i_160, i_255, i_300, i_400]
    · show (nLst M1 b 0 0 1 0).1 (b + 12) 0 = nI 1
      unfold nLst mPush; simp (disch := omega) only [↓reduceIte, nI_leT, nI_leF, nI_ltT, nI_ltF, nI_eqT, nI_eqF, xin_T, nI_clampT, nI_add, nI_inc, pk_subT, xb_some, xval, xlet, mI_s, mI_n, mI_k, mI_2, mJ_1, mJ_s, mJ_n, mJ_k, mJ_2, mT_1, mT_2, mT_s, mT_n, mT_k, mT_3, mR_1, mR_2, mR_3, bI_0, bI_1, bI_n0, bI_n1, Bool.true_eq_false, Bool.false_eq_true, eq_self, i_0, i_1, i_2, i_3, i_4, i_5, i_6, i_7, i_8, i_9, i_10, i_11, i_12, i_13, i_14, i_15, i_16, i_17, i_18, i_19, i_20, i_21, i_22, i_23, i_24, i_25, i_26, i_27, i_28, i_29, i_30, i_31, i_32, i_33, i_34, i_35, i_36, i_37, i_38, i_39, i_40, i_41, i_42, i_43, i_44, i_45, i_48, i_49, i_57, i_59, i_60, i_61, i_62, i_64, i_97, i_110, i_122, i_123, i_125, i_126, i_127, i_160, i_255, i_300, i_400]
    · show (nLst M1 b 0 0 1 0).1 (b + 13) 0 = nI 0
      unfold nLst mPush; simp (disch := omega) only [↓reduceIte, nI_leT, nI_leF, nI_ltT, nI_ltF, nI_eqT, nI_eqF, xin_T, nI_clampT, nI_add, nI_inc, pk_subT, xb_some, xval, xlet, mI_s, mI_n, mI_k, mI_2, mJ_1, mJ_s, mJ_n, mJ_k, mJ_2, mT_1, mT_2, mT_s, mT_n, mT_k, mT_3, mR_1, mR_2, mR_3, bI_0, bI_1, bI_n0, bI_n1, Bool.true_eq_false, Bool.false_eq_true, eq_self, i_0, i_1, i_2, i_3, i_4, i_5, i_6, i_7, i_8, i_9, i_10, i_11, i_12, i_13, i_14, i_15, i_16, i_17, i_18, i_19, i_20, i_21, i_22, i_23, i_24, i_25, i_26, i_27, i_28, i_29, i_30, i_31, i_32, i_33, i_34, i_35, i_36, i_37, i_38, i_39, i_40, i_41, i_42, i_43, i_44, i_45, i_48, i_49, i_57, i_59, i_60, i_61, i_62, i_64, i_97, i_110, i_122, i_123, i_125, i_126, i_127, i_160, i_255, i_300, i_400]
    · show (nLst M1 b 0 0 1 0).1 (b + 14) 0 = nI 0
      unfold nLst mPush; simp (disch := omega) only [↓reduceIte, nI_leT, nI_leF, nI_ltT, nI_ltF, nI_eqT, nI_eqF, xin_T, nI_clampT, nI_add, nI_inc, pk_subT, xb_some, xval, xlet, mI_s, mI_n, mI_k, mI_2, mJ_1, mJ_s, mJ_n, mJ_k, mJ_2, mT_1, mT_2, mT_s, mT_n, mT_k, mT_3, mR_1, mR_2, mR_3, bI_0, bI_1, bI_n0, bI_n1, Bool.true_eq_false, Bool.false_eq_true, eq_self, i_0, i_1, i_2, i_3, i_4, i_5, i_6, i_7, i_8, i_9, i_10, i_11, i_12, i_13, i_14, i_15, i_16, i_17, i_18, i_19, i_20, i_21, i_22, i_23, i_24, i_25, i_26, i_27, i_28, i_29, i_30, i_31, i_32, i_33, i_34, i_35, i_36, i_37, i_38, i_39, i_40, i_41, i_42, i_43, i_44, i_45, i_48, i_49, i_57, i_59, i_60, i_61, i_62, i_64, i_97, i_110, i_122, i_123, i_125, i_126, i_127, i_160, i_255, i_300, i_400]
  have nil : ∀ (k : Nat) (cs : List (Nat × (qE → Int32))), (nLst M1 b 0 0 1 0).1 b k = nI 0 → nL (nLst M1 b 0 0 1 0) b k [] cs := by
    intro k cs hk
    exact ⟨hk, fun c _ i hi => absurd hi (by simp)⟩
  refine ⟨?_, ?_, by rw [eB]; exact b4, by rw [eB]; exact gBB⟩
  · rw [eB]
    show xbind (f_N_enters b 1 (mZero M b)) _ = _
    rw [en, xb_some, li, xb_some]
  · rw [eB]
    refine ⟨h.gr gBB, b7, b8, sk, a28, ⟨a27, ?_⟩, ⟨b29, ?_⟩, nil _ _ (sz 36 (by omega)), nil _ _ (sz 41 (by omega)), nil _ _ (sz 54 (by omega)), nil _ _ (sz 55 (by omega)), nil _ _ (sz 56 (by omega)), nil _ _ (sz 57 (by omega)), nil _ _ (sz 58 (by omega)), nil _ _ (sz 59 (by omega)), nil _ _ (sz 60 (by omega)), ?_⟩
    · intro c hc i hi
      have : i = 0 := by have : i < 1 := hi; omega
      subst this
      simp only [c0, List.mem_cons, List.not_mem_nil, or_false] at hc
      rcases hc with rfl | rfl
      · exact a15
      · exact a17
    · intro c hc i hi
      have : i = 0 := by have : i < 1 := hi; omega
      subst this
      simp only [c5, List.mem_cons, List.not_mem_nil, or_false] at hc
      rcases hc with rfl
      exact a16
    · intro i hi; exact absurd (show i < 0 from hi) (by omega)
theorem lv_0 : qLv q0.1 0 q0.2.2.2 := by
  refine ⟨rfl, ?_⟩
  intro e he
  have he : e ∈ [(0, 0, 0, 0, 0)] := he
  rw [List.mem_singleton] at he
  subst he; exact Nat.zero_le _
/-- the reference's scans(), up to belongs() -/
theorem r_scans {M : xMem} {b : Nat} {t : List Nat} (h : rTx M b t) : ∃ M', f_N_scans b M = f_N_scans_527 b M' ∧ rF (rScS b) M M' ∧ (∀ e, qRun (kT t) (wT' t) (dT t) = .inl e → M'.1 b 4 = nI (pS (pLex t) e)) ∧ (∀ tok sc L, qRun (kT t) (wT' t) (dT t) = .inr ([], tok, sc, L) → nQ M' b t [] tok sc L ∧ M'.1 b 4 = -1) := by
  obtain ⟨M1, e1, e2, e3⟩ := r_cuts h
  obtain ⟨u1, u2, u3, u4⟩ := r_begin e2 (fun M => f_N_scans_90 b xFuel M)
  have hT := nT_le t
  have hr : ((∃ e, qRun (kT t) (wT' t) (dT t) = .inl e ∧ e ≤ nT t) ∨ ∃ tok sc L, qRun (kT t) (wT' t) (dT t) = .inr ([], tok, sc, L)) := by
    rcases q_run_ends (wd := wT' t) (dg := dT t) (g_T t) hT with ⟨e, a1, a2⟩ | ⟨tok, sc, L, a⟩
    · exact .inl ⟨e, a2, a1⟩
    · exact .inr ⟨tok, sc, L, a⟩
  obtain ⟨M', v1, v2, v3, v4⟩ := r_turns 600 xFuel (mBegin M1 b) q0.1 0 0 q0.2.2.2 (qRun (kT t) (wT' t) (dT t)) (by unfold xFuel; omega) u2 u3 q_well_0 lv_0 rfl hr
  refine ⟨M', ?_, ((e3.mono (fun a k hs => rScS_of (.inr hs))).trans (u4.mono (fun a k hs => rScS_of (.inl hs)))).trans (v2.mono (fun a k hs => rScS_of (.inl hs))), v3, v4⟩
  unfold f_N_scans
  rw [e1, xb_some]
  exact u1.trans v1
