/-! PURE: the class's grammar goes with the machine: STATEMENTS of one kind -/
def qBehN (tk : Nat → Nat) (T : Nat) : Nat → Nat → Nat
  | 0, p => p
  | m + 1, p => if p < T ∧ tk p = 22 then qBehN tk T m (p + 2) else p
theorem qBehN_same {tk : Nat → Nat} {T : Nat} : ∀ (m m' p : Nat), T ≤ p + m → T ≤ p + m' → qBehN tk T m p = qBehN tk T m' p := by
  intro m
  induction m with
  | zero =>
    intro m' p h1 h2
    cases m' with
    | zero => rfl
    | succ m' => rw [qBehN, qBehN, if_neg (by omega)]
  | succ m ih =>
    intro m' p h1 h2
    cases m' with
    | zero => rw [qBehN, qBehN, if_neg (by omega)]
    | succ m' =>
      rw [qBehN, qBehN]
      split
      · exact ih m' (p + 2) (by omega) (by omega)
      · rfl
/-- behind the excuses that begin at p -/
def qBeh (t : List Nat) (p : Nat) : Nat := qBehN (kT t) (nT t) 61 p
theorem qBeh_at {t : List Nat} {p : Nat} (h : p < nT t) (hk : kT t p = 22) : qBeh t p = qBeh t (p + 2) := by
  have := nT_le t
  unfold qBeh
  rw [show (61 : Nat) = 60 + 1 from rfl, qBehN, if_pos ⟨h, hk⟩]
  exact qBehN_same _ _ _ (by omega) (by omega)
theorem qBeh_no {t : List Nat} {p : Nat} (hk : kT t p ≠ 22) : qBeh t p = p := by
  unfold qBeh
  rw [show (61 : Nat) = 60 + 1 from rfl, qBehN, if_neg (fun h => hk h.2)]
theorem p_behindExcuses_2 {M : xMem} {b : Nat} {t : List Nat} {p1 : Int32} (h : pLx M b t) : ∀ (m p fuel : Nat), nT t ≤ p + m → p ≤ nT t + 1 → m < fuel → f_T_behindExcuses_2 b p1 fuel (nI p) M = some (nI (qBehN (kT t) (nT t) m p), M) := by
  have hs : M.1 (b + 2) 6 = nI (nT t) := h.2.1
  have hT := nT_le t
  intro m
  induction m with
  | zero =>
    intro p fuel h1 h2 hf
    obtain ⟨f, rfl⟩ : ∃ f, fuel = f + 1 := ⟨fuel - 1, by omega⟩
    rw [f_T_behindExcuses_2, qBehN]
    simp (disch := omega) only [↓reduceIte, nI_leT, nI_leF, nI_ltT, nI_ltF, nI_eqT, nI_eqF, xin_T, nI_clampT, nI_add, nI_inc, pk_subT, xb_some, xval, xlet, mI_s, mI_n, mI_k, mI_2, mJ_1, mJ_s, mJ_n, mJ_k, mJ_2, mT_1, mT_2, mT_s, mT_n, mT_k, mT_3, mR_1, mR_2, mR_3, bI_0, bI_1, bI_n0, bI_n1, Bool.true_eq_false, Bool.false_eq_true, eq_self, i_0, i_1, i_2, i_3, i_4, i_5, i_6, i_7, i_8, i_9, i_10, i_11, i_12, i_13, i_14, i_15, i_16, i_17, i_18, i_19, i_20, i_21, i_22, i_23, i_24, i_25, i_26, i_27, i_28, i_29, i_30, i_31, i_32, i_33, i_34, i_35, i_36, i_37, i_38, i_39, i_40, i_41, i_42, i_43, i_44, i_45, i_48, i_49, i_57, i_59, i_60, i_61, i_62, i_64, i_97, i_110, i_122, i_123, i_125, i_126, i_127, i_160, i_255, i_300, i_400, hs]
  | succ m ih =>
    intro p fuel h1 h2 hf
    obtain ⟨f, rfl⟩ : ∃ f, fuel = f + 1 := ⟨fuel - 1, by omega⟩
    rw [f_T_behindExcuses_2]
    by_cases c1 : p < nT t
    · have kn := p_kindOf h (i := p) (by omega)
      have kl := kT_lt t p
      by_cases c2 : kT t p = 22
      · have ih' := ih (p + 2) f (by omega) (by omega) (by omega)
        have e2 : nI p + Int32.ofInt 2 = nI (p + 2) := nI_add p 2
        have e3 : qBehN (kT t) (nT t) (m + 1) p = qBehN (kT t) (nT t) m (p + 2) := by rw [qBehN, if_pos ⟨c1, c2⟩]
        rw [e3]
        rw [c2] at kn
        have k22 : (22 : Nat) < 28 := by omega
        simp (disch := omega) only [↓reduceIte, nI_leT, nI_leF, nI_ltT, nI_ltF, nI_eqT, nI_eqF, xin_T, nI_clampT, nI_add, nI_inc, pk_subT, xb_some, xval, xlet, mI_s, mI_n, mI_k, mI_2, mJ_1, mJ_s, mJ_n, mJ_k, mJ_2, mT_1, mT_2, mT_s, mT_n, mT_k, mT_3, mR_1, mR_2, mR_3, bI_0, bI_1, bI_n0, bI_n1, Bool.true_eq_false, Bool.false_eq_true, eq_self, i_0, i_1, i_2, i_3, i_4, i_5, i_6, i_7, i_8, i_9, i_10, i_11, i_12, i_13, i_14, i_15, i_16, i_17, i_18, i_19, i_20, i_21, i_22, i_23, i_24, i_25, i_26, i_27, i_28, i_29, i_30, i_31, i_32, i_33, i_34, i_35, i_36, i_37, i_38, i_39, i_40, i_41, i_42, i_43, i_44, i_45, i_48, i_49, i_57, i_59, i_60, i_61, i_62, i_64, i_97, i_110, i_122, i_123, i_125, i_126, i_127, i_160, i_255, i_300, i_400, hs, kn, k22, e2]
        exact ih'
      · have e3 : qBehN (kT t) (nT t) (m + 1) p = p := by rw [qBehN, if_neg (fun h => c2 h.2)]
        rw [e3]
        simp (disch := omega) only [↓reduceIte, nI_leT, nI_leF, nI_ltT, nI_ltF, nI_eqT, nI_eqF, xin_T, nI_clampT, nI_add, nI_inc, pk_subT, xb_some, xval, xlet, mI_s, mI_n, mI_k, mI_2, mJ_1, mJ_s, mJ_n, mJ_k, mJ_2, mT_1, mT_2, mT_s, mT_n, mT_k, mT_3, mR_1, mR_2, mR_3, bI_0, bI_1, bI_n0, bI_n1, Bool.true_eq_false, Bool.false_eq_true, eq_self, i_0, i_1, i_2, i_3, i_4, i_5, i_6, i_7, i_8, i_9, i_10, i_11, i_12, i_13, i_14, i_15, i_16, i_17, i_18, i_19, i_20, i_21, i_22, i_23, i_24, i_25, i_26, i_27, i_28, i_29, i_30, i_31, i_32, i_33, i_34, i_35, i_36, i_37, i_38, i_39, i_40, i_41, i_42, i_43, i_44, i_45, i_48, i_49, i_57, i_59, i_60, i_61, i_62, i_64, i_97, i_110, i_122, i_123, i_125, i_126, i_127, i_160, i_255, i_300, i_400, hs, kn, kl, c2]
    · have e3 : qBehN (kT t) (nT t) (m + 1) p = p := by rw [qBehN, if_neg (fun h => c1 h.1)]
      rw [e3]
      simp (disch := omega) only [↓reduceIte, nI_leT, nI_leF, nI_ltT, nI_ltF, nI_eqT, nI_eqF, xin_T, nI_clampT, nI_add, nI_inc, pk_subT, xb_some, xval, xlet, mI_s, mI_n, mI_k, mI_2, mJ_1, mJ_s, mJ_n, mJ_k, mJ_2, mT_1, mT_2, mT_s, mT_n, mT_k, mT_3, mR_1, mR_2, mR_3, bI_0, bI_1, bI_n0, bI_n1, Bool.true_eq_false, Bool.false_eq_true, eq_self, i_0, i_1, i_2, i_3, i_4, i_5, i_6, i_7, i_8, i_9, i_10, i_11, i_12, i_13, i_14, i_15, i_16, i_17, i_18, i_19, i_20, i_21, i_22, i_23, i_24, i_25, i_26, i_27, i_28, i_29, i_30, i_31, i_32, i_33, i_34, i_35, i_36, i_37, i_38, i_39, i_40, i_41, i_42, i_43, i_44, i_45, i_48, i_49, i_57, i_59, i_60, i_61, i_62, i_64, i_97, i_110, i_122, i_123, i_125, i_126, i_127, i_160, i_255, i_300, i_400, hs]
theorem p_behindExcuses {M : xMem} {b p : Nat} {t : List Nat} (h : pLx M b t) (hp : p ≤ nT t) : f_T_behindExcuses b (nI p) M = some (nI (qBeh t p), M) :=
  p_behindExcuses_2 h 61 p 2000 (by have := nT_le t; omega) (by omega) (by omega)
theorem qBehN_le {tk : Nat → Nat} {T : Nat} : ∀ (m p : Nat), p ≤ T + 1 → p ≤ qBehN tk T m p ∧ qBehN tk T m p ≤ T + 1 := by
  intro m
  induction m with
  | zero => intro p h; rw [qBehN]; omega
  | succ m ih =>
    intro p h
    rw [qBehN]
    split
    · have := ih (p + 2) (by omega); omega
    · omega
theorem qBeh_le {t : List Nat} {p : Nat} (h : p ≤ nT t) : p ≤ qBeh t p ∧ qBeh t p ≤ nT t + 1 := qBehN_le 61 p (by omega)
/-- with the mark of a STATEMENT behind a return -/
def qDead (a p : Nat) (L : qL) : qL := if a ≠ 0 ∧ (qg (L 5) (a - 1)).1 = 1 then qA 15 (p, 0, 0, 0, 0) L else L
theorem qDead_0 {p : Nat} {L : qL} : qDead 0 p L = L := by unfold qDead; rw [if_neg (by omega)]
theorem qDead_at {a p g : Nat} {L : qL} (hg : g ≠ 15) : qDead a p L g = L g := by
  unfold qDead; split
  · exact qA_n _ _ hg
  · rfl
theorem qNote_dead {a p k g : Nat} {L : qL} (hg : g ≠ 5) : qNote a p k L g = qDead a p L g := by
  unfold qNote qDead; dsimp only
  by_cases c : a = 0
  · rw [if_pos c, if_neg (by omega)]
  · rw [if_neg c]
    by_cases c2 : (qg (L 5) (a - 1)).1 = 1
    · rw [if_pos c2, if_pos (show a ≠ 0 ∧ (qg (L 5) (a - 1)).1 = 1 from ⟨c, c2⟩), qA_at, qA_at, qM_n _ _ _ hg]
    · rw [if_neg c2, if_neg (show ¬ (a ≠ 0 ∧ (qg (L 5) (a - 1)).1 = 1) from fun h => c2 h.2), qM_n _ _ _ hg]
theorem rC.note {M : xMem} {b tok sc a p k : Nat} {t : List Nat} {L : qL} (h : rC M b t tok sc (qDead a p L)) : rC M b t tok sc (qNote a p k L) :=
  h.cong (qNote_dead (by omega)) (qNote_dead (by omega)) (qNote_dead (by omega)) (qNote_dead (by omega)) (fun f h1 h2 => qNote_dead (by omega))
theorem gKp_note {a p k : Nat} {L : qL} : gKp a L (qNote a p k L) := by
  refine ⟨⟨by rw [q_note_5]; exact Nat.le_refl _, ?_⟩, ⟨by rw [q_note_4]; exact Nat.le_refl _, fun i _ => by rw [q_note_4]⟩, ⟨by rw [q_note_at (by decide) (by decide)]; exact Nat.le_refl _, fun i _ => by rw [q_note_at (by decide) (by decide)]⟩⟩
  intro i hi ha
  unfold qNote; dsimp only
  by_cases c : a = 0
  · rw [if_pos c]
  · rw [if_neg c]
    split
    · rw [qA_n _ _ (by decide), qM_s, qg_modn (by omega)]
    · rw [qM_s, qg_modn (by omega)]
theorem qNote_flag {a p k : Nat} {L : qL} (ha : a ≠ 0) (hl : a ≤ (L 5).length) : (qg (qNote a p k L 5) (a - 1)).1 = if k = 7 then 1 else 0 := by
  unfold qNote; dsimp only
  rw [if_neg ha]
  split
  · rw [qA_n _ _ (by decide), qM_s, qg_mod (by omega)]
  · rw [qM_s, qg_mod (by omega)]
/-- a STATEMENT of one kind: it begins with TOKEN tok, which has been noted -/
def gMid (b : Nat) (t : List Nat) (rest : List qI) (d a how tok sc : Nat) (L : qL) (M : xMem) (o : Option (Int32 × xMem)) : Prop :=
  gOut b t ((2, d, a, how) :: rest, tok, sc, L) M o (gS b t rest tok sc (qNote a tok (kT t tok) L))
theorem g_stat {t : List Nat} {rest : List qI} {d a how tok sc : Nat} {L : qL} : qStep (kT t) (wT' t) (dT t) ((2, d, a, how) :: rest, tok, sc, L) = qStat (kT t) (wT' t) (dT t) d a how rest tok sc L := rfl
/-- what p_declare wants to know -/
theorem g_hb {tk m : Nat → Nat} {sc : Nat} {L : qL} (h : qOk tk m sc L) (h1 : m 1 ≤ 100) (h0 : (L 0).length ≤ 100) : ∀ i, i < (L 1).length → (qg (L 1) i).2.1 < 1000 ∧ (qg (L 1) i).1 < 1000 ∧ (qg (L 1) i).2.2.1 < 1000 := by
  intro i hi
  have k := h.2.2.2.1 i hi
  have q := q_iv_lt h.1 hi
  exact ⟨by omega, by omega, by omega⟩
theorem ok_len1 {tk m : Nat → Nat} {sc : Nat} {L : qL} (h : qOk tk m sc L) : (L 1).length ≤ m 1 := by
  have := (h.1 1).len (lo := 1) (fun x _ => q_key1 1 (by omega) (by omega) (by omega) x) (by omega)
  omega
theorem ok_len0 {tk m : Nat → Nat} {sc : Nat} {L : qL} (h : qOk tk m sc L) : (L 0).length ≤ m 0 + 1 := by
  have := (h.1 0).len (lo := 0) (fun x _ => Nat.zero_le _) (by omega)
  omega
theorem ok_home {tk m : Nat → Nat} {sc : Nat} {L : qL} (h : qOk tk m sc L) : qHome L sc < (L 0).length := by
  have h1 := h.2.2.1.home sc h.2.1
  have h2 := h.2.1
  unfold qHome; omega
theorem gW.note {t : List Nat} {rest : List qI} {d a how tok sc k : Nat} {L : qL} (h : gW t ((2, d, a, how) :: rest, tok, sc, L)) : qOk (kT t) (fun g => if g = 15 then tok + 1 else tok) sc (qNote a tok k L) := by
  have h2 : qOk (kT t) (qBd ((2, d, a, how) :: rest) tok) sc L := h.2.1
  have h3 : qOk (kT t) (fun _ => tok) sc L := h2.mono (by
    intro f; unfold qBd; show (if f = 15 then tok + 0 else tok) ≤ tok; split <;> omega)
  exact ok_note h3 (Nat.le_refl _)
theorem rC.th {M M' : xMem} {b tok sc : Nat} {t : List Nat} {L L' : qL} (h : rC M b t tok sc L) (f : pFr (b + 12) (b + 23) M M') (h2 : rL M' b (wT' t) L') : rC M' b t tok sc L' :=
  ⟨h.1.fr f (by omega), by rw [(f.1 (b + 29) (by omega)).1]; exact h.2.1, by rw [(f.1 (b + 29) (by omega)).1]; exact h.2.2.1, h2⟩
theorem g_var_72 {b : Nat} {t : List Nat} {rc : Nat → Int32 → Int32 → Int32 → xMem → Option (Int32 × xMem)} {n : Nat} (hV : sVal b t rc n) {d a how tok sc k v : Nat} {M M0 : xMem} {L : qL} {rest : List qI} (hn : 4 * (12 - d) + 1 ≤ n) (hd : d ≤ 12) (hh : ¬ (how % 2 = 1 ∧ kT t tok ≤ 3)) (hk : kT t tok = k) (hk2 : k ≤ 2) (h23 : kT t (tok + 1) = 23) (hv : (v = 1 ∧ (k = 1 ∨ kT t (tok + 2) = 10)) ∨ (v = 0 ∧ k ≠ 1 ∧ kT t (tok + 2) ≠ 10)) (hW : gW t ((2, d, a, how) :: rest, tok, sc, L)) (f0 : pFr (b + 8) (b + 30) M0 M) (hR : rC M b t (tok + 2) sc (qNote a tok (kT t tok) L)) : gMid b t rest d a how tok sc L M0 (f_P_variable_72 rc b (nI d) (nI k) (nI (tok + 1)) (nI v) (nI (if k = 2 then qHome (qNote a tok (kT t tok) L) sc else sc)) M) := by
  have ht := hW.tok
  have t1 := g_T t tok ht.1 (by omega)
  have t2 := g_T t (tok + 1) t1 (by omega)
  have hT := nT_le t
  have ok := hW.note (k := kT t tok)
  have l1 : (qNote a tok (kT t tok) L 1).length ≤ tok := ok_len1 ok
  have l0 : (qNote a tok (kT t tok) L 0).length ≤ tok + 1 := ok_len0 ok
  have hm := ok_home ok
  have hsc : sc < (qNote a tok (kT t tok) L 0).length := ok.2.1
  have pl := pLex_len t
  have hlt : tok + 1 < (pLex t).length := by unfold nT at t2; omega
  have hv1 : v ≤ 1 := by omega
  obtain ⟨M1, d1, d2, d3⟩ := p_declare (tok := tok + 1) (k := k) (sc := sc) (v := v) hR.1 hR.2.2.2 (by omega) hlt (by omega) hv1 (by omega) (by split <;> omega) (g_hb ok (by show tok ≤ 100; omega) (by omega))
  have r1 := hR.th d3 d2
  have fr1 : pFr (b + 8) (b + 30) M0 M1 := f0.trans (d3.mono (by omega) (by omega))
  have es : qStep (kT t) (wT' t) (dT t) ((2, d, a, how) :: rest, tok, sc, L) = qsVar (kT t) (wT' t) d (kT t tok) rest tok sc (qNote a tok (kT t tok) L) := by
    rw [g_stat]; unfold qStat
    rw [if_neg (by omega), if_neg (by omega), if_pos (by omega)]
  unfold gMid
  generalize hL1 : qNote a tok (kT t tok) L = L1 at *
  have gd : ∀ g, g ≠ 1 → g ≠ 14 → qDecL (wT' t) (tok + 1) k sc L1 g = L1 g := fun g h1 h2 => q_dec_at h1 h2
  unfold f_P_variable_72 f_P_variable_114
  rcases hv with ⟨rfl, hv⟩ | ⟨rfl, hv, hv2⟩
  · have tk := p_take (k := 10) r1 (by omega) (by omega)
    by_cases c : kT t (tok + 2) = 10
    · rw [if_pos c] at tk
      have t3 := g_T t (tok + 2) t2 (by omega)
      have st : gTo t ((2, d, a, how) :: rest, tok, sc, L) (.inr ((5, d + 1, 1, 0) :: (4, d, 20, 0) :: rest, tok + 3, sc, qLetL k tok (qDecT (wT' t) (tok + 1) k sc L1) (qDecL (wT' t) (tok + 1) k sc L1))) := gTo.one (by
        rw [es, hk]; unfold qsVar; rw [if_neg (by omega), if_neg (by omega), if_neg (by omega)])
      have r2 : rC (wI M1 (b + 29) 4 (nI (tok + 3))) b t (tok + 3) sc (qLetL k tok (qDecT (wT' t) (tok + 1) k sc L1) (qDecL (wT' t) (tok + 1) k sc L1)) := by
        refine (r1.at (tok' := tok + 3)).cong ?_ ?_ ?_ ?_ ?_
        · unfold qLetL qDecV; rw [if_pos rfl]; split <;> rfl
        · unfold qLetL qDecV; rw [if_pos rfl]; split <;> rfl
        · unfold qLetL qDecV; rw [if_pos rfl]; split <;> rfl
        · unfold qLetL qDecV; rw [if_pos rfl]; split <;> rfl
        · intro f h1 h2; unfold qLetL qDecV; rw [if_pos rfl]; split
          · rw [qA_n _ _ (by omega)]
          · rfl
      have gb : gKp 0 L1 (qLetL k tok (qDecT (wT' t) (tok + 1) k sc L1) (qDecL (wT' t) (tok + 1) k sc L1)) := gKp.same (by rw [q_let_5, q_dec_5]) (by rw [q_let_4, q_dec_4]) (by rw [q_let_at (by decide) (by decide), q_dec_at (by decide) (by decide)])
      rcases (hV (d + 1) 1 _ (tok + 3) sc _ ((4, d, 20, 0) :: rest) (by omega) (by omega) (hW.to st) r2).from st (fr1.trans fr_at) with ⟨M', c', q1, q2, q3, tok', L', s1, s2, s3, s4⟩ | ⟨M', e, q1, q2, q3, q4⟩
      · subst s1
        have ht' := (hW.to q2).tok
        have tk2 := p_take (k := 20) s2 (by omega) (by omega)
        by_cases c6 : kT t tok' = 20
        · rw [if_pos c6] at tk2
          have st2 : gTo t ((4, d, 20, 0) :: rest, tok', sc, L') (.inr (rest, tok' + 1, sc, L')) := gTo.one (by
            show qOne (kT t) 20 rest tok' sc L' = _
            unfold qOne; rw [if_pos c6])
          refine .inl ⟨_, _, ?_, q2.trans st2, q3.trans fr_at, tok' + 1, _, rfl, s2.at (tok' := tok' + 1), by omega, gb.trans s4⟩
          simp (disch := omega) only [↓reduceIte, nI_leT, nI_leF, nI_ltT, nI_ltF, nI_eqT, nI_eqF, xin_T, nI_clampT, nI_add, nI_inc, pk_subT, xb_some, xval, xlet, mI_s, mI_n, mI_k, mI_2, mJ_1, mJ_s, mJ_n, mJ_k, mJ_2, mT_1, mT_2, mT_s, mT_n, mT_k, mT_3, mR_1, mR_2, mR_3, bI_0, bI_1, bI_n0, bI_n1, Bool.true_eq_false, Bool.false_eq_true, eq_self, i_0, i_1, i_2, i_3, i_4, i_5, i_6, i_7, i_8, i_9, i_10, i_11, i_12, i_13, i_14, i_15, i_16, i_17, i_18, i_19, i_20, i_21, i_22, i_23, i_24, i_25, i_26, i_27, i_28, i_29, i_30, i_31, i_32, i_33, i_34, i_35, i_36, i_37, i_38, i_39, i_40, i_41, i_42, i_43, i_44, i_45, i_48, i_49, i_57, i_59, i_60, i_61, i_62, i_64, i_97, i_110, i_122, i_123, i_125, i_126, i_127, i_160, i_255, i_300, i_400, d1, tk, q1, tk2, xnarB1]
        · rw [if_neg c6] at tk2
          have st2 : gTo t ((4, d, 20, 0) :: rest, tok', sc, L') (.inl tok') := gTo.one (by
            show qOne (kT t) 20 rest tok' sc L' = _
            unfold qOne; rw [if_neg c6])
          refine .inr ⟨M', tok', ?_, q2.trans st2, q3, s2.2.1⟩
          simp (disch := omega) only [↓reduceIte, nI_leT, nI_leF, nI_ltT, nI_ltF, nI_eqT, nI_eqF, xin_T, nI_clampT, nI_add, nI_inc, pk_subT, xb_some, xval, xlet, mI_s, mI_n, mI_k, mI_2, mJ_1, mJ_s, mJ_n, mJ_k, mJ_2, mT_1, mT_2, mT_s, mT_n, mT_k, mT_3, mR_1, mR_2, mR_3, bI_0, bI_1, bI_n0, bI_n1, Bool.true_eq_false, Bool.false_eq_true, eq_self, i_0, i_1, i_2, i_3, i_4, i_5, i_6, i_7, i_8, i_9, i_10, i_11, i_12, i_13, i_14, i_15, i_16, i_17, i_18, i_19, i_20, i_21, i_22, i_23, i_24, i_25, i_26, i_27, i_28, i_29, i_30, i_31, i_32, i_33, i_34, i_35, i_36, i_37, i_38, i_39, i_40, i_41, i_42, i_43, i_44, i_45, i_48, i_49, i_57, i_59, i_60, i_61, i_62, i_64, i_97, i_110, i_122, i_123, i_125, i_126, i_127, i_160, i_255, i_300, i_400, d1, tk, q1, tk2, xnarB0]
      · refine .inr ⟨M', e, ?_, q2, q3, q4⟩
        simp (disch := omega) only [↓reduceIte, nI_leT, nI_leF, nI_ltT, nI_ltF, nI_eqT, nI_eqF, xin_T, nI_clampT, nI_add, nI_inc, pk_subT, xb_some, xval, xlet, mI_s, mI_n, mI_k, mI_2, mJ_1, mJ_s, mJ_n, mJ_k, mJ_2, mT_1, mT_2, mT_s, mT_n, mT_k, mT_3, mR_1, mR_2, mR_3, bI_0, bI_1, bI_n0, bI_n1, Bool.true_eq_false, Bool.false_eq_true, eq_self, i_0, i_1, i_2, i_3, i_4, i_5, i_6, i_7, i_8, i_9, i_10, i_11, i_12, i_13, i_14, i_15, i_16, i_17, i_18, i_19, i_20, i_21, i_22, i_23, i_24, i_25, i_26, i_27, i_28, i_29, i_30, i_31, i_32, i_33, i_34, i_35, i_36, i_37, i_38, i_39, i_40, i_41, i_42, i_43, i_44, i_45, i_48, i_49, i_57, i_59, i_60, i_61, i_62, i_64, i_97, i_110, i_122, i_123, i_125, i_126, i_127, i_160, i_255, i_300, i_400, d1, tk, q1]
    · rw [if_neg c] at tk
      refine .inr ⟨M1, tok + 2, ?_, gTo.one ?_, fr1, r1.2.1⟩
      · simp (disch := omega) only [↓reduceIte, nI_leT, nI_leF, nI_ltT, nI_ltF, nI_eqT, nI_eqF, xin_T, nI_clampT, nI_add, nI_inc, pk_subT, xb_some, xval, xlet, mI_s, mI_n, mI_k, mI_2, mJ_1, mJ_s, mJ_n, mJ_k, mJ_2, mT_1, mT_2, mT_s, mT_n, mT_k, mT_3, mR_1, mR_2, mR_3, bI_0, bI_1, bI_n0, bI_n1, Bool.true_eq_false, Bool.false_eq_true, eq_self, i_0, i_1, i_2, i_3, i_4, i_5, i_6, i_7, i_8, i_9, i_10, i_11, i_12, i_13, i_14, i_15, i_16, i_17, i_18, i_19, i_20, i_21, i_22, i_23, i_24, i_25, i_26, i_27, i_28, i_29, i_30, i_31, i_32, i_33, i_34, i_35, i_36, i_37, i_38, i_39, i_40, i_41, i_42, i_43, i_44, i_45, i_48, i_49, i_57, i_59, i_60, i_61, i_62, i_64, i_97, i_110, i_122, i_123, i_125, i_126, i_127, i_160, i_255, i_300, i_400, d1, tk]
      · rw [es, hk]; unfold qsVar; rw [if_neg (by omega), if_neg (by omega), if_pos c]
  · have tk := p_take (k := 20) r1 (by omega) (by omega)
    by_cases c : kT t (tok + 2) = 20
    · rw [if_pos c] at tk
      have st : gTo t ((2, d, a, how) :: rest, tok, sc, L) (.inr (rest, tok + 3, sc, qDecL (wT' t) (tok + 1) k sc L1)) := gTo.one (by
        rw [es, hk]; unfold qsVar; rw [if_neg (by omega), if_pos ⟨hv, c⟩])
      refine .inl ⟨wI M1 (b + 29) 4 (nI (tok + 3)), _, ?_, st, fr1.trans fr_at, tok + 3, _, rfl, ?_, by omega, gKp.same (by rw [q_dec_5]) (by rw [q_dec_4]) (by rw [q_dec_at (by decide) (by decide)])⟩
      · simp (disch := omega) only [↓reduceIte, nI_leT, nI_leF, nI_ltT, nI_ltF, nI_eqT, nI_eqF, xin_T, nI_clampT, nI_add, nI_inc, pk_subT, xb_some, xval, xlet, mI_s, mI_n, mI_k, mI_2, mJ_1, mJ_s, mJ_n, mJ_k, mJ_2, mT_1, mT_2, mT_s, mT_n, mT_k, mT_3, mR_1, mR_2, mR_3, bI_0, bI_1, bI_n0, bI_n1, Bool.true_eq_false, Bool.false_eq_true, eq_self, i_0, i_1, i_2, i_3, i_4, i_5, i_6, i_7, i_8, i_9, i_10, i_11, i_12, i_13, i_14, i_15, i_16, i_17, i_18, i_19, i_20, i_21, i_22, i_23, i_24, i_25, i_26, i_27, i_28, i_29, i_30, i_31, i_32, i_33, i_34, i_35, i_36, i_37, i_38, i_39, i_40, i_41, i_42, i_43, i_44, i_45, i_48, i_49, i_57, i_59, i_60, i_61, i_62, i_64, i_97, i_110, i_122, i_123, i_125, i_126, i_127, i_160, i_255, i_300, i_400, d1, tk, xnarB1]
      · have r2 := r1.at (tok' := tok + 3)
        unfold qDecV at r2; rw [if_neg (by decide)] at r2
        exact r2
    · rw [if_neg c] at tk
      refine .inr ⟨M1, tok + 2, ?_, gTo.one ?_, fr1, r1.2.1⟩
      · simp (disch := omega) only [↓reduceIte, nI_leT, nI_leF, nI_ltT, nI_ltF, nI_eqT, nI_eqF, xin_T, nI_clampT, nI_add, nI_inc, pk_subT, xb_some, xval, xlet, mI_s, mI_n, mI_k, mI_2, mJ_1, mJ_s, mJ_n, mJ_k, mJ_2, mT_1, mT_2, mT_s, mT_n, mT_k, mT_3, mR_1, mR_2, mR_3, bI_0, bI_1, bI_n0, bI_n1, Bool.true_eq_false, Bool.false_eq_true, eq_self, i_0, i_1, i_2, i_3, i_4, i_5, i_6, i_7, i_8, i_9, i_10, i_11, i_12, i_13, i_14, i_15, i_16, i_17, i_18, i_19, i_20, i_21, i_22, i_23, i_24, i_25, i_26, i_27, i_28, i_29, i_30, i_31, i_32, i_33, i_34, i_35, i_36, i_37, i_38, i_39, i_40, i_41, i_42, i_43, i_44, i_45, i_48, i_49, i_57, i_59, i_60, i_61, i_62, i_64, i_97, i_110, i_122, i_123, i_125, i_126, i_127, i_160, i_255, i_300, i_400, d1, tk, xnarB0]
      · rw [es, hk]; unfold qsVar; rw [if_neg (by omega), if_neg (by omega), if_pos hv2]
theorem g_var {b : Nat} {t : List Nat} {rc : Nat → Int32 → Int32 → Int32 → xMem → Option (Int32 × xMem)} {n : Nat} (hV : sVal b t rc n) {d a how tok sc k : Nat} {M : xMem} {L : qL} {rest : List qI} (hn : 4 * (12 - d) + 1 ≤ n) (hd : d ≤ 12) (hh : ¬ (how % 2 = 1 ∧ kT t tok ≤ 3)) (hk : kT t tok = k) (hk2 : k ≤ 2) (hW : gW t ((2, d, a, how) :: rest, tok, sc, L)) (hR : rC M b t tok sc (qNote a tok (kT t tok) L)) : gMid b t rest d a how tok sc L M (f_P_variable rc b (nI d) (nI k) M) := by
  have ht := hW.tok
  have t1 := g_T t tok ht.1 (by omega)
  have hT := nT_le t
  have ok := hW.note (k := kT t tok)
  have h4 := hR.2.1
  have r1 := hR.at (tok' := tok + 1)
  have tk := p_take (k := 23) r1 (by omega) (by omega)
  unfold f_P_variable
  by_cases c : kT t (tok + 1) = 23
  · rw [if_pos c] at tk
    have t2 := g_T t (tok + 1) t1 (by omega)
    have r2 := r1.at (tok' := tok + 2)
    have fr2 : pFr (b + 8) (b + 30) M (wI (wI M (b + 29) 4 (nI (tok + 1))) (b + 29) 4 (nI (tok + 2))) := fr_at.trans fr_at
    have l0 : (qNote a tok (kT t tok) L 0).length ≤ tok + 1 := ok_len0 ok
    have ho := p_homeOf r2.2.2.2.1 ok.2.1 (by omega)
    have h5 := r2.2.2.1
    have key : ∀ v, f_P_variable_47 rc b (nI d) (nI k) (nI (tok + 1)) (nI v) (wI (wI M (b + 29) 4 (nI (tok + 1))) (b + 29) 4 (nI (tok + 2))) = f_P_variable_72 rc b (nI d) (nI k) (nI (tok + 1)) (nI v) (nI (if k = 2 then qHome (qNote a tok (kT t tok) L) sc else sc)) (wI (wI M (b + 29) 4 (nI (tok + 1))) (b + 29) 4 (nI (tok + 2))) := by
      intro v
      unfold f_P_variable_47
      by_cases c2 : k = 2
      · rw [if_pos c2, c2]
        rw [if_pos (show nI 2 = 2 from rfl), h5]
        show xbind _ _ = _
        rw [ho]
        rfl
      · rw [if_neg c2, if_neg (by rw [i_2]; intro e; exact c2 ((nI_eq (by omega) (by omega)).mp e)), h5]
    by_cases c1 : k = 1
    · have g := g_var_72 (v := 1) hV hn hd hh hk hk2 c (.inl ⟨rfl, .inl c1⟩) hW fr2 r2
      rw [← key] at g
      have o : f_P_variable rc b (nI d) (nI k) M = f_P_variable_47 rc b (nI d) (nI k) (nI (tok + 1)) (nI 1) (wI (wI M (b + 29) 4 (nI (tok + 1))) (b + 29) 4 (nI (tok + 2))) := by
        unfold f_P_variable f_P_variable_42
        simp (disch := omega) only [↓reduceIte, nI_leT, nI_leF, nI_ltT, nI_ltF, nI_eqT, nI_eqF, xin_T, nI_clampT, nI_add, nI_inc, pk_subT, xb_some, xval, xlet, mI_s, mI_n, mI_k, mI_2, mJ_1, mJ_s, mJ_n, mJ_k, mJ_2, mT_1, mT_2, mT_s, mT_n, mT_k, mT_3, mR_1, mR_2, mR_3, bI_0, bI_1, bI_n0, bI_n1, Bool.true_eq_false, Bool.false_eq_true, eq_self, i_0, i_1, i_2, i_3, i_4, i_5, i_6, i_7, i_8, i_9, i_10, i_11, i_12, i_13, i_14, i_15, i_16, i_17, i_18, i_19, i_20, i_21, i_22, i_23, i_24, i_25, i_26, i_27, i_28, i_29, i_30, i_31, i_32, i_33, i_34, i_35, i_36, i_37, i_38, i_39, i_40, i_41, i_42, i_43, i_44, i_45, i_48, i_49, i_57, i_59, i_60, i_61, i_62, i_64, i_97, i_110, i_122, i_123, i_125, i_126, i_127, i_160, i_255, i_300, i_400, h4, tk, c1]
      unfold f_P_variable at o
      rw [o]; exact g
    · have nx := p_next r2 (by omega)
      have kl := kT_lt t (tok + 2)
      by_cases c3 : kT t (tok + 2) = 10
      · have g := g_var_72 (v := 1) hV hn hd hh hk hk2 c (.inl ⟨rfl, .inr c3⟩) hW fr2 r2
        rw [← key] at g
        have o : f_P_variable rc b (nI d) (nI k) M = f_P_variable_47 rc b (nI d) (nI k) (nI (tok + 1)) (nI 1) (wI (wI M (b + 29) 4 (nI (tok + 1))) (b + 29) 4 (nI (tok + 2))) := by
          unfold f_P_variable f_P_variable_42
          rw [c3] at nx
          have k10 : (10 : Nat) < 28 := by omega
          simp (disch := omega) only [↓reduceIte, nI_leT, nI_leF, nI_ltT, nI_ltF, nI_eqT, nI_eqF, xin_T, nI_clampT, nI_add, nI_inc, pk_subT, xb_some, xval, xlet, mI_s, mI_n, mI_k, mI_2, mJ_1, mJ_s, mJ_n, mJ_k, mJ_2, mT_1, mT_2, mT_s, mT_n, mT_k, mT_3, mR_1, mR_2, mR_3, bI_0, bI_1, bI_n0, bI_n1, Bool.true_eq_false, Bool.false_eq_true, eq_self, i_0, i_1, i_2, i_3, i_4, i_5, i_6, i_7, i_8, i_9, i_10, i_11, i_12, i_13, i_14, i_15, i_16, i_17, i_18, i_19, i_20, i_21, i_22, i_23, i_24, i_25, i_26, i_27, i_28, i_29, i_30, i_31, i_32, i_33, i_34, i_35, i_36, i_37, i_38, i_39, i_40, i_41, i_42, i_43, i_44, i_45, i_48, i_49, i_57, i_59, i_60, i_61, i_62, i_64, i_97, i_110, i_122, i_123, i_125, i_126, i_127, i_160, i_255, i_300, i_400, h4, tk, nx, k10]
        unfold f_P_variable at o
        rw [o]; exact g
      · have g := g_var_72 (v := 0) hV hn hd hh hk hk2 c (.inr ⟨rfl, c1, c3⟩) hW fr2 r2
        rw [← key] at g
        have o : f_P_variable rc b (nI d) (nI k) M = f_P_variable_47 rc b (nI d) (nI k) (nI (tok + 1)) (nI 0) (wI (wI M (b + 29) 4 (nI (tok + 1))) (b + 29) 4 (nI (tok + 2))) := by
          unfold f_P_variable
          simp (disch := omega) only [↓reduceIte, nI_leT, nI_leF, nI_ltT, nI_ltF, nI_eqT, nI_eqF, xin_T, nI_clampT, nI_add, nI_inc, pk_subT, xb_some, xval, xlet, mI_s, mI_n, mI_k, mI_2, mJ_1, mJ_s, mJ_n, mJ_k, mJ_2, mT_1, mT_2, mT_s, mT_n, mT_k, mT_3, mR_1, mR_2, mR_3, bI_0, bI_1, bI_n0, bI_n1, Bool.true_eq_false, Bool.false_eq_true, eq_self, i_0, i_1, i_2, i_3, i_4, i_5, i_6, i_7, i_8, i_9, i_10, i_11, i_12, i_13, i_14, i_15, i_16, i_17, i_18, i_19, i_20, i_21, i_22, i_23, i_24, i_25, i_26, i_27, i_28, i_29, i_30, i_31, i_32, i_33, i_34, i_35, i_36, i_37, i_38, i_39, i_40, i_41, i_42, i_43, i_44, i_45, i_48, i_49, i_57, i_59, i_60, i_61, i_62, i_64, i_97, i_110, i_122, i_123, i_125, i_126, i_127, i_160, i_255, i_300, i_400, h4, tk, nx, kl, c3]
        unfold f_P_variable at o
        rw [o]; exact g
  · rw [if_neg c] at tk
    refine .inr ⟨_, tok + 1, ?_, gTo.one ?_, fr_at, r1.2.1⟩
    · simp (disch := omega) only [↓reduceIte, nI_leT, nI_leF, nI_ltT, nI_ltF, nI_eqT, nI_eqF, xin_T, nI_clampT, nI_add, nI_inc, pk_subT, xb_some, xval, xlet, mI_s, mI_n, mI_k, mI_2, mJ_1, mJ_s, mJ_n, mJ_k, mJ_2, mT_1, mT_2, mT_s, mT_n, mT_k, mT_3, mR_1, mR_2, mR_3, bI_0, bI_1, bI_n0, bI_n1, Bool.true_eq_false, Bool.false_eq_true, eq_self, i_0, i_1, i_2, i_3, i_4, i_5, i_6, i_7, i_8, i_9, i_10, i_11, i_12, i_13, i_14, i_15, i_16, i_17, i_18, i_19, i_20, i_21, i_22, i_23, i_24, i_25, i_26, i_27, i_28, i_29, i_30, i_31, i_32, i_33, i_34, i_35, i_36, i_37, i_38, i_39, i_40, i_41, i_42, i_43, i_44, i_45, i_48, i_49, i_57, i_59, i_60, i_61, i_62, i_64, i_97, i_110, i_122, i_123, i_125, i_126, i_127, i_160, i_255, i_300, i_400, h4, tk]
    · rw [g_stat]; unfold qStat qsVar
      rw [if_neg (by omega), if_neg (by omega), if_pos (by omega), if_pos c]
