/-! PURE: steps of the reference's grammar: STATEMENTS -/
def qMapL (u : qL → qL) : Nat ⊕ qC → Nat ⊕ qC
  | .inl e => .inl e
  | .inr (st, tok, sc, L) => .inr (st, tok, sc, u L)
theorem qA_qA {f g : Nat} {x y : qE} {L : qL} (h : f ≠ g) : qA f x (qA g y L) = qA g y (qA f x L) := by
  funext e
  rw [qA_at, qA_at, qA_at, qA_at]
  by_cases c : e = f
  · subst c; rw [if_neg h, if_neg h]
  · rw [if_neg c, if_neg c]
theorem dec15 {wd : Nat → Nat} {p k sc : Nat} {x : qE} {L : qL} : qDecL wd p k sc (qA 15 x L) = qA 15 x (qDecL wd p k sc L) ∧ qDecT wd p k sc (qA 15 x L) = qDecT wd p k sc L := by
  have eT : qDecT wd p k sc (qA 15 x L) = qDecT wd p k sc L := rfl
  have e1 : (qA 15 x L) 1 = L 1 := rfl
  have eh : qHome (qA 15 x L) sc = qHome L sc := rfl
  refine ⟨?_, eT⟩
  unfold qDecL
  dsimp only
  rw [eT, e1, eh]
  split
  · split
    · rw [← qA_qM (by decide), qA_qA (by decide)]
    · rw [← qA_qM (by decide)]
  · rw [qA_qA (by decide)]
theorem open15 {fn p sc : Nat} {x : qE} {L : qL} : qOpen fn p sc (qA 15 x L) = qA 15 x (qOpen fn p sc L) := by
  unfold qOpen
  rw [show (qA 15 x L) 0 = L 0 from rfl, show qHome (qA 15 x L) sc = qHome L sc from rfl, qA_qA (by decide)]
theorem let15 {k tok n : Nat} {x : qE} {L : qL} : qLetL k tok n (qA 15 x L) = qA 15 x (qLetL k tok n L) := by
  unfold qLetL qVald
  split
  · rw [← qA_qM (by decide), qA_qA (by decide)]
  · rw [← qA_qM (by decide)]
theorem emp15 {tk : Nat → Nat} {a h tok : Nat} {x : qE} {L : qL} : qEmpL tk a h tok (qA 15 x L) = qA 15 x (qEmpL tk a h tok L) := by
  unfold qEmpL
  split
  · rw [qA_qA (by decide)]
  · rfl
theorem spa15 {a h tok : Nat} {x : qE} {L : qL} : qSpaL a h tok (qA 15 x L) = qA 15 x (qSpaL a h tok L) := by
  unfold qSpaL
  split
  · rw [qA_qA (by decide)]
  · rfl
def qMapP (u : qL → qL) : Nat ⊕ (Nat × qL) → Nat ⊕ (Nat × qL)
  | .inl e => .inl e
  | .inr (p, L) => .inr (p, u L)
theorem par15 {tk wd : Nat → Nat} {sc : Nat} {x : qE} : ∀ (m tok : Nat) (L : qL), qPar tk wd sc m tok (qA 15 x L) = qMapP (qA 15 x) (qPar tk wd sc m tok L) := by
  intro m
  induction m with
  | zero => intro tok L; rfl
  | succ m ih =>
    intro tok L
    rw [qPar, qPar, dec15.1]
    split
    · rfl
    · split
      · exact ih _ _
      · rfl
theorem pars15 {tk wd : Nat → Nat} {sc tok : Nat} {x : qE} {L : qL} : qPars tk wd sc tok (qA 15 x L) = qMapP (qA 15 x) (qPars tk wd sc tok L) := by
  unfold qPars
  split
  · rfl
  · exact par15 4 _ _
theorem body15 {tk : Nat → Nat} {d tok sc : Nat} {r : List qI} {x : qE} {P : Nat ⊕ (Nat × qL)} : qsBody tk d r tok sc (qMapP (qA 15 x) P) = qMapL (qA 15 x) (qsBody tk d r tok sc P) := by
  rcases P with e | ⟨p, L⟩
  · rfl
  · show qsBody tk d r tok sc (.inr (p, qA 15 x L)) = _
    unfold qsBody
    dsimp only
    split
    · rfl
    split
    · rfl
    · unfold qList
      show _ = Sum.inr _
      rw [qA_qA (f := 5) (by decide)]
      rfl
/-- a STATEMENT that has been noted -/
def qRestS (tk wd : Nat → Nat) (d a h : Nat) (r : List qI) (tok sc : Nat) (L : qL) : Nat ⊕ qC :=
  if tk tok ≤ 2 then qsVar tk wd d (tk tok) r tok sc L
  else if tk tok = 3 then qsFn tk wd d r tok sc L
  else if tk tok = 18 then qsBlk tk d a h r tok sc L
  else if tk tok = 4 ∨ tk tok = 6 then qsIf tk d (tk tok) r tok sc L
  else if tk tok = 7 then qsRet tk d r tok sc L
  else if tk tok = 20 then .inr (r, tok + 1, sc, qSpaL a h tok L)
  else .inr ((5, d, 0, 0) :: (4, d, 20, 0) :: r, tok, sc, L)
theorem rest15 {tk wd : Nat → Nat} {d a h tok sc : Nat} {r : List qI} {x : qE} {L : qL} : qRestS tk wd d a h r tok sc (qA 15 x L) = qMapL (qA 15 x) (qRestS tk wd d a h r tok sc L) := by
  unfold qRestS
  split
  · unfold qsVar
    rw [dec15.1, dec15.2, let15]
    repeat' split
    all_goals rfl
  split
  · unfold qsFn
    rw [dec15.1, open15, pars15, show (qA 15 x (qDecL wd (tok + 1) 3 sc L)) 0 = (qDecL wd (tok + 1) 3 sc L) 0 from rfl, body15]
    repeat' split
    all_goals rfl
  split
  · unfold qsBlk qList
    rw [open15, emp15, show (qA 15 x L) 0 = L 0 from rfl, qA_qA (f := 5) (by decide)]
    rfl
  split
  · unfold qsIf
    split <;> rfl
  split
  · unfold qsRet
    rw [show qHome (qA 15 x L) sc = qHome L sc from rfl]
    repeat' split
    all_goals rfl
  split
  · rw [spa15]; rfl
  · rfl
theorem rest_15 {tk wd : Nat → Nat} {d a h tok sc : Nat} {r : List qI} {L : qL} {st' : List qI} {tok' sc' : Nat} {L' : qL} (e : qRestS tk wd d a h r tok sc L = .inr (st', tok', sc', L')) : L' 15 = L 15 := by
  unfold qRestS at e
  split at e
  · unfold qsVar at e
    split at e
    · cases e
    split at e
    · cases e; exact q_dec_at (by decide) (by decide)
    split at e
    · cases e
    · cases e; rw [q_let_at (by decide) (by decide), q_dec_at (by decide) (by decide)]
  split at e
  · unfold qsFn at e
    split at e
    · cases e
    split at e
    · cases e
    cases hp : qPars tk wd ((qDecL wd (tok + 1) 3 sc L) 0).length (tok + 3) (qOpen 1 (tok + 1) sc (qDecL wd (tok + 1) 3 sc L)) with
    | inl x => rw [hp] at e; cases e
    | inr x =>
      obtain ⟨p, L4⟩ := x
      have h15 := q_pars_45 (g := 15) (by decide) (by decide) hp
      rw [hp] at e
      unfold qsBody at e
      dsimp only at e
      split at e
      · cases e
      split at e
      · cases e
      · cases e
        rw [qA_n _ _ (by decide), h15, q_open_at (by decide), q_dec_at (by decide) (by decide)]
  split at e
  · unfold qsBlk qList at e
    cases e
    rw [qA_n _ _ (by decide), q_emp_at (by decide), q_open_at (by decide)]
  split at e
  · unfold qsIf at e
    split at e
    · cases e
    · cases e; rfl
  split at e
  · unfold qsRet at e
    split at e
    · cases e
    split at e
    · cases e; rfl
    · cases e; rfl
  split at e
  · cases e; rw [q_spa_at (by decide)]
  · cases e; rfl
theorem rs_499 {M M' : xMem} {b tok n v6 : Nat} {t : List Nat} {R : Nat ⊕ qC} {p1 p2 p3 v4 : Int32} (h : nRs M b t R (some ((), M'))) (h55 : M.1 b 55 = nI n) (hn : n < 64) (hR : ∀ st tok sc L', R = .inr (st, tok, sc, L') → (L' 15).length = n) (hv : v6 ≤ 1) : nRes M b t (if v6 = 1 then qMapL (qA 15 (tok, 0, 0, 0, 0)) R else R) (f_N_statement_499 b p1 p2 p3 v4 (nI (pS (pLex t) tok)) (nI v6) M') := by
  obtain ⟨M2, e1, e2, e3, e4, e5⟩ := h
  cases e1
  have : v6 = 0 ∨ v6 = 1 := by omega
  unfold f_N_statement_499
  rcases this with rfl | rfl
  · rw [if_neg (by decide), if_pos (show nI 0 = 0 from rfl)]
    exact ⟨M', rfl, e2, e4, e5⟩
  · rw [if_pos rfl, if_neg (by decide)]
    have h55' : M'.1 b 55 = nI n := e3.trans h55
    have o : (xval (M'.1 b 55) fun x56 => if xin x56 64 = true then xlet (wI M' (b + 29) x56.toNatClampNeg (nI (pS (pLex t) tok))) fun M => xval ((M.1 b 55) + 1) fun x58 => xlet (wI M b 55 x58) fun M => some ((), M) else none) = some ((), nDeadM M' b n (pS (pLex t) tok)) := by
      unfold nDeadM
      simp (disch := omega) only [↓reduceIte, nI_leT, nI_leF, nI_ltT, nI_ltF, nI_eqT, nI_eqF, xin_T, nI_clampT, nI_add, nI_inc, pk_subT, xb_some, xval, xlet, mI_s, mI_n, mI_k, mI_2, mJ_1, mJ_s, mJ_n, mJ_k, mJ_2, mT_1, mT_2, mT_s, mT_n, mT_k, mT_3, mR_1, mR_2, mR_3, bI_0, bI_1, bI_n0, bI_n1, Bool.true_eq_false, Bool.false_eq_true, eq_self, i_0, i_1, i_2, i_3, i_4, i_5, i_6, i_7, i_8, i_9, i_10, i_11, i_12, i_13, i_14, i_15, i_16, i_17, i_18, i_19, i_20, i_21, i_22, i_23, i_24, i_25, i_26, i_27, i_28, i_29, i_30, i_31, i_32, i_33, i_34, i_35, i_36, i_37, i_38, i_39, i_40, i_41, i_42, i_43, i_44, i_45, i_48, i_49, i_57, i_59, i_60, i_61, i_62, i_64, i_97, i_110, i_122, i_123, i_125, i_126, i_127, i_160, i_255, i_300, i_400, h55']
    rw [o]
    refine ⟨_, rfl, e2.trans nDeadM_gr, ?_, ?_⟩
    · intro e he
      rw [nDeadM_4]
      cases R with
      | inl e' => cases he; exact e4 _ rfl
      | inr c => cases he
    · intro st tok' sc L he
      cases R with
      | inl e' => cases he
      | inr c =>
        obtain ⟨st2, tok2, sc2, L2⟩ := c
        cases he
        obtain ⟨f1, f2⟩ := e5 _ _ _ _ rfl
        have hl := hR _ _ _ _ rfl
        rw [← hl]
        exact ⟨nQ_nDeadM (q := tok) f1, by rw [nDeadM_4]; exact f2⟩
theorem nRes.from {M M1 : xMem} {b : Nat} {t : List Nat} {R : Nat ⊕ qC} {o : Option (Unit × xMem)} (h : nRes M1 b t R o) (f : rF (rGrS b) M M1) : nRes M b t R o := by
  obtain ⟨M', a1, a2, a3⟩ := h
  exact ⟨M', a1, f.trans a2, a3⟩
theorem nRs.some {M : xMem} {b : Nat} {t : List Nat} {R : Nat ⊕ qC} {o : Option (Unit × xMem)} (h : nRs M b t R o) : ∃ M', o = some ((), M') ∧ nRs M b t R (some ((), M')) := by
  obtain ⟨M', a1, a2, a3, a4⟩ := h
  exact ⟨M', a1, M', rfl, a2, a3, a4⟩
