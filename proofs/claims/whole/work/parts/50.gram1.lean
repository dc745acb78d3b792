/-! PURE: the class's grammar goes with the machine: values -/
def gTo (t : List Nat) (c : qC) (r : Nat ⊕ qC) : Prop := ∃ m, qGo (kT t) (wT' t) (dT t) m c = r
theorem gTo.refl {t : List Nat} {c : qC} : gTo t c (.inr c) := ⟨0, rfl⟩
theorem gTo.one {t : List Nat} {c : qC} {r : Nat ⊕ qC} (h : qStep (kT t) (wT' t) (dT t) c = r) : gTo t c r := by
  refine ⟨1, ?_⟩
  rw [qGo, h]
  cases r with
  | inl e => rfl
  | inr c' => rfl
theorem gTo.trans {t : List Nat} {c c1 : qC} {r : Nat ⊕ qC} (h : gTo t c (.inr c1)) (h2 : gTo t c1 r) : gTo t c r := by
  obtain ⟨m, hm⟩ := h
  obtain ⟨n, hn⟩ := h2
  exact ⟨m + n, by rw [qGo_add, hm]; exact hn⟩
theorem gTo.step {t : List Nat} {c c1 : qC} {r : Nat ⊕ qC} (h : qStep (kT t) (wT' t) (dT t) c = .inr c1) (h2 : gTo t c1 r) : gTo t c r := (gTo.one h).trans h2
/-- what a method of the grammar does: it goes with the machine -/
def gOut (b : Nat) (t : List Nat) (c : qC) (M : xMem) (o : Option (Int32 × xMem)) (Q : qC → xMem → Prop) : Prop :=
  (∃ M' c', o = some (nI 1, M') ∧ gTo t c (.inr c') ∧ pFr (b + 8) (b + 30) M M' ∧ Q c' M') ∨ (∃ M' e, o = some (nI 0, M') ∧ gTo t c (.inl e) ∧ pFr (b + 8) (b + 30) M M' ∧ M'.1 (b + 29) 4 = nI e)
theorem gOut.from {b : Nat} {t : List Nat} {c c1 : qC} {M M1 : xMem} {o : Option (Int32 × xMem)} {Q : qC → xMem → Prop} (h : gOut b t c1 M1 o Q) (h1 : gTo t c (.inr c1)) (f : pFr (b + 8) (b + 30) M M1) : gOut b t c M o Q := by
  rcases h with ⟨M', c', e1, e2, e3, e4⟩ | ⟨M', e, e1, e2, e3, e4⟩
  · exact .inl ⟨M', c', e1, h1.trans e2, f.trans e3, e4⟩
  · exact .inr ⟨M', e, e1, h1.trans e2, f.trans e3, e4⟩
theorem gOut.imp {b : Nat} {t : List Nat} {c : qC} {M : xMem} {o : Option (Int32 × xMem)} {Q Q' : qC → xMem → Prop} (h : gOut b t c M o Q) (hQ : ∀ c' M', Q c' M' → Q' c' M') : gOut b t c M o Q' := by
  rcases h with ⟨M', c', e1, e2, e3, e4⟩ | h
  · exact .inl ⟨M', c', e1, e2, e3, hQ _ _ e4⟩
  · exact .inr h
/-- the lists, excuses and SCOPES that were there stay as they were, but the list that the STATEMENT stands in -/
def gKp (a : Nat) (L L' : qL) : Prop := ((L 5).length ≤ (L' 5).length ∧ ∀ i, i < (L 5).length → i + 1 ≠ a → qg (L' 5) i = qg (L 5) i) ∧ ((L 4).length ≤ (L' 4).length ∧ ∀ i, i < (L 4).length → qg (L' 4) i = qg (L 4) i) ∧ ((L 0).length ≤ (L' 0).length ∧ ∀ i, i < (L 0).length → qg (L' 0) i = qg (L 0) i)
theorem gKp.same {a : Nat} {L L' : qL} (h : L' 5 = L 5) (h4 : L' 4 = L 4) (h0 : L' 0 = L 0) : gKp a L L' := by unfold gKp; rw [h, h4, h0]; exact ⟨⟨Nat.le_refl _, fun _ _ _ => rfl⟩, ⟨Nat.le_refl _, fun _ _ => rfl⟩, ⟨Nat.le_refl _, fun _ _ => rfl⟩⟩
theorem gKp.trans {a : Nat} {L L' L'' : qL} (h : gKp a L L') (h2 : gKp 0 L' L'') : gKp a L L'' :=
  ⟨⟨Nat.le_trans h.1.1 h2.1.1, fun i hi ha => (h2.1.2 i (Nat.lt_of_lt_of_le hi h.1.1) (by omega)).trans (h.1.2 i hi ha)⟩, ⟨Nat.le_trans h.2.1.1 h2.2.1.1, fun i hi => (h2.2.1.2 i (Nat.lt_of_lt_of_le hi h.2.1.1)).trans (h.2.1.2 i hi)⟩, ⟨Nat.le_trans h.2.2.1 h2.2.2.1, fun i hi => (h2.2.2.2 i (Nat.lt_of_lt_of_le hi h.2.2.1)).trans (h.2.2.2 i hi)⟩⟩
def gS (b : Nat) (t : List Nat) (rest : List qI) (tok sc : Nat) (L : qL) : qC → xMem → Prop := fun c' M' => ∃ tok' L', c' = (rest, tok', sc, L') ∧ rC M' b t tok' sc L' ∧ tok < tok' ∧ gKp 0 L L'
theorem gS.from {b : Nat} {t : List Nat} {rest : List qI} {tok tok1 sc : Nat} {L L1 : qL} {c' : qC} {M' : xMem} (h : gS b t rest tok1 sc L1 c' M') (h1 : tok ≤ tok1) (h2 : gKp 0 L L1) : gS b t rest tok sc L c' M' := by
  obtain ⟨tok', L', e1, e2, e3, e4⟩ := h
  exact ⟨tok', L', e1, e2, by omega, h2.trans e4⟩
/-- well, as far as the machine goes -/
def gW (t : List Nat) (c : qC) : Prop := qWell (kT t) (nT t) c
theorem pLexN_last {t : List Nat} : ∀ (m p : Nat), 26 ≤ pK (pLexN t m p) ((pLexN t m p).length - 1) := by
  intro m
  induction m with
  | zero =>
    intro p
    rw [pLexN]
    show 26 ≤ (if p < t.length then 27 else 26)
    split <;> omega
  | succ m ih =>
    intro p
    rw [pLexN]
    split
    · rename_i h
      show 26 ≤ (pTok t p).1
      unfold pClosing at h
      simp only [Bool.or_eq_true, beq_iff_eq] at h
      omega
    · have h1 := (pLexN_len (t := t) m (pScan pBlank t (pTok t p).2)).1
      have h2 := ih (pScan pBlank t (pTok t p).2)
      obtain ⟨k, hk⟩ : ∃ k, (pLexN t m (pScan pBlank t (pTok t p).2)).length = k + 1 := ⟨(pLexN t m (pScan pBlank t (pTok t p).2)).length - 1, by omega⟩
      rw [hk] at h2
      simp only [List.length_cons, hk, Nat.add_sub_cancel] at h2 ⊢
      unfold pK at h2 ⊢
      rw [List.getD_cons_succ]
      exact h2
theorem kT_last (t : List Nat) : 26 ≤ kT t (nT t) := pLexN_last 60 _
theorem g_T (t : List Nat) : ∀ i, i ≤ nT t → kT t i ≤ 25 → i + 1 ≤ nT t := by
  intro i hi hk
  have := kT_last t
  by_cases q : i = nT t
  · subst q; omega
  · omega
theorem nT_le (t : List Nat) : nT t ≤ 60 := by have := pLex_len t; unfold nT; omega
theorem gW.to {t : List Nat} {c c' : qC} (h : gW t c) (e : gTo t c (.inr c')) : gW t c' := by
  obtain ⟨m, hm⟩ := e
  exact q_well_go (g_T t) m h hm
theorem gW.tok {t : List Nat} {st : List qI} {tok sc : Nat} {L : qL} (h : gW t (st, tok, sc, L)) : tok ≤ nT t ∧ tok ≤ 60 := ⟨h.1, Nat.le_trans h.1 (nT_le t)⟩
theorem gW.real {t : List Nat} {st : List qI} {tok sc : Nat} {L : qL} (h : gW t (st, tok, sc, L)) (hk : kT t tok ≤ 25) : tok < nT t ∧ tok < 60 := by
  have h1 := g_T t tok h.1 hk
  have h2 := nT_le t
  omega
theorem q_key1 (f : Nat) (h0 : f ≠ 0) (h4 : f ≠ 4) (h5 : f ≠ 5) (e : qE) : 1 ≤ qKey f e := by
  unfold qKey; rw [if_neg h0, if_neg (by omega)]; omega
theorem gW.len {t : List Nat} {st : List qI} {tok sc : Nat} {L : qL} (h : gW t (st, tok, sc, L)) : (L 1).length ≤ tok ∧ (L 2).length ≤ tok ∧ (L 0).length ≤ tok + 1 := by
  have hI := h.2.1.1
  have b1 : qBd st tok 1 = tok := rfl
  have b2 : qBd st tok 2 = tok := rfl
  have b0 : qBd st tok 0 = tok := rfl
  have l1 := (hI 1).len (lo := 1) (fun x _ => q_key1 1 (by omega) (by omega) (by omega) x) (by omega)
  have l2 := (hI 2).len (lo := 1) (fun x _ => q_key1 2 (by omega) (by omega) (by omega) x) (by omega)
  have l0 := (hI 0).len (lo := 0) (fun x _ => Nat.zero_le _) (by omega)
  have l1 : (L 1).length + 1 ≤ tok + 1 := l1
  have l2 : (L 2).length + 1 ≤ tok + 1 := l2
  have l0 : (L 0).length + 0 ≤ tok + 1 := l0
  omega
def sVal (b : Nat) (t : List Nat) (rc : Nat → Int32 → Int32 → Int32 → xMem → Option (Int32 × xMem)) (n : Nat) : Prop := ∀ (d a : Nat) (M : xMem) (tok sc : Nat) (L : qL) (rest : List qI), 4 * (13 - d) + 1 ≤ n → d ≤ 13 → gW t ((5, d, a, 0) :: rest, tok, sc, L) → rC M b t tok sc L → gOut b t ((5, d, a, 0) :: rest, tok, sc, L) M (rc 10 (nI d) (nI 0) (nI 0) M) (gS b t rest tok sc L)
def sPart (b : Nat) (t : List Nat) (rc : Nat → Int32 → Int32 → Int32 → xMem → Option (Int32 × xMem)) (n : Nat) : Prop := ∀ (d : Nat) (M : xMem) (tok sc : Nat) (L : qL) (rest : List qI), 4 * (13 - d) ≤ n → d ≤ 12 → gW t ((7, d, 0, 0) :: rest, tok, sc, L) → rC M b t tok sc L → gOut b t ((7, d, 0, 0) :: rest, tok, sc, L) M (rc 11 (nI d) (nI 0) (nI 0) M) (gS b t rest tok sc L)
def sUse (b : Nat) (t : List Nat) (rc : Nat → Int32 → Int32 → Int32 → xMem → Option (Int32 × xMem)) (n : Nat) : Prop := ∀ (d : Nat) (M : xMem) (tok sc : Nat) (L : qL) (rest : List qI), 4 * (13 - d) ≤ n + 1 → d ≤ 12 → gW t ((7, d, 0, 0) :: rest, tok, sc, L) → rC M b t tok sc L → kT t tok = 23 → gOut b t ((7, d, 0, 0) :: rest, tok, sc, L) M (rc 12 (nI d) (nI 0) (nI 0) M) (gS b t rest tok sc L)
def sArg (b : Nat) (t : List Nat) (rc : Nat → Int32 → Int32 → Int32 → xMem → Option (Int32 × xMem)) (n : Nat) : Prop := ∀ (d : Nat) (M : xMem) (tok sc : Nat) (L : qL) (rest : List qI), 4 * (12 - d) + 2 ≤ n → d ≤ 12 → gW t ((5, d + 1, 1, 0) :: (8, d, 0, 0) :: rest, tok, sc, L) → rC M b t tok sc L → gOut b t ((5, d + 1, 1, 0) :: (8, d, 0, 0) :: rest, tok, sc, L) M (rc 13 (nI (d + 1)) (nI 0) (nI 0) M) (fun c' M' => gS b t ((8, d, 0, 0) :: rest) tok sc L c' M' ∧ kT t c'.2.1 ≠ 21)
theorem p_joins {M : xMem} {k : Nat} (hk : k < 28) : f_K_joinsParts k M = some (bI (qJoin k), M) := by
  have key : ∀ k, k < 28 → qJoin k = (k == 8 || k == 9 || k == 11 || k == 12 || k == 13 || k == 14) := fun _ _ => rfl
  unfold f_K_joinsParts f_K_joinsParts_42
  rw [if_pos hk, key k hk]
  by_cases c1 : k = 8
  · subst c1; rfl
  by_cases c2 : k = 9
  · subst c2; rfl
  by_cases c3 : k = 11
  · subst c3; rfl
  by_cases c4 : k = 12
  · subst c4; rfl
  by_cases c5 : k = 13
  · subst c5; rfl
  by_cases c6 : k = 14
  · subst c6; rfl
  rw [if_neg c1, if_neg c2, if_neg c3, if_neg c4, if_neg c5, if_neg c6]
  simp [c1, c2, c3, c4, c5, c6, bI]
theorem qJoin_le {k : Nat} (h : qJoin k = true) : k ≤ 14 := by unfold qJoin at h; simp at h; omega
theorem fr_at {M : xMem} {b k : Nat} {v : Int32} : pFr (b + 8) (b + 30) M (wI M (b + 29) k v) := pFr.I (by omega)
theorem g_value_73 {b : Nat} {t : List Nat} {rc : Nat → Int32 → Int32 → Int32 → xMem → Option (Int32 × xMem)} {n : Nat} (hP : sPart b t rc n) {d : Nat} (hd : d ≤ 12) (hn : 4 * (13 - d) ≤ n) {rest : List qI} {sc : Nat} : ∀ (fuel j tok : Nat) (M : xMem) (L : qL), j ≤ tok → 61 < tok + fuel → gW t ((7, d, 0, 0) :: (6, d, 0, 0) :: rest, tok, sc, L) → rC M b t tok sc L → gOut b t ((7, d, 0, 0) :: (6, d, 0, 0) :: rest, tok, sc, L) M (f_P_value_73 rc b (nI d) fuel (nI j) M) (gS b t rest tok sc L) := by
  intro fuel
  induction fuel with
  | zero => intro j tok M L hj hf hW hR; have := hW.tok; omega
  | succ f ih =>
    intro j tok M L hj hf hW hR
    have ht := hW.tok
    rw [f_P_value_73]
    rcases hP d M tok sc L ((6, d, 0, 0) :: rest) hn hd hW hR with ⟨M1, c1, e1, e2, e3, tok1, L1, e4, e5, e6, e7⟩ | ⟨M1, e, e1, e2, e3, e4⟩
    · subst e4
      have hW1 := hW.to e2
      have ht1 := hW1.tok
      have nx := p_next e5 (by omega)
      have kl := kT_lt t tok1
      have jn := p_joins (M := M1) kl
      cases hq : qJoin (kT t tok1) with
      | false =>
        have st : gTo t ((6, d, 0, 0) :: rest, tok1, sc, L1) (.inr (rest, tok1, sc, L1)) := gTo.one (by
          show qMore (kT t) d rest tok1 sc L1 = _
          unfold qMore; rw [if_neg (by rw [hq]; decide)])
        refine .inl ⟨M1, _, ?_, e2.trans st, e3, tok1, L1, rfl, e5, e6, e7⟩
        simp (disch := omega) only [↓reduceIte, nI_leT, nI_leF, nI_ltT, nI_ltF, nI_eqT, nI_eqF, xin_T, nI_clampT, nI_add, nI_inc, pk_subT, xb_some, xval, xlet, mI_s, mI_n, mI_k, mI_2, mJ_1, mJ_s, mJ_n, mJ_k, mJ_2, mT_1, mT_2, mT_s, mT_n, mT_k, mT_3, mR_1, mR_2, mR_3, bI_0, bI_1, bI_n0, bI_n1, Bool.true_eq_false, Bool.false_eq_true, eq_self, i_0, i_1, i_2, i_3, i_4, i_5, i_6, i_7, i_8, i_9, i_10, i_11, i_12, i_13, i_14, i_15, i_16, i_17, i_18, i_19, i_20, i_21, i_22, i_23, i_24, i_25, i_26, i_27, i_28, i_29, i_30, i_31, i_32, i_33, i_34, i_35, i_36, i_37, i_38, i_39, i_40, i_41, i_42, i_43, i_44, i_45, i_48, i_49, i_57, i_59, i_60, i_61, i_62, i_64, i_97, i_110, i_122, i_123, i_125, i_126, i_127, i_160, i_255, i_300, i_400, e1, nx, kl, jn, hq]
      | true =>
        have hr := hW1.real (by have := qJoin_le hq; omega)
        by_cases c9 : kT t tok1 = 9
        · have st : gTo t ((6, d, 0, 0) :: rest, tok1, sc, L1) (.inr ((7, d, 0, 0) :: (6, d, 0, 0) :: rest, tok1 + 1, sc, qA 16 (tok1, 0, 0, 0, 0) L1)) := gTo.one (by
            show qMore (kT t) d rest tok1 sc L1 = _
            unfold qMore; rw [if_pos hq, if_pos c9])
          have r2 := (mAdd_rC (p := tok1) (r := 6) (y := (0, 0, 0, 0)) e5 (by omega) (by omega)).at (tok' := tok1 + 1)
          have ma := p_M_add (M := M1) (b := b) (p := tok1) (r := 6) (by omega)
          have i := ih (j + 1) (tok1 + 1) _ _ (by omega) (by omega) (hW1.to st) r2
          have at1 := (mAdd_rC (p := tok1) (r := 6) (y := (0, 0, 0, 0)) e5 (by omega) (by omega)).2.1
          have o : f_P_value_73 rc b (nI d) (f + 1) (nI j) M = f_P_value_73 rc b (nI d) f (nI (j + 1)) (wI (mAdd M1 b tok1 6) (b + 29) 4 (nI (tok1 + 1))) := by
            rw [f_P_value_73]
            have k9 : (9 : Nat) < 28 := by omega
            rw [c9] at nx jn hq
            simp (disch := omega) only [↓reduceIte, nI_leT, nI_leF, nI_ltT, nI_ltF, nI_eqT, nI_eqF, xin_T, nI_clampT, nI_add, nI_inc, pk_subT, xb_some, xval, xlet, mI_s, mI_n, mI_k, mI_2, mJ_1, mJ_s, mJ_n, mJ_k, mJ_2, mT_1, mT_2, mT_s, mT_n, mT_k, mT_3, mR_1, mR_2, mR_3, bI_0, bI_1, bI_n0, bI_n1, Bool.true_eq_false, Bool.false_eq_true, eq_self, i_0, i_1, i_2, i_3, i_4, i_5, i_6, i_7, i_8, i_9, i_10, i_11, i_12, i_13, i_14, i_15, i_16, i_17, i_18, i_19, i_20, i_21, i_22, i_23, i_24, i_25, i_26, i_27, i_28, i_29, i_30, i_31, i_32, i_33, i_34, i_35, i_36, i_37, i_38, i_39, i_40, i_41, i_42, i_43, i_44, i_45, i_48, i_49, i_57, i_59, i_60, i_61, i_62, i_64, i_97, i_110, i_122, i_123, i_125, i_126, i_127, i_160, i_255, i_300, i_400, e1, nx, jn, hq, e5.2.1, ma, f_P_value_124, at1, k9]
          rw [f_P_value_73] at o
          rw [o]
          exact (i.from (e2.trans st) (e3.trans ((mAdd_fr.mono (by omega) (by omega)).trans fr_at))).imp (fun c' M' h => h.from (by omega) (e7.trans (gKp.same rfl rfl rfl)))
        · have st : gTo t ((6, d, 0, 0) :: rest, tok1, sc, L1) (.inr ((7, d, 0, 0) :: (6, d, 0, 0) :: rest, tok1 + 1, sc, L1)) := gTo.one (by
            show qMore (kT t) d rest tok1 sc L1 = _
            unfold qMore; rw [if_pos hq, if_neg c9])
          have r2 := e5.at (tok' := tok1 + 1)
          have i := ih (j + 1) (tok1 + 1) _ _ (by omega) (by omega) (hW1.to st) r2
          have o : f_P_value_73 rc b (nI d) (f + 1) (nI j) M = f_P_value_73 rc b (nI d) f (nI (j + 1)) (wI M1 (b + 29) 4 (nI (tok1 + 1))) := by
            rw [f_P_value_73]
            simp (disch := omega) only [↓reduceIte, nI_leT, nI_leF, nI_ltT, nI_ltF, nI_eqT, nI_eqF, xin_T, nI_clampT, nI_add, nI_inc, pk_subT, xb_some, xval, xlet, mI_s, mI_n, mI_k, mI_2, mJ_1, mJ_s, mJ_n, mJ_k, mJ_2, mT_1, mT_2, mT_s, mT_n, mT_k, mT_3, mR_1, mR_2, mR_3, bI_0, bI_1, bI_n0, bI_n1, Bool.true_eq_false, Bool.false_eq_true, eq_self, i_0, i_1, i_2, i_3, i_4, i_5, i_6, i_7, i_8, i_9, i_10, i_11, i_12, i_13, i_14, i_15, i_16, i_17, i_18, i_19, i_20, i_21, i_22, i_23, i_24, i_25, i_26, i_27, i_28, i_29, i_30, i_31, i_32, i_33, i_34, i_35, i_36, i_37, i_38, i_39, i_40, i_41, i_42, i_43, i_44, i_45, i_48, i_49, i_57, i_59, i_60, i_61, i_62, i_64, i_97, i_110, i_122, i_123, i_125, i_126, i_127, i_160, i_255, i_300, i_400, e1, nx, kl, jn, hq, c9, e5.2.1, f_P_value_124]
          rw [f_P_value_73] at o
          rw [o]
          exact (i.from (e2.trans st) (e3.trans fr_at)).imp (fun c' M' h => h.from (by omega) e7)
    · refine .inr ⟨M1, e, ?_, e2, e3, e4⟩
      simp (disch := omega) only [↓reduceIte, nI_leT, nI_leF, nI_ltT, nI_ltF, nI_eqT, nI_eqF, xin_T, nI_clampT, nI_add, nI_inc, pk_subT, xb_some, xval, xlet, mI_s, mI_n, mI_k, mI_2, mJ_1, mJ_s, mJ_n, mJ_k, mJ_2, mT_1, mT_2, mT_s, mT_n, mT_k, mT_3, mR_1, mR_2, mR_3, bI_0, bI_1, bI_n0, bI_n1, Bool.true_eq_false, Bool.false_eq_true, eq_self, i_0, i_1, i_2, i_3, i_4, i_5, i_6, i_7, i_8, i_9, i_10, i_11, i_12, i_13, i_14, i_15, i_16, i_17, i_18, i_19, i_20, i_21, i_22, i_23, i_24, i_25, i_26, i_27, i_28, i_29, i_30, i_31, i_32, i_33, i_34, i_35, i_36, i_37, i_38, i_39, i_40, i_41, i_42, i_43, i_44, i_45, i_48, i_49, i_57, i_59, i_60, i_61, i_62, i_64, i_97, i_110, i_122, i_123, i_125, i_126, i_127, i_160, i_255, i_300, i_400, e1]
theorem g_value {b : Nat} {t : List Nat} {rc : Nat → Int32 → Int32 → Int32 → xMem → Option (Int32 × xMem)} {n : Nat} (hV : sVal b t rc n) (hP : sPart b t rc n) {d a tok sc : Nat} {M : xMem} {L : qL} {rest : List qI} (hn : 4 * (13 - d) ≤ n) (hd : d ≤ 13) (hW : gW t ((5, d, a, 0) :: rest, tok, sc, L)) (hR : rC M b t tok sc L) : gOut b t ((5, d, a, 0) :: rest, tok, sc, L) M (f_P_value rc b (nI d) M) (gS b t rest tok sc L) := by
  have ht := hW.tok
  have hit : a ≤ 1 ∧ (a = 0 → d ≤ 12) := hW.2.2.1.2.2.2.2
  unfold f_P_value
  by_cases c1 : d ≤ 12
  · have nx := p_next hR (by omega)
    have kl := kT_lt t tok
    have c1' : ¬ (a = 1 ∧ 12 < d) := by omega
    have plain : ¬ (kT t tok = 23 ∧ kT t (tok + 1) = 10) → gOut b t ((5, d, a, 0) :: rest, tok, sc, L) M (f_P_value_71 rc b (nI d) M) (gS b t rest tok sc L) := by
      intro c
      have st : gTo t ((5, d, a, 0) :: rest, tok, sc, L) (.inr ((7, d, 0, 0) :: (6, d, 0, 0) :: rest, tok, sc, L)) := gTo.one (by
        show qVal (kT t) d a rest tok sc L = _
        unfold qVal; rw [if_neg c1', if_neg c])
      exact (g_value_73 hP c1 hn 2000 0 tok M L (by omega) (by omega) (hW.to st) hR).from st pFr.rfl
    by_cases c2 : kT t tok = 23
    · have kn := p_kindOf hR.1 (i := tok + 1) (by omega)
      have kl1 := kT_lt t (tok + 1)
      by_cases c3 : kT t (tok + 1) = 10
      · have hr := hW.real (by omega)
        have hl := hW.len
        have st : gTo t ((5, d, a, 0) :: rest, tok, sc, L) (.inr ((5, d + 1, 1, 0) :: rest, tok + 2, sc, qA 2 (tok, sc, 1, 0, 0) L)) := gTo.one (by
          show qVal (kT t) d a rest tok sc L = _
          unfold qVal; rw [if_neg c1', if_pos ⟨c2, c3⟩])
        have au := p_addUse (p := tok) (s := sc) (w := 1) hR.2.2.2.2.2.1 (by omega) (by omega)
        have r1 := mUse_rC (p := tok) (s := sc) (w := 1) hR
        have r2 := r1.at (tok' := tok + 2)
        have at1 := r1.2.1
        have i := hV (d + 1) 1 _ (tok + 2) sc _ rest (by omega) (by omega) (hW.to st) r2
        have fr : pFr (b + 8) (b + 30) M (wI (mUse M b (L 2).length tok sc 1) (b + 29) 4 (nI (tok + 2))) := (mUse_fr.mono (by omega) (by omega)).trans fr_at
        rw [c2] at nx
        rw [c3] at kn
        have k23 : (23 : Nat) < 28 := by omega
        have k10 : (10 : Nat) < 28 := by omega
        have h4 := hR.2.1
        have h5 := hR.2.2.1
        rcases i.from st fr with ⟨M', c', q1, q2, q3, q4⟩ | ⟨M', e, q1, q2, q3, q4⟩
        · refine .inl ⟨M', c', ?_, q2, q3, q4.from (by omega) (gKp.same rfl rfl rfl)⟩
          simp (disch := omega) only [↓reduceIte, nI_leT, nI_leF, nI_ltT, nI_ltF, nI_eqT, nI_eqF, xin_T, nI_clampT, nI_add, nI_inc, pk_subT, xb_some, xval, xlet, mI_s, mI_n, mI_k, mI_2, mJ_1, mJ_s, mJ_n, mJ_k, mJ_2, mT_1, mT_2, mT_s, mT_n, mT_k, mT_3, mR_1, mR_2, mR_3, bI_0, bI_1, bI_n0, bI_n1, Bool.true_eq_false, Bool.false_eq_true, eq_self, i_0, i_1, i_2, i_3, i_4, i_5, i_6, i_7, i_8, i_9, i_10, i_11, i_12, i_13, i_14, i_15, i_16, i_17, i_18, i_19, i_20, i_21, i_22, i_23, i_24, i_25, i_26, i_27, i_28, i_29, i_30, i_31, i_32, i_33, i_34, i_35, i_36, i_37, i_38, i_39, i_40, i_41, i_42, i_43, i_44, i_45, i_48, i_49, i_57, i_59, i_60, i_61, i_62, i_64, i_97, i_110, i_122, i_123, i_125, i_126, i_127, i_160, i_255, i_300, i_400, nx, k23, h4, h5, kn, k10, au, at1, q1, xnarB1]
        · refine .inr ⟨M', e, ?_, q2, q3, q4⟩
          simp (disch := omega) only [↓reduceIte, nI_leT, nI_leF, nI_ltT, nI_ltF, nI_eqT, nI_eqF, xin_T, nI_clampT, nI_add, nI_inc, pk_subT, xb_some, xval, xlet, mI_s, mI_n, mI_k, mI_2, mJ_1, mJ_s, mJ_n, mJ_k, mJ_2, mT_1, mT_2, mT_s, mT_n, mT_k, mT_3, mR_1, mR_2, mR_3, bI_0, bI_1, bI_n0, bI_n1, Bool.true_eq_false, Bool.false_eq_true, eq_self, i_0, i_1, i_2, i_3, i_4, i_5, i_6, i_7, i_8, i_9, i_10, i_11, i_12, i_13, i_14, i_15, i_16, i_17, i_18, i_19, i_20, i_21, i_22, i_23, i_24, i_25, i_26, i_27, i_28, i_29, i_30, i_31, i_32, i_33, i_34, i_35, i_36, i_37, i_38, i_39, i_40, i_41, i_42, i_43, i_44, i_45, i_48, i_49, i_57, i_59, i_60, i_61, i_62, i_64, i_97, i_110, i_122, i_123, i_125, i_126, i_127, i_160, i_255, i_300, i_400, nx, k23, h4, h5, kn, k10, au, at1, q1, xnarB0]
      · have p := plain (fun h => c3 h.2)
        have o : f_P_value rc b (nI d) M = f_P_value_71 rc b (nI d) M := by
          unfold f_P_value
          rw [c2] at nx
          have k23 : (23 : Nat) < 28 := by omega
          simp (disch := omega) only [↓reduceIte, nI_leT, nI_leF, nI_ltT, nI_ltF, nI_eqT, nI_eqF, xin_T, nI_clampT, nI_add, nI_inc, pk_subT, xb_some, xval, xlet, mI_s, mI_n, mI_k, mI_2, mJ_1, mJ_s, mJ_n, mJ_k, mJ_2, mT_1, mT_2, mT_s, mT_n, mT_k, mT_3, mR_1, mR_2, mR_3, bI_0, bI_1, bI_n0, bI_n1, Bool.true_eq_false, Bool.false_eq_true, eq_self, i_0, i_1, i_2, i_3, i_4, i_5, i_6, i_7, i_8, i_9, i_10, i_11, i_12, i_13, i_14, i_15, i_16, i_17, i_18, i_19, i_20, i_21, i_22, i_23, i_24, i_25, i_26, i_27, i_28, i_29, i_30, i_31, i_32, i_33, i_34, i_35, i_36, i_37, i_38, i_39, i_40, i_41, i_42, i_43, i_44, i_45, i_48, i_49, i_57, i_59, i_60, i_61, i_62, i_64, i_97, i_110, i_122, i_123, i_125, i_126, i_127, i_160, i_255, i_300, i_400, nx, k23, hR.2.1, kn, kl1, c3]
        unfold f_P_value at o
        rw [o]; exact p
    · have p := plain (fun h => c2 h.1)
      have o : f_P_value rc b (nI d) M = f_P_value_71 rc b (nI d) M := by
        unfold f_P_value
        simp (disch := omega) only [↓reduceIte, nI_leT, nI_leF, nI_ltT, nI_ltF, nI_eqT, nI_eqF, xin_T, nI_clampT, nI_add, nI_inc, pk_subT, xb_some, xval, xlet, mI_s, mI_n, mI_k, mI_2, mJ_1, mJ_s, mJ_n, mJ_k, mJ_2, mT_1, mT_2, mT_s, mT_n, mT_k, mT_3, mR_1, mR_2, mR_3, bI_0, bI_1, bI_n0, bI_n1, Bool.true_eq_false, Bool.false_eq_true, eq_self, i_0, i_1, i_2, i_3, i_4, i_5, i_6, i_7, i_8, i_9, i_10, i_11, i_12, i_13, i_14, i_15, i_16, i_17, i_18, i_19, i_20, i_21, i_22, i_23, i_24, i_25, i_26, i_27, i_28, i_29, i_30, i_31, i_32, i_33, i_34, i_35, i_36, i_37, i_38, i_39, i_40, i_41, i_42, i_43, i_44, i_45, i_48, i_49, i_57, i_59, i_60, i_61, i_62, i_64, i_97, i_110, i_122, i_123, i_125, i_126, i_127, i_160, i_255, i_300, i_400, nx, kl, c2]
      unfold f_P_value at o
      rw [o]; exact p
  · refine .inr ⟨M, tok, ?_, gTo.one ?_, pFr.rfl, hR.2.1⟩
    · simp (disch := omega) only [↓reduceIte, nI_leT, nI_leF, nI_ltT, nI_ltF, nI_eqT, nI_eqF, xin_T, nI_clampT, nI_add, nI_inc, pk_subT, xb_some, xval, xlet, mI_s, mI_n, mI_k, mI_2, mJ_1, mJ_s, mJ_n, mJ_k, mJ_2, mT_1, mT_2, mT_s, mT_n, mT_k, mT_3, mR_1, mR_2, mR_3, bI_0, bI_1, bI_n0, bI_n1, Bool.true_eq_false, Bool.false_eq_true, eq_self, i_0, i_1, i_2, i_3, i_4, i_5, i_6, i_7, i_8, i_9, i_10, i_11, i_12, i_13, i_14, i_15, i_16, i_17, i_18, i_19, i_20, i_21, i_22, i_23, i_24, i_25, i_26, i_27, i_28, i_29, i_30, i_31, i_32, i_33, i_34, i_35, i_36, i_37, i_38, i_39, i_40, i_41, i_42, i_43, i_44, i_45, i_48, i_49, i_57, i_59, i_60, i_61, i_62, i_64, i_97, i_110, i_122, i_123, i_125, i_126, i_127, i_160, i_255, i_300, i_400]
    · show qVal (kT t) d a rest tok sc L = _
      unfold qVal; rw [if_pos (by omega)]
theorem g_use {b : Nat} {t : List Nat} {rc : Nat → Int32 → Int32 → Int32 → xMem → Option (Int32 × xMem)} {n : Nat} (hA : sArg b t rc n) {d tok sc : Nat} {M : xMem} {L : qL} {rest : List qI} (hn : 4 * (12 - d) + 2 ≤ n) (hd : d ≤ 12) (hW : gW t ((7, d, 0, 0) :: rest, tok, sc, L)) (hR : rC M b t tok sc L) (hk : kT t tok = 23) : gOut b t ((7, d, 0, 0) :: rest, tok, sc, L) M (f_P_use rc b (nI d) M) (gS b t rest tok sc L) := by
  have ht := hW.tok
  have hr := hW.real (by omega)
  have hl := hW.len
  have au := p_addUse (p := tok) (s := sc) (w := 0) hR.2.2.2.2.2.1 (by omega) (by omega)
  have r1 := mUse_rC (p := tok) (s := sc) (w := 0) hR
  have at1 := r1.2.1
  have r2 := r1.at (tok' := tok + 1)
  have tk1 := p_take (k := 16) r2 (by omega) (by omega)
  have h4 := hR.2.1
  have h5 := hR.2.2.1
  have fr : pFr (b + 8) (b + 30) M (wI (mUse M b (L 2).length tok sc 0) (b + 29) 4 (nI (tok + 1))) := (mUse_fr.mono (by omega) (by omega)).trans fr_at
  have sp : qStep (kT t) (wT' t) (dT t) ((7, d, 0, 0) :: rest, tok, sc, L) = qPart (kT t) d rest tok sc L := rfl
  have k' : ¬ (kT t tok = 24 ∨ kT t tok = 25) := by omega
  unfold f_P_use
  by_cases c1 : kT t (tok + 1) = 16
  · rw [if_pos c1] at tk1
    have r3 := r2.at (tok' := tok + 2)
    have tk2 := p_take (k := 17) r3 (by omega) (by omega)
    by_cases c2 : kT t (tok + 2) = 17
    · rw [if_pos c2] at tk2
      have st : gTo t ((7, d, 0, 0) :: rest, tok, sc, L) (.inr (rest, tok + 3, sc, qA 2 (tok, sc, 0, 0, 0) L)) := gTo.one (by
        rw [sp]; unfold qPart; rw [if_neg k', if_pos hk, if_neg (by omega), if_pos c2])
      refine .inl ⟨_, _, ?_, st, ?_, tok + 3, _, rfl, r3.at (tok' := tok + 3), by omega, gKp.same rfl rfl rfl⟩
      · simp (disch := omega) only [↓reduceIte, nI_leT, nI_leF, nI_ltT, nI_ltF, nI_eqT, nI_eqF, xin_T, nI_clampT, nI_add, nI_inc, pk_subT, xb_some, xval, xlet, mI_s, mI_n, mI_k, mI_2, mJ_1, mJ_s, mJ_n, mJ_k, mJ_2, mT_1, mT_2, mT_s, mT_n, mT_k, mT_3, mR_1, mR_2, mR_3, bI_0, bI_1, bI_n0, bI_n1, Bool.true_eq_false, Bool.false_eq_true, eq_self, i_0, i_1, i_2, i_3, i_4, i_5, i_6, i_7, i_8, i_9, i_10, i_11, i_12, i_13, i_14, i_15, i_16, i_17, i_18, i_19, i_20, i_21, i_22, i_23, i_24, i_25, i_26, i_27, i_28, i_29, i_30, i_31, i_32, i_33, i_34, i_35, i_36, i_37, i_38, i_39, i_40, i_41, i_42, i_43, i_44, i_45, i_48, i_49, i_57, i_59, i_60, i_61, i_62, i_64, i_97, i_110, i_122, i_123, i_125, i_126, i_127, i_160, i_255, i_300, i_400, h4, h5, au, at1, tk1, tk2, f_P_use_66]
      · exact ((fr.trans fr_at).trans fr_at)
    · rw [if_neg c2] at tk2
      have st : gTo t ((7, d, 0, 0) :: rest, tok, sc, L) (.inr ((5, d + 1, 1, 0) :: (8, d, 0, 0) :: rest, tok + 2, sc, qA 2 (tok, sc, 0, 0, 0) L)) := gTo.one (by
        rw [sp]; unfold qPart; rw [if_neg k', if_pos hk, if_neg (by omega), if_neg c2])
      rcases (hA d _ (tok + 2) sc _ rest hn hd (hW.to st) r3).from st (fr.trans fr_at) with ⟨M', c', q1, q2, q3, ⟨tok', L', s1, s2, s3, s4⟩, q5⟩ | ⟨M', e, q1, q2, q3, q4⟩
      · subst s1
        have hW' := hW.to q2
        have ht' := hW'.tok
        have tk3 := p_take (k := 17) s2 (by omega) (by omega)
        have sp2 : qStep (kT t) (wT' t) (dT t) ((8, d, 0, 0) :: rest, tok', sc, L') = qRest (kT t) d rest tok' sc L' := rfl
        have q5 : kT t tok' ≠ 21 := q5
        by_cases c3 : kT t tok' = 17
        · rw [if_pos c3] at tk3
          have st2 : gTo t ((8, d, 0, 0) :: rest, tok', sc, L') (.inr (rest, tok' + 1, sc, L')) := gTo.one (by
            rw [sp2]; unfold qRest; rw [if_neg q5, if_pos c3])
          refine .inl ⟨_, _, ?_, q2.trans st2, q3.trans fr_at, tok' + 1, _, rfl, s2.at (tok' := tok' + 1), by omega, (gKp.same rfl rfl rfl : gKp 0 L (qA 2 (tok, sc, 0, 0, 0) L)).trans s4⟩
          simp (disch := omega) only [↓reduceIte, nI_leT, nI_leF, nI_ltT, nI_ltF, nI_eqT, nI_eqF, xin_T, nI_clampT, nI_add, nI_inc, pk_subT, xb_some, xval, xlet, mI_s, mI_n, mI_k, mI_2, mJ_1, mJ_s, mJ_n, mJ_k, mJ_2, mT_1, mT_2, mT_s, mT_n, mT_k, mT_3, mR_1, mR_2, mR_3, bI_0, bI_1, bI_n0, bI_n1, Bool.true_eq_false, Bool.false_eq_true, eq_self, i_0, i_1, i_2, i_3, i_4, i_5, i_6, i_7, i_8, i_9, i_10, i_11, i_12, i_13, i_14, i_15, i_16, i_17, i_18, i_19, i_20, i_21, i_22, i_23, i_24, i_25, i_26, i_27, i_28, i_29, i_30, i_31, i_32, i_33, i_34, i_35, i_36, i_37, i_38, i_39, i_40, i_41, i_42, i_43, i_44, i_45, i_48, i_49, i_57, i_59, i_60, i_61, i_62, i_64, i_97, i_110, i_122, i_123, i_125, i_126, i_127, i_160, i_255, i_300, i_400, h4, h5, au, at1, tk1, tk2, q1, tk3, f_P_use_66]
        · rw [if_neg c3] at tk3
          have st2 : gTo t ((8, d, 0, 0) :: rest, tok', sc, L') (.inl tok') := gTo.one (by
            rw [sp2]; unfold qRest; rw [if_neg q5, if_neg c3])
          refine .inr ⟨M', tok', ?_, q2.trans st2, q3, s2.2.1⟩
          simp (disch := omega) only [↓reduceIte, nI_leT, nI_leF, nI_ltT, nI_ltF, nI_eqT, nI_eqF, xin_T, nI_clampT, nI_add, nI_inc, pk_subT, xb_some, xval, xlet, mI_s, mI_n, mI_k, mI_2, mJ_1, mJ_s, mJ_n, mJ_k, mJ_2, mT_1, mT_2, mT_s, mT_n, mT_k, mT_3, mR_1, mR_2, mR_3, bI_0, bI_1, bI_n0, bI_n1, Bool.true_eq_false, Bool.false_eq_true, eq_self, i_0, i_1, i_2, i_3, i_4, i_5, i_6, i_7, i_8, i_9, i_10, i_11, i_12, i_13, i_14, i_15, i_16, i_17, i_18, i_19, i_20, i_21, i_22, i_23, i_24, i_25, i_26, i_27, i_28, i_29, i_30, i_31, i_32, i_33, i_34, i_35, i_36, i_37, i_38, i_39, i_40, i_41, i_42, i_43, i_44, i_45, i_48, i_49, i_57, i_59, i_60, i_61, i_62, i_64, i_97, i_110, i_122, i_123, i_125, i_126, i_127, i_160, i_255, i_300, i_400, h4, h5, au, at1, tk1, tk2, q1, tk3, f_P_use_66]
      · refine .inr ⟨M', e, ?_, q2, q3, q4⟩
        simp (disch := omega) only [↓reduceIte, nI_leT, nI_leF, nI_ltT, nI_ltF, nI_eqT, nI_eqF, xin_T, nI_clampT, nI_add, nI_inc, pk_subT, xb_some, xval, xlet, mI_s, mI_n, mI_k, mI_2, mJ_1, mJ_s, mJ_n, mJ_k, mJ_2, mT_1, mT_2, mT_s, mT_n, mT_k, mT_3, mR_1, mR_2, mR_3, bI_0, bI_1, bI_n0, bI_n1, Bool.true_eq_false, Bool.false_eq_true, eq_self, i_0, i_1, i_2, i_3, i_4, i_5, i_6, i_7, i_8, i_9, i_10, i_11, i_12, i_13, i_14, i_15, i_16, i_17, i_18, i_19, i_20, i_21, i_22, i_23, i_24, i_25, i_26, i_27, i_28, i_29, i_30, i_31, i_32, i_33, i_34, i_35, i_36, i_37, i_38, i_39, i_40, i_41, i_42, i_43, i_44, i_45, i_48, i_49, i_57, i_59, i_60, i_61, i_62, i_64, i_97, i_110, i_122, i_123, i_125, i_126, i_127, i_160, i_255, i_300, i_400, h4, h5, au, at1, tk1, tk2, q1, f_P_use_66]
  · rw [if_neg c1] at tk1
    have st : gTo t ((7, d, 0, 0) :: rest, tok, sc, L) (.inr (rest, tok + 1, sc, qA 2 (tok, sc, 0, 0, 0) L)) := gTo.one (by
      rw [sp]; unfold qPart; rw [if_neg k', if_pos hk, if_pos c1])
    refine .inl ⟨_, _, ?_, st, fr, tok + 1, _, rfl, r2, by omega, gKp.same rfl rfl rfl⟩
    simp (disch := omega) only [↓reduceIte, nI_leT, nI_leF, nI_ltT, nI_ltF, nI_eqT, nI_eqF, xin_T, nI_clampT, nI_add, nI_inc, pk_subT, xb_some, xval, xlet, mI_s, mI_n, mI_k, mI_2, mJ_1, mJ_s, mJ_n, mJ_k, mJ_2, mT_1, mT_2, mT_s, mT_n, mT_k, mT_3, mR_1, mR_2, mR_3, bI_0, bI_1, bI_n0, bI_n1, Bool.true_eq_false, Bool.false_eq_true, eq_self, i_0, i_1, i_2, i_3, i_4, i_5, i_6, i_7, i_8, i_9, i_10, i_11, i_12, i_13, i_14, i_15, i_16, i_17, i_18, i_19, i_20, i_21, i_22, i_23, i_24, i_25, i_26, i_27, i_28, i_29, i_30, i_31, i_32, i_33, i_34, i_35, i_36, i_37, i_38, i_39, i_40, i_41, i_42, i_43, i_44, i_45, i_48, i_49, i_57, i_59, i_60, i_61, i_62, i_64, i_97, i_110, i_122, i_123, i_125, i_126, i_127, i_160, i_255, i_300, i_400, h4, h5, au, at1, tk1, f_P_use_66]
theorem g_args_2 {b : Nat} {t : List Nat} {rc : Nat → Int32 → Int32 → Int32 → xMem → Option (Int32 × xMem)} {n : Nat} (hV : sVal b t rc n) {d : Nat} (hd : d ≤ 12) (hn : 4 * (12 - d) + 1 ≤ n) {rest : List qI} {sc : Nat} : ∀ (fuel j tok : Nat) (M : xMem) (L : qL), j ≤ tok → 61 < tok + fuel → gW t ((5, d + 1, 1, 0) :: (8, d, 0, 0) :: rest, tok, sc, L) → rC M b t tok sc L → gOut b t ((5, d + 1, 1, 0) :: (8, d, 0, 0) :: rest, tok, sc, L) M (f_P_arguments_2 rc b (nI (d + 1)) fuel (nI j) M) (fun c' M' => gS b t ((8, d, 0, 0) :: rest) tok sc L c' M' ∧ kT t c'.2.1 ≠ 21) := by
  intro fuel
  induction fuel with
  | zero => intro j tok M L hj hf hW hR; have := hW.tok; omega
  | succ f ih =>
    intro j tok M L hj hf hW hR
    have ht := hW.tok
    rcases hV (d + 1) 1 M tok sc L ((8, d, 0, 0) :: rest) (by omega) (by omega) hW hR with ⟨M1, c1, e1, e2, e3, tok1, L1, e4, e5, e6, e7⟩ | ⟨M1, e, e1, e2, e3, e4⟩
    · subst e4
      have hW1 := hW.to e2
      have ht1 := hW1.tok
      have tk := p_take (k := 21) e5 (by omega) (by omega)
      by_cases c : kT t tok1 = 21
      · rw [if_pos c] at tk
        have hr := hW1.real (by omega)
        have st : gTo t ((8, d, 0, 0) :: rest, tok1, sc, L1) (.inr ((5, d + 1, 1, 0) :: (8, d, 0, 0) :: rest, tok1 + 1, sc, L1)) := gTo.one (by
          show qRest (kT t) d rest tok1 sc L1 = _
          unfold qRest; rw [if_pos c])
        have i := ih (j + 1) (tok1 + 1) _ _ (by omega) (by omega) (hW1.to st) (e5.at (tok' := tok1 + 1))
        have o : f_P_arguments_2 rc b (nI (d + 1)) (f + 1) (nI j) M = f_P_arguments_2 rc b (nI (d + 1)) f (nI (j + 1)) (wI M1 (b + 29) 4 (nI (tok1 + 1))) := by
          rw [f_P_arguments_2]
          simp (disch := omega) only [↓reduceIte, nI_leT, nI_leF, nI_ltT, nI_ltF, nI_eqT, nI_eqF, xin_T, nI_clampT, nI_add, nI_inc, pk_subT, xb_some, xval, xlet, mI_s, mI_n, mI_k, mI_2, mJ_1, mJ_s, mJ_n, mJ_k, mJ_2, mT_1, mT_2, mT_s, mT_n, mT_k, mT_3, mR_1, mR_2, mR_3, bI_0, bI_1, bI_n0, bI_n1, Bool.true_eq_false, Bool.false_eq_true, eq_self, i_0, i_1, i_2, i_3, i_4, i_5, i_6, i_7, i_8, i_9, i_10, i_11, i_12, i_13, i_14, i_15, i_16, i_17, i_18, i_19, i_20, i_21, i_22, i_23, i_24, i_25, i_26, i_27, i_28, i_29, i_30, i_31, i_32, i_33, i_34, i_35, i_36, i_37, i_38, i_39, i_40, i_41, i_42, i_43, i_44, i_45, i_48, i_49, i_57, i_59, i_60, i_61, i_62, i_64, i_97, i_110, i_122, i_123, i_125, i_126, i_127, i_160, i_255, i_300, i_400, e1, tk]
        rw [o]
        exact (i.from (e2.trans st) (e3.trans fr_at)).imp (fun c' M' h => ⟨h.1.from (by omega) e7, h.2⟩)
      · rw [if_neg c] at tk
        refine .inl ⟨M1, _, ?_, e2, e3, ⟨tok1, L1, rfl, e5, e6, e7⟩, c⟩
        rw [f_P_arguments_2]
        simp (disch := omega) only [↓reduceIte, nI_leT, nI_leF, nI_ltT, nI_ltF, nI_eqT, nI_eqF, xin_T, nI_clampT, nI_add, nI_inc, pk_subT, xb_some, xval, xlet, mI_s, mI_n, mI_k, mI_2, mJ_1, mJ_s, mJ_n, mJ_k, mJ_2, mT_1, mT_2, mT_s, mT_n, mT_k, mT_3, mR_1, mR_2, mR_3, bI_0, bI_1, bI_n0, bI_n1, Bool.true_eq_false, Bool.false_eq_true, eq_self, i_0, i_1, i_2, i_3, i_4, i_5, i_6, i_7, i_8, i_9, i_10, i_11, i_12, i_13, i_14, i_15, i_16, i_17, i_18, i_19, i_20, i_21, i_22, i_23, i_24, i_25, i_26, i_27, i_28, i_29, i_30, i_31, i_32, i_33, i_34, i_35, i_36, i_37, i_38, i_39, i_40, i_41, i_42, i_43, i_44, i_45, i_48, i_49, i_57, i_59, i_60, i_61, i_62, i_64, i_97, i_110, i_122, i_123, i_125, i_126, i_127, i_160, i_255, i_300, i_400, e1, tk]
    · refine .inr ⟨M1, e, ?_, e2, e3, e4⟩
      rw [f_P_arguments_2]
      simp (disch := omega) only [↓reduceIte, nI_leT, nI_leF, nI_ltT, nI_ltF, nI_eqT, nI_eqF, xin_T, nI_clampT, nI_add, nI_inc, pk_subT, xb_some, xval, xlet, mI_s, mI_n, mI_k, mI_2, mJ_1, mJ_s, mJ_n, mJ_k, mJ_2, mT_1, mT_2, mT_s, mT_n, mT_k, mT_3, mR_1, mR_2, mR_3, bI_0, bI_1, bI_n0, bI_n1, Bool.true_eq_false, Bool.false_eq_true, eq_self, i_0, i_1, i_2, i_3, i_4, i_5, i_6, i_7, i_8, i_9, i_10, i_11, i_12, i_13, i_14, i_15, i_16, i_17, i_18, i_19, i_20, i_21, i_22, i_23, i_24, i_25, i_26, i_27, i_28, i_29, i_30, i_31, i_32, i_33, i_34, i_35, i_36, i_37, i_38, i_39, i_40, i_41, i_42, i_43, i_44, i_45, i_48, i_49, i_57, i_59, i_60, i_61, i_62, i_64, i_97, i_110, i_122, i_123, i_125, i_126, i_127, i_160, i_255, i_300, i_400, e1]
theorem p_ordinal {M : xMem} {k : Nat} (hk : k < 28) : f_JE_ordinal k M = some (nI k, M) := by
  unfold f_JE_ordinal; rw [if_pos hk]
theorem sw_part : ∀ k, k < 28 → (xSwM.getD k 0 = 11 ↔ k = 24) ∧ (xSwM.getD k 0 = 12 ↔ k = 25) ∧ (xSwM.getD k 0 = 13 ↔ k = 23) ∧ (xSwM.getD k 0 = 14 ↔ k = 15) ∧ (xSwM.getD k 0 = 15 ↔ k = 12) ∧ (xSwM.getD k 0 = 16 ↔ k = 16) := by decide
theorem g_part {b : Nat} {t : List Nat} {rc : Nat → Int32 → Int32 → Int32 → xMem → Option (Int32 × xMem)} {n : Nat} (hV : sVal b t rc n) (hP : sPart b t rc n) (hU : sUse b t rc n) {d tok sc : Nat} {M : xMem} {L : qL} {rest : List qI} (hn : 4 * (13 - d) ≤ n + 1) (hd : d ≤ 12) (hW : gW t ((7, d, 0, 0) :: rest, tok, sc, L)) (hR : rC M b t tok sc L) : gOut b t ((7, d, 0, 0) :: rest, tok, sc, L) M (f_P_part rc b (nI d) M) (gS b t rest tok sc L) := by
  have ht := hW.tok
  have nx := p_next hR (by omega)
  have kl := kT_lt t tok
  have od := p_ordinal (M := M) kl
  obtain ⟨w1, w2, w3, w4, w5, w6⟩ := sw_part (kT t tok) kl
  have h4 := hR.2.1
  have sp : qStep (kT t) (wT' t) (dT t) ((7, d, 0, 0) :: rest, tok, sc, L) = qPart (kT t) d rest tok sc L := rfl
  have o : f_P_part rc b (nI d) M = (if kT t tok = 24 then (xbind (f_P_take b 24 M) fun r37 M => if xnar .boolean r37 = true then some (r37, M) else none) else if kT t tok = 25 then (xbind (f_P_take b 25 M) fun r41 M => if xnar .boolean r41 = true then some (r41, M) else none) else if kT t tok = 23 then (xbind (rc 12 (nI d) 0 0 M) fun r45 M => if xnar .boolean r45 = true then some (r45, M) else none) else if kT t tok = 15 then (f_P_part_70 rc b (nI d) M) else if kT t tok = 12 then (f_P_part_70 rc b (nI d) M) else if kT t tok = 16 then (if nI d < 12 then (xval ((M.1 (b + 29) 4) + 1) fun x52 => xlet (wI M (b + 29) 4 x52) fun M => xbind (rc 10 (nI d + 1) 0 0 M) fun r53 M => if r53 = 0 then (some (0, M)) else (xbind (f_P_take b 17 M) fun r56 M => if r56 = 0 then (some (0, M)) else (some (1, M)))) else (some (0, M))) else (some (0, M))) := by
    unfold f_P_part
    rw [nx, xb_some, if_pos kl, od, xb_some, if_pos (xin_T kl (by decide)), nI_clampT (by omega)]
    simp only [w1, w2, w3, w4, w5, w6]
  rw [o]
  by_cases c1 : kT t tok = 24 ∨ kT t tok = 25
  · have st : gTo t ((7, d, 0, 0) :: rest, tok, sc, L) (.inr (rest, tok + 1, sc, L)) := gTo.one (by
      rw [sp]; unfold qPart; rw [if_pos c1])
    refine .inl ⟨_, _, ?_, st, fr_at, tok + 1, _, rfl, hR.at (tok' := tok + 1), by omega, gKp.same rfl rfl rfl⟩
    rcases c1 with c1 | c1
    · have tk := p_take (k := 24) hR (by omega) (by omega)
      rw [if_pos c1] at tk
      rw [if_pos c1]
      simp (disch := omega) only [↓reduceIte, nI_leT, nI_leF, nI_ltT, nI_ltF, nI_eqT, nI_eqF, xin_T, nI_clampT, nI_add, nI_inc, pk_subT, xb_some, xval, xlet, mI_s, mI_n, mI_k, mI_2, mJ_1, mJ_s, mJ_n, mJ_k, mJ_2, mT_1, mT_2, mT_s, mT_n, mT_k, mT_3, mR_1, mR_2, mR_3, bI_0, bI_1, bI_n0, bI_n1, Bool.true_eq_false, Bool.false_eq_true, eq_self, i_0, i_1, i_2, i_3, i_4, i_5, i_6, i_7, i_8, i_9, i_10, i_11, i_12, i_13, i_14, i_15, i_16, i_17, i_18, i_19, i_20, i_21, i_22, i_23, i_24, i_25, i_26, i_27, i_28, i_29, i_30, i_31, i_32, i_33, i_34, i_35, i_36, i_37, i_38, i_39, i_40, i_41, i_42, i_43, i_44, i_45, i_48, i_49, i_57, i_59, i_60, i_61, i_62, i_64, i_97, i_110, i_122, i_123, i_125, i_126, i_127, i_160, i_255, i_300, i_400, tk, xnarB1]
    · have tk := p_take (k := 25) hR (by omega) (by omega)
      rw [if_pos c1] at tk
      rw [if_neg (by omega), if_pos c1]
      simp (disch := omega) only [↓reduceIte, nI_leT, nI_leF, nI_ltT, nI_ltF, nI_eqT, nI_eqF, xin_T, nI_clampT, nI_add, nI_inc, pk_subT, xb_some, xval, xlet, mI_s, mI_n, mI_k, mI_2, mJ_1, mJ_s, mJ_n, mJ_k, mJ_2, mT_1, mT_2, mT_s, mT_n, mT_k, mT_3, mR_1, mR_2, mR_3, bI_0, bI_1, bI_n0, bI_n1, Bool.true_eq_false, Bool.false_eq_true, eq_self, i_0, i_1, i_2, i_3, i_4, i_5, i_6, i_7, i_8, i_9, i_10, i_11, i_12, i_13, i_14, i_15, i_16, i_17, i_18, i_19, i_20, i_21, i_22, i_23, i_24, i_25, i_26, i_27, i_28, i_29, i_30, i_31, i_32, i_33, i_34, i_35, i_36, i_37, i_38, i_39, i_40, i_41, i_42, i_43, i_44, i_45, i_48, i_49, i_57, i_59, i_60, i_61, i_62, i_64, i_97, i_110, i_122, i_123, i_125, i_126, i_127, i_160, i_255, i_300, i_400, tk, xnarB1]
  rw [if_neg (by omega), if_neg (by omega)]
  by_cases c2 : kT t tok = 23
  · rw [if_pos c2]
    rcases hU d M tok sc L rest hn hd hW hR c2 with ⟨M', c', q1, q2, q3, q4⟩ | ⟨M', e, q1, q2, q3, q4⟩
    · refine .inl ⟨M', c', ?_, q2, q3, q4⟩
      simp (disch := omega) only [↓reduceIte, nI_leT, nI_leF, nI_ltT, nI_ltF, nI_eqT, nI_eqF, xin_T, nI_clampT, nI_add, nI_inc, pk_subT, xb_some, xval, xlet, mI_s, mI_n, mI_k, mI_2, mJ_1, mJ_s, mJ_n, mJ_k, mJ_2, mT_1, mT_2, mT_s, mT_n, mT_k, mT_3, mR_1, mR_2, mR_3, bI_0, bI_1, bI_n0, bI_n1, Bool.true_eq_false, Bool.false_eq_true, eq_self, i_0, i_1, i_2, i_3, i_4, i_5, i_6, i_7, i_8, i_9, i_10, i_11, i_12, i_13, i_14, i_15, i_16, i_17, i_18, i_19, i_20, i_21, i_22, i_23, i_24, i_25, i_26, i_27, i_28, i_29, i_30, i_31, i_32, i_33, i_34, i_35, i_36, i_37, i_38, i_39, i_40, i_41, i_42, i_43, i_44, i_45, i_48, i_49, i_57, i_59, i_60, i_61, i_62, i_64, i_97, i_110, i_122, i_123, i_125, i_126, i_127, i_160, i_255, i_300, i_400, q1, xnarB1]
    · refine .inr ⟨M', e, ?_, q2, q3, q4⟩
      simp (disch := omega) only [↓reduceIte, nI_leT, nI_leF, nI_ltT, nI_ltF, nI_eqT, nI_eqF, xin_T, nI_clampT, nI_add, nI_inc, pk_subT, xb_some, xval, xlet, mI_s, mI_n, mI_k, mI_2, mJ_1, mJ_s, mJ_n, mJ_k, mJ_2, mT_1, mT_2, mT_s, mT_n, mT_k, mT_3, mR_1, mR_2, mR_3, bI_0, bI_1, bI_n0, bI_n1, Bool.true_eq_false, Bool.false_eq_true, eq_self, i_0, i_1, i_2, i_3, i_4, i_5, i_6, i_7, i_8, i_9, i_10, i_11, i_12, i_13, i_14, i_15, i_16, i_17, i_18, i_19, i_20, i_21, i_22, i_23, i_24, i_25, i_26, i_27, i_28, i_29, i_30, i_31, i_32, i_33, i_34, i_35, i_36, i_37, i_38, i_39, i_40, i_41, i_42, i_43, i_44, i_45, i_48, i_49, i_57, i_59, i_60, i_61, i_62, i_64, i_97, i_110, i_122, i_123, i_125, i_126, i_127, i_160, i_255, i_300, i_400, q1, xnarB0]
  rw [if_neg c2]
  have c1' : ¬ (kT t tok = 24 ∨ kT t tok = 25) := c1
  by_cases c3 : kT t tok = 15 ∨ kT t tok = 12
  · have o2 : (if kT t tok = 15 then (f_P_part_70 rc b (nI d) M) else if kT t tok = 12 then (f_P_part_70 rc b (nI d) M) else if kT t tok = 16 then (if nI d < 12 then (xval ((M.1 (b + 29) 4) + 1) fun x52 => xlet (wI M (b + 29) 4 x52) fun M => xbind (rc 10 (nI d + 1) 0 0 M) fun r53 M => if r53 = 0 then (some (0, M)) else (xbind (f_P_take b 17 M) fun r56 M => if r56 = 0 then (some (0, M)) else (some (1, M)))) else (some (0, M))) else (some (0, M))) = f_P_part_70 rc b (nI d) M := by
      rcases c3 with c3 | c3
      · rw [if_pos c3]
      · rw [if_neg (by omega), if_pos c3]
    rw [o2]
    unfold f_P_part_70
    by_cases c4 : d = 12
    · refine .inr ⟨M, tok, ?_, gTo.one ?_, pFr.rfl, h4⟩
      · simp (disch := omega) only [↓reduceIte, nI_leT, nI_leF, nI_ltT, nI_ltF, nI_eqT, nI_eqF, xin_T, nI_clampT, nI_add, nI_inc, pk_subT, xb_some, xval, xlet, mI_s, mI_n, mI_k, mI_2, mJ_1, mJ_s, mJ_n, mJ_k, mJ_2, mT_1, mT_2, mT_s, mT_n, mT_k, mT_3, mR_1, mR_2, mR_3, bI_0, bI_1, bI_n0, bI_n1, Bool.true_eq_false, Bool.false_eq_true, eq_self, i_0, i_1, i_2, i_3, i_4, i_5, i_6, i_7, i_8, i_9, i_10, i_11, i_12, i_13, i_14, i_15, i_16, i_17, i_18, i_19, i_20, i_21, i_22, i_23, i_24, i_25, i_26, i_27, i_28, i_29, i_30, i_31, i_32, i_33, i_34, i_35, i_36, i_37, i_38, i_39, i_40, i_41, i_42, i_43, i_44, i_45, i_48, i_49, i_57, i_59, i_60, i_61, i_62, i_64, i_97, i_110, i_122, i_123, i_125, i_126, i_127, i_160, i_255, i_300, i_400]
      · rw [sp]; unfold qPart; rw [if_neg c1', if_neg c2, if_pos c3, if_pos c4]
    · have st : gTo t ((7, d, 0, 0) :: rest, tok, sc, L) (.inr ((7, d + 1, 0, 0) :: rest, tok + 1, sc, L)) := gTo.one (by
        rw [sp]; unfold qPart; rw [if_neg c1', if_neg c2, if_pos c3, if_neg c4])
      rcases (hP (d + 1) _ (tok + 1) sc L rest (by omega) (by omega) (hW.to st) (hR.at (tok' := tok + 1))).from st fr_at with ⟨M', c', q1, q2, q3, q4⟩ | ⟨M', e, q1, q2, q3, q4⟩
      · refine .inl ⟨M', c', ?_, q2, q3, q4.from (by omega) (gKp.same rfl rfl rfl)⟩
        simp (disch := omega) only [↓reduceIte, nI_leT, nI_leF, nI_ltT, nI_ltF, nI_eqT, nI_eqF, xin_T, nI_clampT, nI_add, nI_inc, pk_subT, xb_some, xval, xlet, mI_s, mI_n, mI_k, mI_2, mJ_1, mJ_s, mJ_n, mJ_k, mJ_2, mT_1, mT_2, mT_s, mT_n, mT_k, mT_3, mR_1, mR_2, mR_3, bI_0, bI_1, bI_n0, bI_n1, Bool.true_eq_false, Bool.false_eq_true, eq_self, i_0, i_1, i_2, i_3, i_4, i_5, i_6, i_7, i_8, i_9, i_10, i_11, i_12, i_13, i_14, i_15, i_16, i_17, i_18, i_19, i_20, i_21, i_22, i_23, i_24, i_25, i_26, i_27, i_28, i_29, i_30, i_31, i_32, i_33, i_34, i_35, i_36, i_37, i_38, i_39, i_40, i_41, i_42, i_43, i_44, i_45, i_48, i_49, i_57, i_59, i_60, i_61, i_62, i_64, i_97, i_110, i_122, i_123, i_125, i_126, i_127, i_160, i_255, i_300, i_400, h4, q1, xnarB1]
      · refine .inr ⟨M', e, ?_, q2, q3, q4⟩
        simp (disch := omega) only [↓reduceIte, nI_leT, nI_leF, nI_ltT, nI_ltF, nI_eqT, nI_eqF, xin_T, nI_clampT, nI_add, nI_inc, pk_subT, xb_some, xval, xlet, mI_s, mI_n, mI_k, mI_2, mJ_1, mJ_s, mJ_n, mJ_k, mJ_2, mT_1, mT_2, mT_s, mT_n, mT_k, mT_3, mR_1, mR_2, mR_3, bI_0, bI_1, bI_n0, bI_n1, Bool.true_eq_false, Bool.false_eq_true, eq_self, i_0, i_1, i_2, i_3, i_4, i_5, i_6, i_7, i_8, i_9, i_10, i_11, i_12, i_13, i_14, i_15, i_16, i_17, i_18, i_19, i_20, i_21, i_22, i_23, i_24, i_25, i_26, i_27, i_28, i_29, i_30, i_31, i_32, i_33, i_34, i_35, i_36, i_37, i_38, i_39, i_40, i_41, i_42, i_43, i_44, i_45, i_48, i_49, i_57, i_59, i_60, i_61, i_62, i_64, i_97, i_110, i_122, i_123, i_125, i_126, i_127, i_160, i_255, i_300, i_400, h4, q1, xnarB0]
  rw [if_neg (by omega), if_neg (by omega)]
  by_cases c5 : kT t tok = 16
  · rw [if_pos c5]
    by_cases c4 : d = 12
    · refine .inr ⟨M, tok, ?_, gTo.one ?_, pFr.rfl, h4⟩
      · simp (disch := omega) only [↓reduceIte, nI_leT, nI_leF, nI_ltT, nI_ltF, nI_eqT, nI_eqF, xin_T, nI_clampT, nI_add, nI_inc, pk_subT, xb_some, xval, xlet, mI_s, mI_n, mI_k, mI_2, mJ_1, mJ_s, mJ_n, mJ_k, mJ_2, mT_1, mT_2, mT_s, mT_n, mT_k, mT_3, mR_1, mR_2, mR_3, bI_0, bI_1, bI_n0, bI_n1, Bool.true_eq_false, Bool.false_eq_true, eq_self, i_0, i_1, i_2, i_3, i_4, i_5, i_6, i_7, i_8, i_9, i_10, i_11, i_12, i_13, i_14, i_15, i_16, i_17, i_18, i_19, i_20, i_21, i_22, i_23, i_24, i_25, i_26, i_27, i_28, i_29, i_30, i_31, i_32, i_33, i_34, i_35, i_36, i_37, i_38, i_39, i_40, i_41, i_42, i_43, i_44, i_45, i_48, i_49, i_57, i_59, i_60, i_61, i_62, i_64, i_97, i_110, i_122, i_123, i_125, i_126, i_127, i_160, i_255, i_300, i_400]
      · rw [sp]; unfold qPart; rw [if_neg c1', if_neg c2, if_neg c3, if_pos c5, if_pos c4]
    · have st : gTo t ((7, d, 0, 0) :: rest, tok, sc, L) (.inr ((5, d + 1, 0, 0) :: (4, d, 17, 0) :: rest, tok + 1, sc, L)) := gTo.one (by
        rw [sp]; unfold qPart; rw [if_neg c1', if_neg c2, if_neg c3, if_pos c5, if_neg c4])
      rcases (hV (d + 1) 0 _ (tok + 1) sc L ((4, d, 17, 0) :: rest) (by omega) (by omega) (hW.to st) (hR.at (tok' := tok + 1))).from st fr_at with ⟨M', c', q1, q2, q3, tok', L', s1, s2, s3, s4⟩ | ⟨M', e, q1, q2, q3, q4⟩
      · subst s1
        have ht' := (hW.to q2).tok
        have tk := p_take (k := 17) s2 (by omega) (by omega)
        by_cases c6 : kT t tok' = 17
        · rw [if_pos c6] at tk
          have st2 : gTo t ((4, d, 17, 0) :: rest, tok', sc, L') (.inr (rest, tok' + 1, sc, L')) := gTo.one (by
            show qOne (kT t) 17 rest tok' sc L' = _
            unfold qOne; rw [if_pos c6])
          refine .inl ⟨_, _, ?_, q2.trans st2, q3.trans fr_at, tok' + 1, _, rfl, s2.at (tok' := tok' + 1), by omega, s4⟩
          simp (disch := omega) only [↓reduceIte, nI_leT, nI_leF, nI_ltT, nI_ltF, nI_eqT, nI_eqF, xin_T, nI_clampT, nI_add, nI_inc, pk_subT, xb_some, xval, xlet, mI_s, mI_n, mI_k, mI_2, mJ_1, mJ_s, mJ_n, mJ_k, mJ_2, mT_1, mT_2, mT_s, mT_n, mT_k, mT_3, mR_1, mR_2, mR_3, bI_0, bI_1, bI_n0, bI_n1, Bool.true_eq_false, Bool.false_eq_true, eq_self, i_0, i_1, i_2, i_3, i_4, i_5, i_6, i_7, i_8, i_9, i_10, i_11, i_12, i_13, i_14, i_15, i_16, i_17, i_18, i_19, i_20, i_21, i_22, i_23, i_24, i_25, i_26, i_27, i_28, i_29, i_30, i_31, i_32, i_33, i_34, i_35, i_36, i_37, i_38, i_39, i_40, i_41, i_42, i_43, i_44, i_45, i_48, i_49, i_57, i_59, i_60, i_61, i_62, i_64, i_97, i_110, i_122, i_123, i_125, i_126, i_127, i_160, i_255, i_300, i_400, h4, q1, tk]
        · rw [if_neg c6] at tk
          have st2 : gTo t ((4, d, 17, 0) :: rest, tok', sc, L') (.inl tok') := gTo.one (by
            show qOne (kT t) 17 rest tok' sc L' = _
            unfold qOne; rw [if_neg c6])
          refine .inr ⟨M', tok', ?_, q2.trans st2, q3, s2.2.1⟩
          simp (disch := omega) only [↓reduceIte, nI_leT, nI_leF, nI_ltT, nI_ltF, nI_eqT, nI_eqF, xin_T, nI_clampT, nI_add, nI_inc, pk_subT, xb_some, xval, xlet, mI_s, mI_n, mI_k, mI_2, mJ_1, mJ_s, mJ_n, mJ_k, mJ_2, mT_1, mT_2, mT_s, mT_n, mT_k, mT_3, mR_1, mR_2, mR_3, bI_0, bI_1, bI_n0, bI_n1, Bool.true_eq_false, Bool.false_eq_true, eq_self, i_0, i_1, i_2, i_3, i_4, i_5, i_6, i_7, i_8, i_9, i_10, i_11, i_12, i_13, i_14, i_15, i_16, i_17, i_18, i_19, i_20, i_21, i_22, i_23, i_24, i_25, i_26, i_27, i_28, i_29, i_30, i_31, i_32, i_33, i_34, i_35, i_36, i_37, i_38, i_39, i_40, i_41, i_42, i_43, i_44, i_45, i_48, i_49, i_57, i_59, i_60, i_61, i_62, i_64, i_97, i_110, i_122, i_123, i_125, i_126, i_127, i_160, i_255, i_300, i_400, h4, q1, tk]
      · refine .inr ⟨M', e, ?_, q2, q3, q4⟩
        simp (disch := omega) only [↓reduceIte, nI_leT, nI_leF, nI_ltT, nI_ltF, nI_eqT, nI_eqF, xin_T, nI_clampT, nI_add, nI_inc, pk_subT, xb_some, xval, xlet, mI_s, mI_n, mI_k, mI_2, mJ_1, mJ_s, mJ_n, mJ_k, mJ_2, mT_1, mT_2, mT_s, mT_n, mT_k, mT_3, mR_1, mR_2, mR_3, bI_0, bI_1, bI_n0, bI_n1, Bool.true_eq_false, Bool.false_eq_true, eq_self, i_0, i_1, i_2, i_3, i_4, i_5, i_6, i_7, i_8, i_9, i_10, i_11, i_12, i_13, i_14, i_15, i_16, i_17, i_18, i_19, i_20, i_21, i_22, i_23, i_24, i_25, i_26, i_27, i_28, i_29, i_30, i_31, i_32, i_33, i_34, i_35, i_36, i_37, i_38, i_39, i_40, i_41, i_42, i_43, i_44, i_45, i_48, i_49, i_57, i_59, i_60, i_61, i_62, i_64, i_97, i_110, i_122, i_123, i_125, i_126, i_127, i_160, i_255, i_300, i_400, h4, q1]
  · rw [if_neg c5]
    refine .inr ⟨M, tok, rfl, gTo.one ?_, pFr.rfl, h4⟩
    rw [sp]; unfold qPart; rw [if_neg c1', if_neg c2, if_neg c3, if_neg c5]
