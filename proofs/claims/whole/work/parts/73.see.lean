/-! PURE: which thing a NAME means -/
/-- from SCOPE s up, n SCOPES more: the thing of word w; all things' number if there is none -/
def qSee (wd : Nat → Nat) (l0 l1 : List qE) (w : Nat) : Nat → Nat → Nat
  | 0, s => qFind wd l1 s w
  | n + 1, s => if qFind wd l1 s w < l1.length then qFind wd l1 s w else qSee wd l0 l1 w n (qg l0 s).1
def qSeen (wd : Nat → Nat) (l0 l1 : List qE) (s w : Nat) : Nat := qSee wd l0 l1 w (qg l0 s).2.2.2.1 s
theorem qSee_le {wd : Nat → Nat} {l0 l1 : List qE} {w : Nat} : ∀ (n s : Nat), qSee wd l0 l1 w n s ≤ l1.length := by
  intro n
  induction n with
  | zero => intro s; exact q_find_le _ _ _ _
  | succ n ih =>
    intro s
    rw [qSee]
    split
    · omega
    · exact ih _
theorem qSc.level {l : List qE} (h : qSc l) {s : Nat} (hs : s < l.length) : ((qg l s).2.2.2.1 = 0 ↔ s = 0) ∧ (s ≠ 0 → (qg l s).1 < s ∧ (qg l s).2.2.2.1 = (qg l (qg l s).1).2.2.2.1 + 1) := by
  refine ⟨?_, ?_⟩
  · constructor
    · intro e
      by_cases c : s = 0
      · exact c
      · have := (h.2.2 s (by omega) hs).2.2.2; omega
    · intro e; subst e; rw [h.2.1]
  · intro c
    have := h.2.2 s (by omega) hs
    exact ⟨this.1, this.2.2.2⟩
theorem qSc.lev_le {l : List qE} (h : qSc l) : ∀ s, s < l.length → (qg l s).2.2.2.1 ≤ s := by
  intro s
  induction s using Nat.strongRecOn with
  | _ s ih =>
    intro hs
    by_cases c : s = 0
    · subst c; rw [h.2.1]; exact Nat.le_refl _
    · obtain ⟨a1, a2⟩ := (h.level hs).2 c
      have := ih _ a1 (by omega)
      omega
/-- what the SCOPES around a thing tell -/
theorem qSeen_up {wd : Nat → Nat} {l0 l1 : List qE} {s w : Nat} (h : qSc l0) (hs : s < l0.length) (hne : s ≠ 0) (hn : ¬ qFind wd l1 s w < l1.length) : qSeen wd l0 l1 s w = qSeen wd l0 l1 (qg l0 s).1 w := by
  obtain ⟨a1, a2⟩ := (h.level hs).2 hne
  unfold qSeen
  rw [a2, qSee, if_neg hn]
theorem qSeen_here {wd : Nat → Nat} {l0 l1 : List qE} {s w : Nat} (hn : qFind wd l1 s w < l1.length) : qSeen wd l0 l1 s w = qFind wd l1 s w := by
  unfold qSeen
  cases (qg l0 s).2.2.2.1 with
  | zero => rfl
  | succ n => rw [qSee, if_pos hn]
theorem qSeen_root {wd : Nat → Nat} {l0 l1 : List qE} {w : Nat} (h : qSc l0) : qSeen wd l0 l1 0 w = qFind wd l1 0 w := by
  unfold qSeen; rw [h.2.1]; rfl
/-- the thing that is meant stands in a SCOPE around, and a fn is between just if the homes differ -/
theorem qSeen_home {wd : Nat → Nat} {l0 l1 : List qE} {w : Nat} (h : qSc l0) : ∀ s, s < l0.length → qSeen wd l0 l1 s w < l1.length → (qg l1 (qSeen wd l0 l1 s w)).2.1 ≤ s ∧ wd (qg l1 (qSeen wd l0 l1 s w)).1 = w := by
  intro s
  induction s using Nat.strongRecOn with
  | _ s ih =>
    intro hs hl
    by_cases c : qFind wd l1 s w < l1.length
    · rw [qSeen_here c]
      have := (q_find_spec (wd := wd) (l := l1) (s := s) (w := w)).2 c
      exact ⟨by omega, this.2⟩
    · by_cases c0 : s = 0
      · subst c0; rw [qSeen_root h] at hl; exact absurd hl c
      · rw [qSeen_up h hs c0 c] at hl ⊢
        obtain ⟨a1, _⟩ := (h.level hs).2 c0
        have := ih _ a1 (by omega) hl
        exact ⟨by omega, this.2⟩
/-- things while USES are bound: reads R, writes W -/
def rT2 (M : xMem) (b : Nat) (wd : Nat → Nat) (l : List qE) (R W : Nat → Nat) : Prop := M.1 (b + 12) 8 = nI l.length ∧ rA M (b + 13) l (fun e => e.1) ∧ rA M (b + 14) l (fun e => wd e.1) ∧ rA M (b + 15) l (fun e => e.2.2.1) ∧ rA M (b + 16) l (fun e => e.2.1) ∧ (∀ i, i < l.length → M.1 (b + 17) i = nI (R i)) ∧ (∀ i, i < l.length → M.1 (b + 18) i = nI (W i)) ∧ rA M (b + 19) l (fun e => e.2.2.2.1) ∧ rA M (b + 20) l (fun e => if e.2.2.2.2 = 0 then 0 else 1)
theorem rTh.t2 {M : xMem} {b : Nat} {wd : Nat → Nat} {l : List qE} (h : rTh M b wd l) : rT2 M b wd l (fun _ => 0) (fun i => (qg l i).2.2.2.2) := by
  obtain ⟨h0, h1, h2, h3, h4, h5, h6, h7, h8⟩ := h
  exact ⟨h0, h1, h2, h3, h4, h5, h6, h7, h8⟩
theorem rT2.to {M M' : xMem} {b : Nat} {wd : Nat → Nat} {l : List qE} {R W : Nat → Nat} (h : rT2 M b wd l R W) (e : ∀ a, b + 12 ≤ a → a < b + 21 → M'.1 a = M.1 a) : rT2 M' b wd l R W := by
  obtain ⟨h0, h1, h2, h3, h4, h5, h6, h7, h8⟩ := h
  exact ⟨by rw [e _ (by omega) (by omega)]; exact h0, h1.to (e _ (by omega) (by omega)), h2.to (e _ (by omega) (by omega)), h3.to (e _ (by omega) (by omega)), h4.to (e _ (by omega) (by omega)), by rw [e _ (by omega) (by omega)]; exact h5, by rw [e _ (by omega) (by omega)]; exact h6, h7.to (e _ (by omega) (by omega)), h8.to (e _ (by omega) (by omega))⟩
theorem p_inScope2_2 {M : xMem} {b s w : Nat} {wd : Nat → Nat} {l : List qE} {R W : Nat → Nat} (h : rT2 M b wd l R W) (hl : l.length ≤ 60) (hs : s < 1000) (hw : w < 1000) (hb : ∀ i, i < l.length → (qg l i).2.1 < 1000 ∧ wd (qg l i).1 < 1000) : ∀ (m v fuel : Nat), v + m = l.length → m < fuel → v ≤ qFind wd l s w → f_H_inScope_2 b (nI s) (nI w) fuel (nI v) M = some (if qFind wd l s w < l.length then nI (qFind wd l s w) else -1, M) := by
  obtain ⟨k0, k1, k2, k3, k4, k5⟩ := h
  have sp := q_find_spec (wd := wd) (l := l) (s := s) (w := w)
  have hle := q_find_le wd l s w
  intro m
  induction m with
  | zero =>
    intro v fuel hv hf hq
    obtain ⟨f, rfl⟩ : ∃ f, fuel = f + 1 := ⟨fuel - 1, by omega⟩
    have : v = l.length := by omega
    subst this
    rw [f_H_inScope_2, if_neg (show ¬ qFind wd l s w < l.length by omega)]
    simp (disch := omega) only [↓reduceIte, nI_leT, nI_leF, nI_ltT, nI_ltF, nI_eqT, nI_eqF, xin_T, nI_clampT, nI_add, nI_inc, pk_subT, xb_some, xval, xlet, mI_s, mI_n, mI_k, mI_2, mJ_1, mJ_s, mJ_n, mJ_k, mJ_2, mT_1, mT_2, mT_s, mT_n, mT_k, mT_3, mR_1, mR_2, mR_3, bI_0, bI_1, bI_n0, bI_n1, Bool.true_eq_false, Bool.false_eq_true, eq_self, i_0, i_1, i_2, i_3, i_4, i_5, i_6, i_7, i_8, i_9, i_10, i_11, i_12, i_13, i_14, i_15, i_16, i_17, i_18, i_19, i_20, i_21, i_22, i_23, i_24, i_25, i_26, i_27, i_28, i_29, i_30, i_31, i_32, i_33, i_34, i_35, i_36, i_37, i_38, i_39, i_40, i_41, i_42, i_43, i_44, i_45, i_48, i_49, i_57, i_59, i_60, i_61, i_62, i_64, i_97, i_110, i_122, i_123, i_125, i_126, i_127, i_160, i_255, i_300, i_400, k0]
  | succ m ih =>
    intro v fuel hv hf hq
    obtain ⟨f, rfl⟩ : ∃ f, fuel = f + 1 := ⟨fuel - 1, by omega⟩
    have hv' : v < l.length := by omega
    have e2 := k2 v hv'
    have e4 := k4 v hv'
    obtain ⟨b1, b2⟩ := hb v hv'
    rw [f_H_inScope_2]
    by_cases c : v = qFind wd l s w
    · subst c
      obtain ⟨s1, s2⟩ := sp.2 hv'
      rw [if_pos hv']
      simp (disch := omega) only [↓reduceIte, nI_leT, nI_leF, nI_ltT, nI_ltF, nI_eqT, nI_eqF, xin_T, nI_clampT, nI_add, nI_inc, pk_subT, xb_some, xval, xlet, mI_s, mI_n, mI_k, mI_2, mJ_1, mJ_s, mJ_n, mJ_k, mJ_2, mT_1, mT_2, mT_s, mT_n, mT_k, mT_3, mR_1, mR_2, mR_3, bI_0, bI_1, bI_n0, bI_n1, Bool.true_eq_false, Bool.false_eq_true, eq_self, i_0, i_1, i_2, i_3, i_4, i_5, i_6, i_7, i_8, i_9, i_10, i_11, i_12, i_13, i_14, i_15, i_16, i_17, i_18, i_19, i_20, i_21, i_22, i_23, i_24, i_25, i_26, i_27, i_28, i_29, i_30, i_31, i_32, i_33, i_34, i_35, i_36, i_37, i_38, i_39, i_40, i_41, i_42, i_43, i_44, i_45, i_48, i_49, i_57, i_59, i_60, i_61, i_62, i_64, i_97, i_110, i_122, i_123, i_125, i_126, i_127, i_160, i_255, i_300, i_400, k0, e2, e4, s1, s2]
    · have n := sp.1 v (by omega)
      have ih' := ih (v + 1) f (by omega) (by omega) (by omega)
      by_cases c1 : (qg l v).2.1 = s
      · have c2 : wd (qg l v).1 ≠ w := fun e => n ⟨c1, e⟩
        simp (disch := omega) only [↓reduceIte, nI_leT, nI_leF, nI_ltT, nI_ltF, nI_eqT, nI_eqF, xin_T, nI_clampT, nI_add, nI_inc, pk_subT, xb_some, xval, xlet, mI_s, mI_n, mI_k, mI_2, mJ_1, mJ_s, mJ_n, mJ_k, mJ_2, mT_1, mT_2, mT_s, mT_n, mT_k, mT_3, mR_1, mR_2, mR_3, bI_0, bI_1, bI_n0, bI_n1, Bool.true_eq_false, Bool.false_eq_true, eq_self, i_0, i_1, i_2, i_3, i_4, i_5, i_6, i_7, i_8, i_9, i_10, i_11, i_12, i_13, i_14, i_15, i_16, i_17, i_18, i_19, i_20, i_21, i_22, i_23, i_24, i_25, i_26, i_27, i_28, i_29, i_30, i_31, i_32, i_33, i_34, i_35, i_36, i_37, i_38, i_39, i_40, i_41, i_42, i_43, i_44, i_45, i_48, i_49, i_57, i_59, i_60, i_61, i_62, i_64, i_97, i_110, i_122, i_123, i_125, i_126, i_127, i_160, i_255, i_300, i_400, k0, e2, e4, c1, f_H_inScope_32]
        exact ih'
      · simp (disch := omega) only [↓reduceIte, nI_leT, nI_leF, nI_ltT, nI_ltF, nI_eqT, nI_eqF, xin_T, nI_clampT, nI_add, nI_inc, pk_subT, xb_some, xval, xlet, mI_s, mI_n, mI_k, mI_2, mJ_1, mJ_s, mJ_n, mJ_k, mJ_2, mT_1, mT_2, mT_s, mT_n, mT_k, mT_3, mR_1, mR_2, mR_3, bI_0, bI_1, bI_n0, bI_n1, Bool.true_eq_false, Bool.false_eq_true, eq_self, i_0, i_1, i_2, i_3, i_4, i_5, i_6, i_7, i_8, i_9, i_10, i_11, i_12, i_13, i_14, i_15, i_16, i_17, i_18, i_19, i_20, i_21, i_22, i_23, i_24, i_25, i_26, i_27, i_28, i_29, i_30, i_31, i_32, i_33, i_34, i_35, i_36, i_37, i_38, i_39, i_40, i_41, i_42, i_43, i_44, i_45, i_48, i_49, i_57, i_59, i_60, i_61, i_62, i_64, i_97, i_110, i_122, i_123, i_125, i_126, i_127, i_160, i_255, i_300, i_400, k0, e2, e4, f_H_inScope_32]
        exact ih'
theorem p_inScope2 {M : xMem} {b s w : Nat} {wd : Nat → Nat} {l : List qE} {R W : Nat → Nat} (h : rT2 M b wd l R W) (hl : l.length ≤ 60) (hs : s < 1000) (hw : w < 1000) (hb : ∀ i, i < l.length → (qg l i).2.1 < 1000 ∧ wd (qg l i).1 < 1000) : f_H_inScope b (nI s) (nI w) M = some (if qFind wd l s w < l.length then nI (qFind wd l s w) else -1, M) :=
  p_inScope2_2 h hl hs hw hb l.length 0 xFuel (by omega) (by unfold xFuel; omega) (by omega)
theorem p_aroundOf {M : xMem} {b s : Nat} {l : List qE} (h : rSc M b l) (hs : s < l.length) (hl : l.length ≤ 61) : f_S_aroundOf b (nI s) M = some (nI (qg l s).1, M) := by
  obtain ⟨h1, h2, h3, h4⟩ := h
  have e := h2 s hs
  unfold f_S_aroundOf f_S_isThere
  simp (disch := omega) only [↓reduceIte, nI_leT, nI_leF, nI_ltT, nI_ltF, nI_eqT, nI_eqF, xin_T, nI_clampT, nI_add, nI_inc, pk_subT, xb_some, xval, xlet, mI_s, mI_n, mI_k, mI_2, mJ_1, mJ_s, mJ_n, mJ_k, mJ_2, mT_1, mT_2, mT_s, mT_n, mT_k, mT_3, mR_1, mR_2, mR_3, bI_0, bI_1, bI_n0, bI_n1, Bool.true_eq_false, Bool.false_eq_true, eq_self, i_0, i_1, i_2, i_3, i_4, i_5, i_6, i_7, i_8, i_9, i_10, i_11, i_12, i_13, i_14, i_15, i_16, i_17, i_18, i_19, i_20, i_21, i_22, i_23, i_24, i_25, i_26, i_27, i_28, i_29, i_30, i_31, i_32, i_33, i_34, i_35, i_36, i_37, i_38, i_39, i_40, i_41, i_42, i_43, i_44, i_45, i_48, i_49, i_57, i_59, i_60, i_61, i_62, i_64, i_97, i_110, i_122, i_123, i_125, i_126, i_127, i_160, i_255, i_300, i_400, h1, e]
theorem p_levelOf {M : xMem} {b s : Nat} {l : List qE} (h : rSc M b l) (hs : s < l.length) (hl : l.length ≤ 61) : f_S_levelOf b (nI s) M = some (nI (qg l s).2.2.2.1, M) := by
  obtain ⟨h1, h2, h3, h4⟩ := h
  have e := h4 s hs
  unfold f_S_levelOf f_S_isThere
  simp (disch := omega) only [↓reduceIte, nI_leT, nI_leF, nI_ltT, nI_ltF, nI_eqT, nI_eqF, xin_T, nI_clampT, nI_add, nI_inc, pk_subT, xb_some, xval, xlet, mI_s, mI_n, mI_k, mI_2, mJ_1, mJ_s, mJ_n, mJ_k, mJ_2, mT_1, mT_2, mT_s, mT_n, mT_k, mT_3, mR_1, mR_2, mR_3, bI_0, bI_1, bI_n0, bI_n1, Bool.true_eq_false, Bool.false_eq_true, eq_self, i_0, i_1, i_2, i_3, i_4, i_5, i_6, i_7, i_8, i_9, i_10, i_11, i_12, i_13, i_14, i_15, i_16, i_17, i_18, i_19, i_20, i_21, i_22, i_23, i_24, i_25, i_26, i_27, i_28, i_29, i_30, i_31, i_32, i_33, i_34, i_35, i_36, i_37, i_38, i_39, i_40, i_41, i_42, i_43, i_44, i_45, i_48, i_49, i_57, i_59, i_60, i_61, i_62, i_64, i_97, i_110, i_122, i_123, i_125, i_126, i_127, i_160, i_255, i_300, i_400, h1, e]
theorem nI_dec (n : Nat) : nI (n + 1) + Int32.ofInt (-1) = nI n := pk_m1 n
theorem p_seenFrom_12 {M : xMem} {b w : Nat} {wd : Nat → Nat} {l0 l1 : List qE} {R W : Nat → Nat} {p1 : Int32} (h0 : rSc M b l0) (hs0 : qSc l0) (hl0 : l0.length ≤ 61) (h : rT2 M b wd l1 R W) (hl : l1.length ≤ 60) (hw : w < 1000) (hb : ∀ i, i < l1.length → (qg l1 i).2.1 < 1000 ∧ wd (qg l1 i).1 < 1000) : ∀ (n s fuel : Nat), s < l0.length → n ≤ (qg l0 s).2.2.2.1 → n + 2 ≤ fuel → f_B_seenFrom_12 b p1 (nI w) fuel (nI s) (nI n) M = some (if qSee wd l0 l1 w n s < l1.length then nI (qSee wd l0 l1 w n s) else -1, M) := by
  have m1 : (nI 0 + Int32.ofInt (-1) : Int32) = -1 := by decide
  intro n
  induction n with
  | zero =>
    intro s fuel hs hn hf
    obtain ⟨f, rfl⟩ : ∃ f, fuel = f + 2 := ⟨fuel - 2, by omega⟩
    have ins := p_inScope2 (w := w) h hl (s := s) (by omega) hw hb
    rw [f_B_seenFrom_12, if_neg (by decide), ins, xb_some, qSee]
    by_cases c : qFind wd l1 s w < l1.length
    · rw [if_pos c, if_neg (show ¬ nI (qFind wd l1 s w) < 0 from (nI_nlt (a := qFind wd l1 s w) (b := 0) (by omega) (by omega) : ¬ nI (qFind wd l1 s w) < nI 0))]
    · rw [if_neg c, if_pos (by decide), p_aroundOf h0 hs hl0, xb_some, m1, f_B_seenFrom_12, if_pos (by decide)]
  | succ n ih =>
    intro s fuel hs hn hf
    obtain ⟨f, rfl⟩ : ∃ f, fuel = f + 1 := ⟨fuel - 1, by omega⟩
    have ins := p_inScope2 (w := w) h hl (s := s) (by omega) hw hb
    have ll := hs0.lev_le s hs
    rw [f_B_seenFrom_12, if_neg (show ¬ nI (n + 1) < 0 from (nI_nlt (a := n + 1) (b := 0) (by omega) (by omega) : ¬ nI (n + 1) < nI 0)), ins, xb_some, qSee]
    by_cases c : qFind wd l1 s w < l1.length
    · rw [if_pos c, if_pos c, if_pos c, if_neg (show ¬ nI (qFind wd l1 s w) < 0 from (nI_nlt (a := qFind wd l1 s w) (b := 0) (by omega) (by omega) : ¬ nI (qFind wd l1 s w) < nI 0))]
    · have s0 : s ≠ 0 := by intro e; subst e; rw [hs0.2.1] at hn; dsimp only at hn; omega
      obtain ⟨a1, a2⟩ := (hs0.level hs).2 s0
      rw [if_neg c, if_neg c, if_pos (by decide), p_aroundOf h0 hs hl0, xb_some, nI_dec]
      exact ih (qg l0 s).1 f (by omega) (by omega) (by omega)
theorem p_seenFrom {M : xMem} {b s w : Nat} {wd : Nat → Nat} {l0 l1 : List qE} {R W : Nat → Nat} (h0 : rSc M b l0) (hs0 : qSc l0) (hl0 : l0.length ≤ 61) (h : rT2 M b wd l1 R W) (hl : l1.length ≤ 60) (hw : w < 1000) (hb : ∀ i, i < l1.length → (qg l1 i).2.1 < 1000 ∧ wd (qg l1 i).1 < 1000) (hs : s < l0.length) : f_B_seenFrom b (nI s) (nI w) M = some (if qSeen wd l0 l1 s w < l1.length then nI (qSeen wd l0 l1 s w) else -1, M) := by
  have ll := hs0.lev_le s hs
  unfold f_B_seenFrom
  rw [p_levelOf h0 hs hl0, xb_some]
  exact p_seenFrom_12 h0 hs0 hl0 h hl hw hb _ s xFuel hs (Nat.le_refl _) (by unfold xFuel; omega)
