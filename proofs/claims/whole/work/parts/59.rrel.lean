/-! PURE: the reference's memory while it reads -/
def rB (M : xMem) (a : Nat) (l : List qE) (g : qE → Int32) : Prop := ∀ i, i < l.length → M.1 a i = g (qg l i)
/-- a list of the reference: its size at place k of the object, its columns at b + c.1 -/
def nL (M : xMem) (b k : Nat) (l : List qE) (cs : List (Nat × (qE → Int32))) : Prop := M.1 b k = nI l.length ∧ ∀ c, c ∈ cs → rB M (b + c.1) l c.2
theorem nL.fr {S : Nat → Nat → Prop} {M M' : xMem} {b k : Nat} {l : List qE} {cs : List (Nat × (qE → Int32))} (h : nL M b k l cs) (f : rF S M M') (hk : ¬ S b k) (hc : ∀ a, a ∈ cs.map Prod.fst → ∀ j, ¬ S (b + a) j) : nL M' b k l cs := by
  refine ⟨by rw [f.2 _ _ hk]; exact h.1, ?_⟩
  intro c hcs i hi
  rw [f.2 _ _ (hc c.1 (List.mem_map_of_mem hcs) i)]
  exact h.2 c hcs i hi
theorem nL.app {M M' : xMem} {b k : Nat} {l : List qE} {cs : List (Nat × (qE → Int32))} {x : qE} (h : nL M b k l cs) (hk : M'.1 b k = nI (l.length + 1)) (hc : ∀ c, c ∈ cs → (∀ i, i < l.length → M'.1 (b + c.1) i = M.1 (b + c.1) i) ∧ M'.1 (b + c.1) l.length = c.2 x) : nL M' b k (l ++ [x]) cs := by
  refine ⟨by rw [hk, List.length_append]; rfl, ?_⟩
  intro c hcs i hi
  rw [List.length_append, List.length_singleton] at hi
  by_cases q : i < l.length
  · rw [qg_lt q, (hc c hcs).1 i q]; exact h.2 c hcs i q
  · have : i = l.length := by omega
    subst this; rw [qg_eq]; exact (hc c hcs).2
theorem nL.mod {M M' : xMem} {b k n : Nat} {l : List qE} {cs : List (Nat × (qE → Int32))} {u : qE → qE} (h : nL M b k l cs) (hk : M'.1 b k = M.1 b k) (hc : ∀ c, c ∈ cs → (∀ i, i < l.length → i ≠ n → M'.1 (b + c.1) i = M.1 (b + c.1) i) ∧ (n < l.length → M'.1 (b + c.1) n = c.2 (u (qg l n)))) : nL M' b k (l.modify n u) cs := by
  refine ⟨by rw [hk, List.length_modify]; exact h.1, ?_⟩
  intro c hcs i hi
  rw [List.length_modify] at hi
  by_cases q : i = n
  · subst q; rw [qg_mod hi]; exact (hc c hcs).2 hi
  · rw [qg_modn q, (hc c hcs).1 i hi q]; exact h.2 c hcs i hi
def c0 : List (Nat × (qE → Int32)) := [(15, fun e => if e.2.2.2.1 = 0 then -1 else nI e.1), (17, fun e => nI e.2.1)]
def c5 : List (Nat × (qE → Int32)) := [(16, fun e => nI e.1)]
def c1 : List (Nat × (qE → Int32)) := [(18, fun e => nI e.1), (19, fun e => nI e.2.1), (20, fun e => nI e.2.2.1), (21, fun e => nI e.2.2.2.1), (22, fun _ => nI 0), (23, fun e => nI e.2.2.2.2)]
def c2 : List (Nat × (qE → Int32)) := [(24, fun e => nI e.1), (25, fun e => nI e.2.1), (27, fun e => nI e.2.2.1)]
def c14 (t : List Nat) : List (Nat × (qE → Int32)) := [(28, fun e => nI (pS (pLex t) e.1))]
def c15 (t : List Nat) : List (Nat × (qE → Int32)) := [(29, fun e => nI (pS (pLex t) e.1))]
def c16 (t : List Nat) : List (Nat × (qE → Int32)) := [(30, fun e => nI (pS (pLex t) e.1))]
def c6 (t : List Nat) : List (Nat × (qE → Int32)) := [(31, fun e => nI (pS (pLex t) e.1)), (32, fun e => nI e.2.1)]
def c18 (t : List Nat) : List (Nat × (qE → Int32)) := [(33, fun e => nI (pS (pLex t) e.1)), (34, fun e => nI (pE (pLex t) (e.1 + 1))), (39, fun e => nI e.2.1)]
def c19 (t : List Nat) : List (Nat × (qE → Int32)) := [(35, fun e => nI (pS (pLex t) e.1))]
def c4 (t : List Nat) : List (Nat × (qE → Int32)) := [(36, fun e => nI e.1), (37, fun e => nI (pS (pLex t) e.2.1))]
/-- an excuse that has ended -/
def nEx (M : xMem) (b : Nat) (t : List Nat) (l : List qE) : Prop := ∀ i, i < l.length → (qg l i).2.2.1 ≠ 0 → M.1 (b + 38) i = nI (pE (pLex t) ((qg l i).2.2.1 - 1)) - 1
/-- all that the reference has noted -/
def nD (M : xMem) (b : Nat) (t : List Nat) (L : qL) : Prop := nL M b 27 (L 0) c0 ∧ nL M b 29 (L 5) c5 ∧ nL M b 36 (L 1) c1 ∧ nL M b 41 (L 2) c2 ∧ nL M b 54 (L 14) (c14 t) ∧ nL M b 55 (L 15) (c15 t) ∧ nL M b 56 (L 16) (c16 t) ∧ nL M b 57 (L 6) (c6 t) ∧ nL M b 58 (L 18) (c18 t) ∧ nL M b 59 (L 19) (c19 t) ∧ nL M b 60 (L 4) (c4 t) ∧ nEx M b t (L 4)
/-- one item of the stack -/
def nA (x : qI) : Int32 := if x.1 = 1 ∨ x.1 = 4 then nI (rk x.2.2.1) else if x.1 = 2 then (if x.2.2.1 = 0 then -1 else nI (x.2.2.1 - 1)) else nI x.2.2.1
def nItem (M : xMem) (b h : Nat) (x : qI) : Prop := M.1 (b + 11) h = nI x.1 ∧ M.1 (b + 12) h = nI x.2.1 ∧ M.1 (b + 13) h = nA x ∧ M.1 (b + 14) h = nI x.2.2.2
def nStk (M : xMem) (b : Nat) : List qI → Prop
  | [] => True
  | x :: r => nItem M b r.length x ∧ nStk M b r
/-- what the reference's grammar may write -/
def rScS (b : Nat) (a k : Nat) : Prop := (a = b ∧ (k = 4 ∨ (7 ≤ k ∧ k ≤ 9) ∨ (27 ≤ k ∧ k ≤ 60))) ∨ (b + 8 ≤ a ∧ a ≤ b + 39)
/-- the same but for the text's TOKENS -/
def rGrS (b : Nat) (a k : Nat) : Prop := (a = b ∧ (k = 4 ∨ (7 ≤ k ∧ k ≤ 8) ∨ (27 ≤ k ∧ k ≤ 60))) ∨ (b + 11 ≤ a ∧ a ≤ b + 39)
def nR (M : xMem) (b : Nat) (t : List Nat) (c : qC) : Prop := rLx M b t ∧ M.1 b 7 = nI c.2.1 ∧ M.1 b 4 = -1 ∧ M.1 b 8 = nI c.1.length ∧ nStk M b c.1 ∧ M.1 b 28 = nI c.2.2.1 ∧ nD M b t c.2.2.2
theorem rLx.gr {M M' : xMem} {b : Nat} {t : List Nat} (h : rLx M b t) (f : rF (rGrS b) M M') : rLx M' b t := by
  obtain ⟨h1, h2, h3, h4, h5⟩ := h
  refine ⟨h1.to (f.2 _ _ (by unfold rGrS; omega)) (f.at (by intro k; unfold rGrS; omega)), by rw [f.2 _ _ (by unfold rGrS; omega)]; exact h2, ?_, by rw [f.2 _ _ (by unfold rGrS; omega)]; exact h4, by rw [f.2 _ _ (by unfold rGrS; omega)]; exact h5⟩
  intro i hi
  obtain ⟨a1, a2, a3⟩ := h3 i hi
  exact ⟨by rw [f.2 _ _ (by unfold rGrS; omega)]; exact a1, by rw [f.2 _ _ (by unfold rGrS; omega)]; exact a2, by rw [f.2 _ _ (by unfold rGrS; omega)]; exact a3⟩
theorem nStk.to {M M' : xMem} {b : Nat} : ∀ {st : List qI}, nStk M b st → (∀ a j, b + 11 ≤ a → a ≤ b + 14 → j < st.length → M'.1 a j = M.1 a j) → nStk M' b st := by
  intro st
  induction st with
  | nil => intro _ _; trivial
  | cons x r ih =>
    intro h e
    obtain ⟨⟨h1, h2, h3, h4⟩, h5⟩ := h
    refine ⟨⟨?_, ?_, ?_, ?_⟩, ih h5 (fun a j h1 h2 h3 => e a j h1 h2 (by simp only [List.length_cons]; omega))⟩
    · rw [e _ _ (by omega) (by omega) (by simp)]; exact h1
    · rw [e _ _ (by omega) (by omega) (by simp)]; exact h2
    · rw [e _ _ (by omega) (by omega) (by simp)]; exact h3
    · rw [e _ _ (by omega) (by omega) (by simp)]; exact h4
/-- data that stays where only S is written -/
theorem nD.fr {S : Nat → Nat → Prop} {M M' : xMem} {b : Nat} {t : List Nat} {L : qL} (h : nD M b t L) (f : rF S M M') (hs : ∀ k, 27 ≤ k → k ≤ 60 → k ≠ 28 → ¬ S b k) (ha : ∀ a, 15 ≤ a → a ≤ 39 → ∀ j, ¬ S (b + a) j) : nD M' b t L := by
  obtain ⟨h0, h5, h1, h2, h14, h15, h16, h6, h18, h19, h4, hx⟩ := h
  refine ⟨h0.fr f (hs _ (by omega) (by omega) (by omega)) ?_, h5.fr f (hs _ (by omega) (by omega) (by omega)) ?_, h1.fr f (hs _ (by omega) (by omega) (by omega)) ?_, h2.fr f (hs _ (by omega) (by omega) (by omega)) ?_, h14.fr f (hs _ (by omega) (by omega) (by omega)) ?_, h15.fr f (hs _ (by omega) (by omega) (by omega)) ?_, h16.fr f (hs _ (by omega) (by omega) (by omega)) ?_, h6.fr f (hs _ (by omega) (by omega) (by omega)) ?_, h18.fr f (hs _ (by omega) (by omega) (by omega)) ?_, h19.fr f (hs _ (by omega) (by omega) (by omega)) ?_, h4.fr f (hs _ (by omega) (by omega) (by omega)) ?_, ?_⟩
  all_goals first
    | (intro a h j; refine ha a ?_ ?_ j <;> (simp [c0, c5, c1, c2, c14, c15, c16, c6, c18, c19, c4] at h; omega))
    | (intro i hi hn; rw [f.2 _ _ (ha 38 (by omega) (by omega) i)]; exact hx i hi hn)
/-- the memory with one item more -/
def mPush (M : xMem) (b h : Nat) (w d : Nat) (a : Int32) (c : Nat) : xMem := wI (wI (wI (wI (wI M (b + 11) h (nI w)) (b + 12) h (nI d)) (b + 13) h a) (b + 14) h (nI c)) b 8 (nI (h + 1))
theorem r_push {M : xMem} {b h w d c : Nat} {a : Int32} (h8 : M.1 b 8 = nI h) (hh : h < 300) : f_N_push b (nI w) (nI d) a (nI c) M = some ((), mPush M b h w d a c) := by
  unfold f_N_push mPush
  simp (disch := omega) only [↓reduceIte, nI_leT, nI_leF, nI_ltT, nI_ltF, nI_eqT, nI_eqF, xin_T, nI_clampT, nI_add, nI_inc, pk_subT, xb_some, xval, xlet, mI_s, mI_n, mI_k, mI_2, mJ_1, mJ_s, mJ_n, mJ_k, mJ_2, mT_1, mT_2, mT_s, mT_n, mT_k, mT_3, mR_1, mR_2, mR_3, bI_0, bI_1, bI_n0, bI_n1, Bool.true_eq_false, Bool.false_eq_true, eq_self, i_0, i_1, i_2, i_3, i_4, i_5, i_6, i_7, i_8, i_9, i_10, i_11, i_12, i_13, i_14, i_15, i_16, i_17, i_18, i_19, i_20, i_21, i_22, i_23, i_24, i_25, i_26, i_27, i_28, i_29, i_30, i_31, i_32, i_33, i_34, i_35, i_36, i_37, i_38, i_39, i_40, i_41, i_42, i_43, i_44, i_45, i_48, i_49, i_57, i_59, i_60, i_61, i_62, i_64, i_97, i_110, i_122, i_123, i_125, i_126, i_127, i_160, i_255, i_300, i_400, h8]
theorem mPush_8 {M : xMem} {b h w d c : Nat} {a : Int32} : (mPush M b h w d a c).1 b 8 = nI (h + 1) := by unfold mPush; simp (disch := omega) only [↓reduceIte, nI_leT, nI_leF, nI_ltT, nI_ltF, nI_eqT, nI_eqF, xin_T, nI_clampT, nI_add, nI_inc, pk_subT, xb_some, xval, xlet, mI_s, mI_n, mI_k, mI_2, mJ_1, mJ_s, mJ_n, mJ_k, mJ_2, mT_1, mT_2, mT_s, mT_n, mT_k, mT_3, mR_1, mR_2, mR_3, bI_0, bI_1, bI_n0, bI_n1, Bool.true_eq_false, Bool.false_eq_true, eq_self, i_0, i_1, i_2, i_3, i_4, i_5, i_6, i_7, i_8, i_9, i_10, i_11, i_12, i_13, i_14, i_15, i_16, i_17, i_18, i_19, i_20, i_21, i_22, i_23, i_24, i_25, i_26, i_27, i_28, i_29, i_30, i_31, i_32, i_33, i_34, i_35, i_36, i_37, i_38, i_39, i_40, i_41, i_42, i_43, i_44, i_45, i_48, i_49, i_57, i_59, i_60, i_61, i_62, i_64, i_97, i_110, i_122, i_123, i_125, i_126, i_127, i_160, i_255, i_300, i_400]
def rStS (b : Nat) (a k : Nat) : Prop := (a = b ∧ k = 8) ∨ (b + 11 ≤ a ∧ a ≤ b + 14)
theorem mPush_fr {M : xMem} {b h w d c : Nat} {a : Int32} : rF (rStS b) M (mPush M b h w d a c) := by
  unfold mPush
  exact ((((rF.I (by unfold rStS; omega)).trans (rF.I (by unfold rStS; omega))).trans (rF.I (by unfold rStS; omega))).trans (rF.I (by unfold rStS; omega))).trans (rF.I (by unfold rStS; omega))
theorem mPush_stk {M : xMem} {b : Nat} {x : qI} {r : List qI} (h : nStk M b r) : nStk (mPush M b r.length x.1 x.2.1 (nA x) x.2.2.2) b (x :: r) := by
  refine ⟨⟨?_, ?_, ?_, ?_⟩, h.to ?_⟩
  · unfold mPush; simp (disch := omega) only [↓reduceIte, nI_leT, nI_leF, nI_ltT, nI_ltF, nI_eqT, nI_eqF, xin_T, nI_clampT, nI_add, nI_inc, pk_subT, xb_some, xval, xlet, mI_s, mI_n, mI_k, mI_2, mJ_1, mJ_s, mJ_n, mJ_k, mJ_2, mT_1, mT_2, mT_s, mT_n, mT_k, mT_3, mR_1, mR_2, mR_3, bI_0, bI_1, bI_n0, bI_n1, Bool.true_eq_false, Bool.false_eq_true, eq_self, i_0, i_1, i_2, i_3, i_4, i_5, i_6, i_7, i_8, i_9, i_10, i_11, i_12, i_13, i_14, i_15, i_16, i_17, i_18, i_19, i_20, i_21, i_22, i_23, i_24, i_25, i_26, i_27, i_28, i_29, i_30, i_31, i_32, i_33, i_34, i_35, i_36, i_37, i_38, i_39, i_40, i_41, i_42, i_43, i_44, i_45, i_48, i_49, i_57, i_59, i_60, i_61, i_62, i_64, i_97, i_110, i_122, i_123, i_125, i_126, i_127, i_160, i_255, i_300, i_400]
  · unfold mPush; simp (disch := omega) only [↓reduceIte, nI_leT, nI_leF, nI_ltT, nI_ltF, nI_eqT, nI_eqF, xin_T, nI_clampT, nI_add, nI_inc, pk_subT, xb_some, xval, xlet, mI_s, mI_n, mI_k, mI_2, mJ_1, mJ_s, mJ_n, mJ_k, mJ_2, mT_1, mT_2, mT_s, mT_n, mT_k, mT_3, mR_1, mR_2, mR_3, bI_0, bI_1, bI_n0, bI_n1, Bool.true_eq_false, Bool.false_eq_true, eq_self, i_0, i_1, i_2, i_3, i_4, i_5, i_6, i_7, i_8, i_9, i_10, i_11, i_12, i_13, i_14, i_15, i_16, i_17, i_18, i_19, i_20, i_21, i_22, i_23, i_24, i_25, i_26, i_27, i_28, i_29, i_30, i_31, i_32, i_33, i_34, i_35, i_36, i_37, i_38, i_39, i_40, i_41, i_42, i_43, i_44, i_45, i_48, i_49, i_57, i_59, i_60, i_61, i_62, i_64, i_97, i_110, i_122, i_123, i_125, i_126, i_127, i_160, i_255, i_300, i_400]
  · unfold mPush; simp (disch := omega) only [↓reduceIte, nI_leT, nI_leF, nI_ltT, nI_ltF, nI_eqT, nI_eqF, xin_T, nI_clampT, nI_add, nI_inc, pk_subT, xb_some, xval, xlet, mI_s, mI_n, mI_k, mI_2, mJ_1, mJ_s, mJ_n, mJ_k, mJ_2, mT_1, mT_2, mT_s, mT_n, mT_k, mT_3, mR_1, mR_2, mR_3, bI_0, bI_1, bI_n0, bI_n1, Bool.true_eq_false, Bool.false_eq_true, eq_self, i_0, i_1, i_2, i_3, i_4, i_5, i_6, i_7, i_8, i_9, i_10, i_11, i_12, i_13, i_14, i_15, i_16, i_17, i_18, i_19, i_20, i_21, i_22, i_23, i_24, i_25, i_26, i_27, i_28, i_29, i_30, i_31, i_32, i_33, i_34, i_35, i_36, i_37, i_38, i_39, i_40, i_41, i_42, i_43, i_44, i_45, i_48, i_49, i_57, i_59, i_60, i_61, i_62, i_64, i_97, i_110, i_122, i_123, i_125, i_126, i_127, i_160, i_255, i_300, i_400]
  · unfold mPush; simp (disch := omega) only [↓reduceIte, nI_leT, nI_leF, nI_ltT, nI_ltF, nI_eqT, nI_eqF, xin_T, nI_clampT, nI_add, nI_inc, pk_subT, xb_some, xval, xlet, mI_s, mI_n, mI_k, mI_2, mJ_1, mJ_s, mJ_n, mJ_k, mJ_2, mT_1, mT_2, mT_s, mT_n, mT_k, mT_3, mR_1, mR_2, mR_3, bI_0, bI_1, bI_n0, bI_n1, Bool.true_eq_false, Bool.false_eq_true, eq_self, i_0, i_1, i_2, i_3, i_4, i_5, i_6, i_7, i_8, i_9, i_10, i_11, i_12, i_13, i_14, i_15, i_16, i_17, i_18, i_19, i_20, i_21, i_22, i_23, i_24, i_25, i_26, i_27, i_28, i_29, i_30, i_31, i_32, i_33, i_34, i_35, i_36, i_37, i_38, i_39, i_40, i_41, i_42, i_43, i_44, i_45, i_48, i_49, i_57, i_59, i_60, i_61, i_62, i_64, i_97, i_110, i_122, i_123, i_125, i_126, i_127, i_160, i_255, i_300, i_400]
  · intro a j h1 h2 h3
    unfold mPush
    rw [mI_n (by omega)]
    have hj : j ≠ r.length := by omega
    rw [mI_k hj, mI_k hj, mI_k hj, mI_k hj]
/-- a config whose stack has r, and what is left as it was -/
def nQ (M : xMem) (b : Nat) (t : List Nat) (r : List qI) (tok sc : Nat) (L : qL) : Prop := rLx M b t ∧ M.1 b 7 = nI tok ∧ M.1 b 8 = nI r.length ∧ nStk M b r ∧ M.1 b 28 = nI sc ∧ nD M b t L
theorem nQ.push {M : xMem} {b tok sc : Nat} {t : List Nat} {r : List qI} {L : qL} (h : nQ M b t r tok sc L) (x : qI) : nQ (mPush M b r.length x.1 x.2.1 (nA x) x.2.2.2) b t (x :: r) tok sc L := by
  obtain ⟨h1, h2, h3, h4, h5, h6⟩ := h
  have f := mPush_fr (M := M) (b := b) (h := r.length) (w := x.1) (d := x.2.1) (a := nA x) (c := x.2.2.2)
  refine ⟨h1.gr (f.mono (by intro a k; unfold rStS rGrS; omega)), ?_, ?_, mPush_stk h4, ?_, h6.fr f (by intro k; unfold rStS; omega) (by intro a _ _ j; unfold rStS; omega)⟩
  · rw [f.2 _ _ (by unfold rStS; omega)]; exact h2
  · rw [mPush_8]; rfl
  · rw [f.2 _ _ (by unfold rStS; omega)]; exact h5
theorem nQ.at {M : xMem} {b tok tok' sc : Nat} {t : List Nat} {r : List qI} {L : qL} (h : nQ M b t r tok sc L) : nQ (wI M b 7 (nI tok')) b t r tok' sc L := by
  obtain ⟨h1, h2, h3, h4, h5, h6⟩ := h
  have f : rF (fun a k => a = b ∧ k = 7) M (wI M b 7 (nI tok')) := rF.I ⟨rfl, rfl⟩
  refine ⟨h1.gr (f.mono (by intro a k; unfold rGrS; omega)), by simp (disch := omega) only [↓reduceIte, nI_leT, nI_leF, nI_ltT, nI_ltF, nI_eqT, nI_eqF, xin_T, nI_clampT, nI_add, nI_inc, pk_subT, xb_some, xval, xlet, mI_s, mI_n, mI_k, mI_2, mJ_1, mJ_s, mJ_n, mJ_k, mJ_2, mT_1, mT_2, mT_s, mT_n, mT_k, mT_3, mR_1, mR_2, mR_3, bI_0, bI_1, bI_n0, bI_n1, Bool.true_eq_false, Bool.false_eq_true, eq_self, i_0, i_1, i_2, i_3, i_4, i_5, i_6, i_7, i_8, i_9, i_10, i_11, i_12, i_13, i_14, i_15, i_16, i_17, i_18, i_19, i_20, i_21, i_22, i_23, i_24, i_25, i_26, i_27, i_28, i_29, i_30, i_31, i_32, i_33, i_34, i_35, i_36, i_37, i_38, i_39, i_40, i_41, i_42, i_43, i_44, i_45, i_48, i_49, i_57, i_59, i_60, i_61, i_62, i_64, i_97, i_110, i_122, i_123, i_125, i_126, i_127, i_160, i_255, i_300, i_400], by simp (disch := omega) only [↓reduceIte, nI_leT, nI_leF, nI_ltT, nI_ltF, nI_eqT, nI_eqF, xin_T, nI_clampT, nI_add, nI_inc, pk_subT, xb_some, xval, xlet, mI_s, mI_n, mI_k, mI_2, mJ_1, mJ_s, mJ_n, mJ_k, mJ_2, mT_1, mT_2, mT_s, mT_n, mT_k, mT_3, mR_1, mR_2, mR_3, bI_0, bI_1, bI_n0, bI_n1, Bool.true_eq_false, Bool.false_eq_true, eq_self, i_0, i_1, i_2, i_3, i_4, i_5, i_6, i_7, i_8, i_9, i_10, i_11, i_12, i_13, i_14, i_15, i_16, i_17, i_18, i_19, i_20, i_21, i_22, i_23, i_24, i_25, i_26, i_27, i_28, i_29, i_30, i_31, i_32, i_33, i_34, i_35, i_36, i_37, i_38, i_39, i_40, i_41, i_42, i_43, i_44, i_45, i_48, i_49, i_57, i_59, i_60, i_61, i_62, i_64, i_97, i_110, i_122, i_123, i_125, i_126, i_127, i_160, i_255, i_300, i_400, h3], h4.to ?_, by simp (disch := omega) only [↓reduceIte, nI_leT, nI_leF, nI_ltT, nI_ltF, nI_eqT, nI_eqF, xin_T, nI_clampT, nI_add, nI_inc, pk_subT, xb_some, xval, xlet, mI_s, mI_n, mI_k, mI_2, mJ_1, mJ_s, mJ_n, mJ_k, mJ_2, mT_1, mT_2, mT_s, mT_n, mT_k, mT_3, mR_1, mR_2, mR_3, bI_0, bI_1, bI_n0, bI_n1, Bool.true_eq_false, Bool.false_eq_true, eq_self, i_0, i_1, i_2, i_3, i_4, i_5, i_6, i_7, i_8, i_9, i_10, i_11, i_12, i_13, i_14, i_15, i_16, i_17, i_18, i_19, i_20, i_21, i_22, i_23, i_24, i_25, i_26, i_27, i_28, i_29, i_30, i_31, i_32, i_33, i_34, i_35, i_36, i_37, i_38, i_39, i_40, i_41, i_42, i_43, i_44, i_45, i_48, i_49, i_57, i_59, i_60, i_61, i_62, i_64, i_97, i_110, i_122, i_123, i_125, i_126, i_127, i_160, i_255, i_300, i_400, h5], h6.fr f (by intro k _ _ _ h; omega) (by intro a _ _ j h; omega)⟩
  intro a j h1 h2 h3
  exact mI_n (by omega)
