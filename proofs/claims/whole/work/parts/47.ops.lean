/-! PURE: what the class's grammar does to its memory, one thing at a time -/
theorem nI_or (x y : Nat) : nI x ||| nI y = nI (x ||| y) := by
  apply Int32.toBitVec_inj.mp
  rw [Int32.toBitVec_or]
  show BitVec.ofNat 32 x ||| BitVec.ofNat 32 y = BitVec.ofNat 32 (x ||| y)
  apply BitVec.eq_of_toNat_eq
  rw [BitVec.toNat_or, BitVec.toNat_ofNat, BitVec.toNat_ofNat, BitVec.toNat_ofNat, Nat.or_mod_two_pow]
theorem nI_bit : ∀ r, r < 10 → (1 : Int32) <<< (nI r &&& 31) = nI (2 ^ r) := by decide
theorem rBits.or {P : Nat → Prop} {v : Int32} {r0 : Nat} (h : rBits P v) (hr : r0 < 10) : rBits (fun r => P r ∨ r = r0) (v ||| ((1 : Int32) <<< (nI r0 &&& 31))) := by
  obtain ⟨x, h1, h2, h3⟩ := h
  refine ⟨x ||| 2 ^ r0, ?_, ?_, ?_⟩
  · have : 2 ^ r0 < 2 ^ 10 := Nat.pow_lt_pow_right (by decide) hr
    exact Nat.or_lt_two_pow (n := 10) h1 this
  · rw [h2, nI_bit r0 hr, nI_or]
  · intro r hr'
    rw [Nat.testBit_or, Nat.testBit_two_pow, Bool.or_eq_true, h3 r hr', decide_eq_true_eq]
    constructor
    · intro h; rcases h with h | h
      · exact .inl h
      · exact .inr h.symm
    · intro h; rcases h with h | h
      · exact .inl h
      · exact .inr h.symm
theorem rBits.iff {P Q : Nat → Prop} {v : Int32} (h : rBits P v) (hPQ : ∀ r, r < 10 → (P r ↔ Q r)) : rBits Q v := by
  obtain ⟨x, h1, h2, h3⟩ := h
  exact ⟨x, h1, h2, fun r hr => (h3 r hr).trans (hPQ r hr)⟩
/-- the memory with a mark of RULE r at TOKEN p -/
def mAdd (M : xMem) (b p r : Nat) : xMem := wI M (b + 22) p (M.1 (b + 22) p ||| ((1 : Int32) <<< (nI r &&& 31)))
theorem p_M_add {M : xMem} {b p r : Nat} (hp : p < 60) : f_M_add b (nI p) (nI r) M = some ((), mAdd M b p r) := by
  unfold f_M_add f_M_isThere mAdd
  simp (disch := omega) only [↓reduceIte, nI_leT, nI_leF, nI_ltT, nI_ltF, nI_eqT, nI_eqF, xin_T, nI_clampT, nI_add, nI_inc, pk_subT, xb_some, xval, xlet, mI_s, mI_n, mI_k, mI_2, mJ_1, mJ_s, mJ_n, mJ_k, mJ_2, mT_1, mT_2, mT_s, mT_n, mT_k, mT_3, mR_1, mR_2, mR_3, bI_0, bI_1, bI_n0, bI_n1, Bool.true_eq_false, Bool.false_eq_true, eq_self, i_0, i_1, i_2, i_3, i_4, i_5, i_6, i_7, i_8, i_9, i_10, i_11, i_12, i_13, i_14, i_15, i_16, i_17, i_18, i_19, i_20, i_21, i_22, i_23, i_24, i_25, i_26, i_27, i_28, i_29, i_30, i_31, i_32, i_33, i_34, i_35, i_36, i_37, i_38, i_39, i_40, i_41, i_42, i_43, i_44, i_45, i_48, i_49, i_57, i_59, i_60, i_61, i_62, i_64, i_97, i_110, i_122, i_123, i_125, i_126, i_127, i_160, i_255, i_300, i_400]
theorem mAdd_mk {M : xMem} {b p r : Nat} {L : qL} {y : Nat × Nat × Nat × Nat} (h : rMk M b L) (hr : r < 10) : rMk (mAdd M b p r) b (qA (10 + r) (p, y) L) := by
  intro q hq
  by_cases e : q = p
  · subst e
    have h1 := (h q hq).or hr
    have e1 : (mAdd M b q r).1 (b + 22) q = M.1 (b + 22) q ||| ((1 : Int32) <<< (nI r &&& 31)) := by unfold mAdd; simp (disch := omega) only [↓reduceIte, nI_leT, nI_leF, nI_ltT, nI_ltF, nI_eqT, nI_eqF, xin_T, nI_clampT, nI_add, nI_inc, pk_subT, xb_some, xval, xlet, mI_s, mI_n, mI_k, mI_2, mJ_1, mJ_s, mJ_n, mJ_k, mJ_2, mT_1, mT_2, mT_s, mT_n, mT_k, mT_3, mR_1, mR_2, mR_3, bI_0, bI_1, bI_n0, bI_n1, Bool.true_eq_false, Bool.false_eq_true, eq_self, i_0, i_1, i_2, i_3, i_4, i_5, i_6, i_7, i_8, i_9, i_10, i_11, i_12, i_13, i_14, i_15, i_16, i_17, i_18, i_19, i_20, i_21, i_22, i_23, i_24, i_25, i_26, i_27, i_28, i_29, i_30, i_31, i_32, i_33, i_34, i_35, i_36, i_37, i_38, i_39, i_40, i_41, i_42, i_43, i_44, i_45, i_48, i_49, i_57, i_59, i_60, i_61, i_62, i_64, i_97, i_110, i_122, i_123, i_125, i_126, i_127, i_160, i_255, i_300, i_400]
    rw [e1]
    refine h1.iff ?_
    intro r' hr'
    rw [qA_at]
    by_cases c : r' = r
    · subst c; rw [if_pos rfl]
      constructor
      · intro _; exact ⟨(q, y), List.mem_append_right _ (List.mem_singleton.mpr rfl), rfl⟩
      · intro _; exact .inr rfl
    · rw [if_neg (by omega)]
      constructor
      · intro h; rcases h with h | h
        · exact h
        · exact absurd h c
      · intro h; exact .inl h
  · have e1 : (mAdd M b p r).1 (b + 22) q = M.1 (b + 22) q := by unfold mAdd; simp (disch := omega) only [↓reduceIte, nI_leT, nI_leF, nI_ltT, nI_ltF, nI_eqT, nI_eqF, xin_T, nI_clampT, nI_add, nI_inc, pk_subT, xb_some, xval, xlet, mI_s, mI_n, mI_k, mI_2, mJ_1, mJ_s, mJ_n, mJ_k, mJ_2, mT_1, mT_2, mT_s, mT_n, mT_k, mT_3, mR_1, mR_2, mR_3, bI_0, bI_1, bI_n0, bI_n1, Bool.true_eq_false, Bool.false_eq_true, eq_self, i_0, i_1, i_2, i_3, i_4, i_5, i_6, i_7, i_8, i_9, i_10, i_11, i_12, i_13, i_14, i_15, i_16, i_17, i_18, i_19, i_20, i_21, i_22, i_23, i_24, i_25, i_26, i_27, i_28, i_29, i_30, i_31, i_32, i_33, i_34, i_35, i_36, i_37, i_38, i_39, i_40, i_41, i_42, i_43, i_44, i_45, i_48, i_49, i_57, i_59, i_60, i_61, i_62, i_64, i_97, i_110, i_122, i_123, i_125, i_126, i_127, i_160, i_255, i_300, i_400]
    rw [e1]
    refine (h q hq).iff ?_
    intro r' hr'
    rw [qA_at]
    by_cases c : r' = r
    · subst c; rw [if_pos rfl]
      constructor
      · intro ⟨e', h1, h2⟩; exact ⟨e', List.mem_append_left _ h1, h2⟩
      · intro ⟨e', h1, h2⟩
        rcases List.mem_append.mp h1 with h1 | h1
        · exact ⟨e', h1, h2⟩
        · rw [List.mem_singleton] at h1; subst h1; exact absurd h2.symm e
    · rw [if_neg (by omega)]
theorem mAdd_fr {M : xMem} {b p r : Nat} : pFr (b + 22) (b + 23) M (mAdd M b p r) := pFr.I (by omega)
theorem mAdd_rL {M : xMem} {b p r : Nat} {wd : Nat → Nat} {L : qL} {y : Nat × Nat × Nat × Nat} (h : rL M b wd L) (hr : r < 10) (h8 : r ≠ 8) : rL (mAdd M b p r) b wd (qA (10 + r) (p, y) L) := by
  obtain ⟨h1, h2, h3, h4, h5, h6⟩ := h
  have f := mAdd_fr (M := M) (b := b) (p := p) (r := r)
  refine ⟨?_, ?_, ?_, mAdd_mk h4 hr, ?_, ?_⟩
  · rw [qA_n _ _ (by omega)]; exact h1.to (fun a ha hb => (f.1 a (by omega)).1)
  · rw [qA_n _ _ (by omega)]; exact h2.to (fun a ha hb => (f.1 a (by omega)).1)
  · rw [qA_n _ _ (by omega)]; exact h3.to (fun a ha hb => (f.1 a (by omega)).1)
  · rw [qA_n _ _ (by omega)]; exact h5.to ((f.1 _ (by omega)).1)
  · rw [qA_n _ _ (by omega)]; exact h6.to ((f.1 _ (by omega)).1)
theorem mAdd_rC {M : xMem} {b p r tok sc : Nat} {t : List Nat} {L : qL} {y : Nat × Nat × Nat × Nat} (h : rC M b t tok sc L) (hr : r < 10) (h8 : r ≠ 8) : rC (mAdd M b p r) b t tok sc (qA (10 + r) (p, y) L) := by
  have f := mAdd_fr (M := M) (b := b) (p := p) (r := r)
  refine ⟨h.1.fr f (by omega), ?_, ?_, mAdd_rL h.2.2.2 hr h8⟩
  · rw [(f.1 (b + 29) (by omega)).1]; exact h.2.1
  · rw [(f.1 (b + 29) (by omega)).1]; exact h.2.2.1
/-- an empty BLOCK at p; it may go if c -/
def mEmp (M : xMem) (b p : Nat) (c : Bool) : xMem := if c then wI (mAdd M b p 8) (b + 24) p (nI 1) else mAdd M b p 8
theorem p_loosen {M : xMem} {b p : Nat} (hp : p < 60) : f_M_loosen b (nI p) M = some ((), wI M (b + 24) p (nI 1)) := by
  unfold f_M_loosen f_M_isThere
  simp (disch := omega) only [↓reduceIte, nI_leT, nI_leF, nI_ltT, nI_ltF, nI_eqT, nI_eqF, xin_T, nI_clampT, nI_add, nI_inc, pk_subT, xb_some, xval, xlet, mI_s, mI_n, mI_k, mI_2, mJ_1, mJ_s, mJ_n, mJ_k, mJ_2, mT_1, mT_2, mT_s, mT_n, mT_k, mT_3, mR_1, mR_2, mR_3, bI_0, bI_1, bI_n0, bI_n1, Bool.true_eq_false, Bool.false_eq_true, eq_self, i_0, i_1, i_2, i_3, i_4, i_5, i_6, i_7, i_8, i_9, i_10, i_11, i_12, i_13, i_14, i_15, i_16, i_17, i_18, i_19, i_20, i_21, i_22, i_23, i_24, i_25, i_26, i_27, i_28, i_29, i_30, i_31, i_32, i_33, i_34, i_35, i_36, i_37, i_38, i_39, i_40, i_41, i_42, i_43, i_44, i_45, i_48, i_49, i_57, i_59, i_60, i_61, i_62, i_64, i_97, i_110, i_122, i_123, i_125, i_126, i_127, i_160, i_255, i_300, i_400, vp_narB1]
theorem mEmp_fr {M : xMem} {b p : Nat} {c : Bool} : pFr (b + 22) (b + 25) M (mEmp M b p c) := by
  unfold mEmp
  split
  · exact (mAdd_fr.mono (by omega) (by omega)).trans (pFr.I (by omega))
  · exact mAdd_fr.mono (by omega) (by omega)
theorem mEmp_rC {M : xMem} {b p tok sc : Nat} {c : Bool} {t : List Nat} {L : qL} (h : rC M b t tok sc L) (hp : p < 60) : rC (mEmp M b p c) b t tok sc (qA 18 (p, if c then 1 else 0, 0, 0, 0) L) := by
  have f := mEmp_fr (M := M) (b := b) (p := p) (c := c)
  obtain ⟨g1, g2, g3, h1, h2, h3, h4, h5, h6⟩ := h
  refine ⟨g1.fr f (by omega), ?_, ?_, ?_, ?_, ?_, ?_, ?_, ?_⟩
  · rw [(f.1 (b + 29) (by omega)).1]; exact g2
  · rw [(f.1 (b + 29) (by omega)).1]; exact g3
  · rw [qA_n _ _ (by omega)]; exact h1.to (fun a ha hb => (f.1 a (by omega)).1)
  · rw [qA_n _ _ (by omega)]; exact h2.to (fun a ha hb => (f.1 a (by omega)).1)
  · rw [qA_n _ _ (by omega)]; exact h3.to (fun a ha hb => (f.1 a (by omega)).1)
  · have k := mAdd_mk (p := p) (r := 8) (y := (if c then 1 else 0, 0, 0, 0)) h4 (by omega)
    refine k.to ?_ (fun _ _ _ => rfl)
    unfold mEmp; split
    · exact wI_ne _ _ _ (by omega)
    · rfl
  · rw [qA_n _ _ (by omega)]
    refine h5.to ?_
    unfold mEmp; split
    · rw [wI_ne _ _ _ (by omega)]; exact (mAdd_fr.1 _ (by omega)).1
    · exact (mAdd_fr.1 _ (by omega)).1
  · intro q hq
    obtain ⟨d, d1, d2⟩ := h6 q hq
    rw [qA_s]
    by_cases e : q = p
    · subst e
      cases c with
      | true =>
        refine ⟨true, by unfold mEmp; rw [if_pos rfl]; simp (disch := omega) only [↓reduceIte, nI_leT, nI_leF, nI_ltT, nI_ltF, nI_eqT, nI_eqF, xin_T, nI_clampT, nI_add, nI_inc, pk_subT, xb_some, xval, xlet, mI_s, mI_n, mI_k, mI_2, mJ_1, mJ_s, mJ_n, mJ_k, mJ_2, mT_1, mT_2, mT_s, mT_n, mT_k, mT_3, mR_1, mR_2, mR_3, bI_0, bI_1, bI_n0, bI_n1, Bool.true_eq_false, Bool.false_eq_true, eq_self, i_0, i_1, i_2, i_3, i_4, i_5, i_6, i_7, i_8, i_9, i_10, i_11, i_12, i_13, i_14, i_15, i_16, i_17, i_18, i_19, i_20, i_21, i_22, i_23, i_24, i_25, i_26, i_27, i_28, i_29, i_30, i_31, i_32, i_33, i_34, i_35, i_36, i_37, i_38, i_39, i_40, i_41, i_42, i_43, i_44, i_45, i_48, i_49, i_57, i_59, i_60, i_61, i_62, i_64, i_97, i_110, i_122, i_123, i_125, i_126, i_127, i_160, i_255, i_300, i_400]; rfl, fun _ => ⟨(q, 1, 0, 0, 0), List.mem_append_right _ (List.mem_singleton.mpr rfl), rfl, rfl⟩, fun _ => rfl⟩
      | false =>
        refine ⟨d, ?_, ?_⟩
        · have : (mEmp M b q false).1 (b + 24) = M.1 (b + 24) := (mAdd_fr.1 _ (by omega)).1
          rw [this]; exact d1
        · rw [d2]
          constructor
          · intro ⟨x, x1, x2⟩; exact ⟨x, List.mem_append_left _ x1, x2⟩
          · intro ⟨x, x1, x2, x3⟩
            rcases List.mem_append.mp x1 with x1 | x1
            · exact ⟨x, x1, x2, x3⟩
            · rw [List.mem_singleton] at x1; subst x1; exact absurd (show (0 : Nat) = 1 from x3) (by decide)
    · refine ⟨d, ?_, ?_⟩
      · have : (mEmp M b p c).1 (b + 24) q = M.1 (b + 24) q := by
          unfold mEmp; split
          · unfold mAdd; simp (disch := omega) only [↓reduceIte, nI_leT, nI_leF, nI_ltT, nI_ltF, nI_eqT, nI_eqF, xin_T, nI_clampT, nI_add, nI_inc, pk_subT, xb_some, xval, xlet, mI_s, mI_n, mI_k, mI_2, mJ_1, mJ_s, mJ_n, mJ_k, mJ_2, mT_1, mT_2, mT_s, mT_n, mT_k, mT_3, mR_1, mR_2, mR_3, bI_0, bI_1, bI_n0, bI_n1, Bool.true_eq_false, Bool.false_eq_true, eq_self, i_0, i_1, i_2, i_3, i_4, i_5, i_6, i_7, i_8, i_9, i_10, i_11, i_12, i_13, i_14, i_15, i_16, i_17, i_18, i_19, i_20, i_21, i_22, i_23, i_24, i_25, i_26, i_27, i_28, i_29, i_30, i_31, i_32, i_33, i_34, i_35, i_36, i_37, i_38, i_39, i_40, i_41, i_42, i_43, i_44, i_45, i_48, i_49, i_57, i_59, i_60, i_61, i_62, i_64, i_97, i_110, i_122, i_123, i_125, i_126, i_127, i_160, i_255, i_300, i_400]
          · unfold mAdd; simp (disch := omega) only [↓reduceIte, nI_leT, nI_leF, nI_ltT, nI_ltF, nI_eqT, nI_eqF, xin_T, nI_clampT, nI_add, nI_inc, pk_subT, xb_some, xval, xlet, mI_s, mI_n, mI_k, mI_2, mJ_1, mJ_s, mJ_n, mJ_k, mJ_2, mT_1, mT_2, mT_s, mT_n, mT_k, mT_3, mR_1, mR_2, mR_3, bI_0, bI_1, bI_n0, bI_n1, Bool.true_eq_false, Bool.false_eq_true, eq_self, i_0, i_1, i_2, i_3, i_4, i_5, i_6, i_7, i_8, i_9, i_10, i_11, i_12, i_13, i_14, i_15, i_16, i_17, i_18, i_19, i_20, i_21, i_22, i_23, i_24, i_25, i_26, i_27, i_28, i_29, i_30, i_31, i_32, i_33, i_34, i_35, i_36, i_37, i_38, i_39, i_40, i_41, i_42, i_43, i_44, i_45, i_48, i_49, i_57, i_59, i_60, i_61, i_62, i_64, i_97, i_110, i_122, i_123, i_125, i_126, i_127, i_160, i_255, i_300, i_400]
        rw [this]; exact d1
      · rw [d2]
        constructor
        · intro ⟨x, x1, x2⟩; exact ⟨x, List.mem_append_left _ x1, x2⟩
        · intro ⟨x, x1, x2, x3⟩
          rcases List.mem_append.mp x1 with x1 | x1
          · exact ⟨x, x1, x2, x3⟩
          · rw [List.mem_singleton] at x1; subst x1; exact absurd (show p = q from x2).symm e
theorem p_homeOf {M : xMem} {b s : Nat} {l : List qE} (h : rSc M b l) (hs : s < l.length) (hl : l.length ≤ 61) : f_S_homeOf b (nI s) M = some (nI (qg l s).2.2.1, M) := by
  obtain ⟨h1, h2, h3, h4⟩ := h
  have e := h3 s hs
  unfold f_S_homeOf f_S_isThere
  simp (disch := omega) only [↓reduceIte, nI_leT, nI_leF, nI_ltT, nI_ltF, nI_eqT, nI_eqF, xin_T, nI_clampT, nI_add, nI_inc, pk_subT, xb_some, xval, xlet, mI_s, mI_n, mI_k, mI_2, mJ_1, mJ_s, mJ_n, mJ_k, mJ_2, mT_1, mT_2, mT_s, mT_n, mT_k, mT_3, mR_1, mR_2, mR_3, bI_0, bI_1, bI_n0, bI_n1, Bool.true_eq_false, Bool.false_eq_true, eq_self, i_0, i_1, i_2, i_3, i_4, i_5, i_6, i_7, i_8, i_9, i_10, i_11, i_12, i_13, i_14, i_15, i_16, i_17, i_18, i_19, i_20, i_21, i_22, i_23, i_24, i_25, i_26, i_27, i_28, i_29, i_30, i_31, i_32, i_33, i_34, i_35, i_36, i_37, i_38, i_39, i_40, i_41, i_42, i_43, i_44, i_45, i_48, i_49, i_57, i_59, i_60, i_61, i_62, i_64, i_97, i_110, i_122, i_123, i_125, i_126, i_127, i_160, i_255, i_300, i_400, h1, e]
/-- the memory with one SCOPE more -/
def mOpen (M : xMem) (b n s home level : Nat) : xMem := wI (wI (wI (wI M (b + 9) n (nI s)) (b + 10) n (nI home)) (b + 11) n (nI level)) (b + 8) 3 (nI (n + 1))
theorem p_S_open {M : xMem} {b s fn : Nat} {l : List qE} (h : rSc M b l) (hs : s < l.length) (hl : l.length ≤ 60) (hf : fn ≤ 1) : f_S_open b (nI s) (nI fn) M = some (nI l.length, mOpen M b l.length s (if fn = 1 then l.length else (qg l s).2.2.1) ((qg l s).2.2.2.1 + 1)) := by
  obtain ⟨h1, h2, h3, h4⟩ := h
  have e3 := h3 s hs
  have e4 := h4 s hs
  unfold f_S_open f_S_isThere f_S_open_50 mOpen
  have : fn = 0 ∨ fn = 1 := by omega
  rcases this with rfl | rfl
  · simp (disch := omega) only [↓reduceIte, nI_leT, nI_leF, nI_ltT, nI_ltF, nI_eqT, nI_eqF, xin_T, nI_clampT, nI_add, nI_inc, pk_subT, xb_some, xval, xlet, mI_s, mI_n, mI_k, mI_2, mJ_1, mJ_s, mJ_n, mJ_k, mJ_2, mT_1, mT_2, mT_s, mT_n, mT_k, mT_3, mR_1, mR_2, mR_3, bI_0, bI_1, bI_n0, bI_n1, Bool.true_eq_false, Bool.false_eq_true, eq_self, i_0, i_1, i_2, i_3, i_4, i_5, i_6, i_7, i_8, i_9, i_10, i_11, i_12, i_13, i_14, i_15, i_16, i_17, i_18, i_19, i_20, i_21, i_22, i_23, i_24, i_25, i_26, i_27, i_28, i_29, i_30, i_31, i_32, i_33, i_34, i_35, i_36, i_37, i_38, i_39, i_40, i_41, i_42, i_43, i_44, i_45, i_48, i_49, i_57, i_59, i_60, i_61, i_62, i_64, i_97, i_110, i_122, i_123, i_125, i_126, i_127, i_160, i_255, i_300, i_400, h1, e3, e4]
    rfl
  · simp (disch := omega) only [↓reduceIte, nI_leT, nI_leF, nI_ltT, nI_ltF, nI_eqT, nI_eqF, xin_T, nI_clampT, nI_add, nI_inc, pk_subT, xb_some, xval, xlet, mI_s, mI_n, mI_k, mI_2, mJ_1, mJ_s, mJ_n, mJ_k, mJ_2, mT_1, mT_2, mT_s, mT_n, mT_k, mT_3, mR_1, mR_2, mR_3, bI_0, bI_1, bI_n0, bI_n1, Bool.true_eq_false, Bool.false_eq_true, eq_self, i_0, i_1, i_2, i_3, i_4, i_5, i_6, i_7, i_8, i_9, i_10, i_11, i_12, i_13, i_14, i_15, i_16, i_17, i_18, i_19, i_20, i_21, i_22, i_23, i_24, i_25, i_26, i_27, i_28, i_29, i_30, i_31, i_32, i_33, i_34, i_35, i_36, i_37, i_38, i_39, i_40, i_41, i_42, i_43, i_44, i_45, i_48, i_49, i_57, i_59, i_60, i_61, i_62, i_64, i_97, i_110, i_122, i_123, i_125, i_126, i_127, i_160, i_255, i_300, i_400, h1, e3, e4]
theorem mOpen_fr {M : xMem} {b n s home level : Nat} : pFr (b + 8) (b + 12) M (mOpen M b n s home level) := by
  unfold mOpen
  exact (((pFr.I (by omega)).trans (pFr.I (by omega))).trans (pFr.I (by omega))).trans (pFr.I (by omega))
theorem mOpen_rSc {M : xMem} {b s fn p home level : Nat} {l : List qE} (h : rSc M b l) : rSc (mOpen M b l.length s home level) b (l ++ [(s, fn, home, level, p)]) := by
  obtain ⟨h1, h2, h3, h4⟩ := h
  refine ⟨?_, ?_, ?_, ?_⟩
  · unfold mOpen; simp (disch := omega) only [↓reduceIte, nI_leT, nI_leF, nI_ltT, nI_ltF, nI_eqT, nI_eqF, xin_T, nI_clampT, nI_add, nI_inc, pk_subT, xb_some, xval, xlet, mI_s, mI_n, mI_k, mI_2, mJ_1, mJ_s, mJ_n, mJ_k, mJ_2, mT_1, mT_2, mT_s, mT_n, mT_k, mT_3, mR_1, mR_2, mR_3, bI_0, bI_1, bI_n0, bI_n1, Bool.true_eq_false, Bool.false_eq_true, eq_self, i_0, i_1, i_2, i_3, i_4, i_5, i_6, i_7, i_8, i_9, i_10, i_11, i_12, i_13, i_14, i_15, i_16, i_17, i_18, i_19, i_20, i_21, i_22, i_23, i_24, i_25, i_26, i_27, i_28, i_29, i_30, i_31, i_32, i_33, i_34, i_35, i_36, i_37, i_38, i_39, i_40, i_41, i_42, i_43, i_44, i_45, i_48, i_49, i_57, i_59, i_60, i_61, i_62, i_64, i_97, i_110, i_122, i_123, i_125, i_126, i_127, i_160, i_255, i_300, i_400]; rw [List.length_append]; rfl
  · exact h2.app (fun i hi => by unfold mOpen; simp (disch := omega) only [↓reduceIte, nI_leT, nI_leF, nI_ltT, nI_ltF, nI_eqT, nI_eqF, xin_T, nI_clampT, nI_add, nI_inc, pk_subT, xb_some, xval, xlet, mI_s, mI_n, mI_k, mI_2, mJ_1, mJ_s, mJ_n, mJ_k, mJ_2, mT_1, mT_2, mT_s, mT_n, mT_k, mT_3, mR_1, mR_2, mR_3, bI_0, bI_1, bI_n0, bI_n1, Bool.true_eq_false, Bool.false_eq_true, eq_self, i_0, i_1, i_2, i_3, i_4, i_5, i_6, i_7, i_8, i_9, i_10, i_11, i_12, i_13, i_14, i_15, i_16, i_17, i_18, i_19, i_20, i_21, i_22, i_23, i_24, i_25, i_26, i_27, i_28, i_29, i_30, i_31, i_32, i_33, i_34, i_35, i_36, i_37, i_38, i_39, i_40, i_41, i_42, i_43, i_44, i_45, i_48, i_49, i_57, i_59, i_60, i_61, i_62, i_64, i_97, i_110, i_122, i_123, i_125, i_126, i_127, i_160, i_255, i_300, i_400]) (by unfold mOpen; simp (disch := omega) only [↓reduceIte, nI_leT, nI_leF, nI_ltT, nI_ltF, nI_eqT, nI_eqF, xin_T, nI_clampT, nI_add, nI_inc, pk_subT, xb_some, xval, xlet, mI_s, mI_n, mI_k, mI_2, mJ_1, mJ_s, mJ_n, mJ_k, mJ_2, mT_1, mT_2, mT_s, mT_n, mT_k, mT_3, mR_1, mR_2, mR_3, bI_0, bI_1, bI_n0, bI_n1, Bool.true_eq_false, Bool.false_eq_true, eq_self, i_0, i_1, i_2, i_3, i_4, i_5, i_6, i_7, i_8, i_9, i_10, i_11, i_12, i_13, i_14, i_15, i_16, i_17, i_18, i_19, i_20, i_21, i_22, i_23, i_24, i_25, i_26, i_27, i_28, i_29, i_30, i_31, i_32, i_33, i_34, i_35, i_36, i_37, i_38, i_39, i_40, i_41, i_42, i_43, i_44, i_45, i_48, i_49, i_57, i_59, i_60, i_61, i_62, i_64, i_97, i_110, i_122, i_123, i_125, i_126, i_127, i_160, i_255, i_300, i_400])
  · exact h3.app (fun i hi => by unfold mOpen; simp (disch := omega) only [↓reduceIte, nI_leT, nI_leF, nI_ltT, nI_ltF, nI_eqT, nI_eqF, xin_T, nI_clampT, nI_add, nI_inc, pk_subT, xb_some, xval, xlet, mI_s, mI_n, mI_k, mI_2, mJ_1, mJ_s, mJ_n, mJ_k, mJ_2, mT_1, mT_2, mT_s, mT_n, mT_k, mT_3, mR_1, mR_2, mR_3, bI_0, bI_1, bI_n0, bI_n1, Bool.true_eq_false, Bool.false_eq_true, eq_self, i_0, i_1, i_2, i_3, i_4, i_5, i_6, i_7, i_8, i_9, i_10, i_11, i_12, i_13, i_14, i_15, i_16, i_17, i_18, i_19, i_20, i_21, i_22, i_23, i_24, i_25, i_26, i_27, i_28, i_29, i_30, i_31, i_32, i_33, i_34, i_35, i_36, i_37, i_38, i_39, i_40, i_41, i_42, i_43, i_44, i_45, i_48, i_49, i_57, i_59, i_60, i_61, i_62, i_64, i_97, i_110, i_122, i_123, i_125, i_126, i_127, i_160, i_255, i_300, i_400]) (by unfold mOpen; simp (disch := omega) only [↓reduceIte, nI_leT, nI_leF, nI_ltT, nI_ltF, nI_eqT, nI_eqF, xin_T, nI_clampT, nI_add, nI_inc, pk_subT, xb_some, xval, xlet, mI_s, mI_n, mI_k, mI_2, mJ_1, mJ_s, mJ_n, mJ_k, mJ_2, mT_1, mT_2, mT_s, mT_n, mT_k, mT_3, mR_1, mR_2, mR_3, bI_0, bI_1, bI_n0, bI_n1, Bool.true_eq_false, Bool.false_eq_true, eq_self, i_0, i_1, i_2, i_3, i_4, i_5, i_6, i_7, i_8, i_9, i_10, i_11, i_12, i_13, i_14, i_15, i_16, i_17, i_18, i_19, i_20, i_21, i_22, i_23, i_24, i_25, i_26, i_27, i_28, i_29, i_30, i_31, i_32, i_33, i_34, i_35, i_36, i_37, i_38, i_39, i_40, i_41, i_42, i_43, i_44, i_45, i_48, i_49, i_57, i_59, i_60, i_61, i_62, i_64, i_97, i_110, i_122, i_123, i_125, i_126, i_127, i_160, i_255, i_300, i_400])
  · exact h4.app (fun i hi => by unfold mOpen; simp (disch := omega) only [↓reduceIte, nI_leT, nI_leF, nI_ltT, nI_ltF, nI_eqT, nI_eqF, xin_T, nI_clampT, nI_add, nI_inc, pk_subT, xb_some, xval, xlet, mI_s, mI_n, mI_k, mI_2, mJ_1, mJ_s, mJ_n, mJ_k, mJ_2, mT_1, mT_2, mT_s, mT_n, mT_k, mT_3, mR_1, mR_2, mR_3, bI_0, bI_1, bI_n0, bI_n1, Bool.true_eq_false, Bool.false_eq_true, eq_self, i_0, i_1, i_2, i_3, i_4, i_5, i_6, i_7, i_8, i_9, i_10, i_11, i_12, i_13, i_14, i_15, i_16, i_17, i_18, i_19, i_20, i_21, i_22, i_23, i_24, i_25, i_26, i_27, i_28, i_29, i_30, i_31, i_32, i_33, i_34, i_35, i_36, i_37, i_38, i_39, i_40, i_41, i_42, i_43, i_44, i_45, i_48, i_49, i_57, i_59, i_60, i_61, i_62, i_64, i_97, i_110, i_122, i_123, i_125, i_126, i_127, i_160, i_255, i_300, i_400]) (by unfold mOpen; simp (disch := omega) only [↓reduceIte, nI_leT, nI_leF, nI_ltT, nI_ltF, nI_eqT, nI_eqF, xin_T, nI_clampT, nI_add, nI_inc, pk_subT, xb_some, xval, xlet, mI_s, mI_n, mI_k, mI_2, mJ_1, mJ_s, mJ_n, mJ_k, mJ_2, mT_1, mT_2, mT_s, mT_n, mT_k, mT_3, mR_1, mR_2, mR_3, bI_0, bI_1, bI_n0, bI_n1, Bool.true_eq_false, Bool.false_eq_true, eq_self, i_0, i_1, i_2, i_3, i_4, i_5, i_6, i_7, i_8, i_9, i_10, i_11, i_12, i_13, i_14, i_15, i_16, i_17, i_18, i_19, i_20, i_21, i_22, i_23, i_24, i_25, i_26, i_27, i_28, i_29, i_30, i_31, i_32, i_33, i_34, i_35, i_36, i_37, i_38, i_39, i_40, i_41, i_42, i_43, i_44, i_45, i_48, i_49, i_57, i_59, i_60, i_61, i_62, i_64, i_97, i_110, i_122, i_123, i_125, i_126, i_127, i_160, i_255, i_300, i_400])
theorem mOpen_rC {M : xMem} {b s fn p tok sc : Nat} {t : List Nat} {L : qL} (h : rC M b t tok sc L) : rC (mOpen M b (L 0).length s (if fn = 1 then (L 0).length else (qg (L 0) s).2.2.1) ((qg (L 0) s).2.2.2.1 + 1)) b t tok sc (qOpen fn p s L) := by
  obtain ⟨g1, g2, g3, h1, h2, h3, h4, h5, h6⟩ := h
  have f := mOpen_fr (M := M) (b := b) (n := (L 0).length) (s := s) (home := if fn = 1 then (L 0).length else (qg (L 0) s).2.2.1) (level := (qg (L 0) s).2.2.2.1 + 1)
  refine ⟨g1.fr f (by omega), ?_, ?_, mOpen_rSc h1, ?_, ?_, ?_, ?_, ?_⟩
  · rw [(f.1 (b + 29) (by omega)).1]; exact g2
  · rw [(f.1 (b + 29) (by omega)).1]; exact g3
  · rw [q_open_at (by omega)]; exact h2.to (fun a ha hb => (f.1 a (by omega)).1)
  · rw [q_open_at (by omega)]; exact h3.to (fun a ha hb => (f.1 a (by omega)).1)
  · exact h4.to ((f.1 _ (by omega)).1) (fun g h1 h2 => q_open_at (by omega))
  · rw [q_open_at (by omega)]; exact h5.to ((f.1 _ (by omega)).1)
  · rw [q_open_at (by omega)]; exact h6.to ((f.1 _ (by omega)).1)
/-- the memory with one USE more -/
def mUse (M : xMem) (b n p s w : Nat) : xMem := wI (wI (wI (wI M (b + 26) n (nI p)) (b + 27) n (nI s)) (b + 28) n (nI w)) (b + 25) 7 (nI (n + 1))
theorem p_addUse {M : xMem} {b p s w : Nat} {l : List qE} (h : rUs M b l) (hl : l.length < 60) (hw : w ≤ 1) : f_B_addUse b (nI p) (nI s) (nI w) M = some ((), mUse M b l.length p s w) := by
  have h1 := h.1
  unfold f_B_addUse mUse
  have : w = 0 ∨ w = 1 := by omega
  rcases this with rfl | rfl
  · simp (disch := omega) only [↓reduceIte, nI_leT, nI_leF, nI_ltT, nI_ltF, nI_eqT, nI_eqF, xin_T, nI_clampT, nI_add, nI_inc, pk_subT, xb_some, xval, xlet, mI_s, mI_n, mI_k, mI_2, mJ_1, mJ_s, mJ_n, mJ_k, mJ_2, mT_1, mT_2, mT_s, mT_n, mT_k, mT_3, mR_1, mR_2, mR_3, bI_0, bI_1, bI_n0, bI_n1, Bool.true_eq_false, Bool.false_eq_true, eq_self, i_0, i_1, i_2, i_3, i_4, i_5, i_6, i_7, i_8, i_9, i_10, i_11, i_12, i_13, i_14, i_15, i_16, i_17, i_18, i_19, i_20, i_21, i_22, i_23, i_24, i_25, i_26, i_27, i_28, i_29, i_30, i_31, i_32, i_33, i_34, i_35, i_36, i_37, i_38, i_39, i_40, i_41, i_42, i_43, i_44, i_45, i_48, i_49, i_57, i_59, i_60, i_61, i_62, i_64, i_97, i_110, i_122, i_123, i_125, i_126, i_127, i_160, i_255, i_300, i_400, h1, vp_narB0]
  · simp (disch := omega) only [↓reduceIte, nI_leT, nI_leF, nI_ltT, nI_ltF, nI_eqT, nI_eqF, xin_T, nI_clampT, nI_add, nI_inc, pk_subT, xb_some, xval, xlet, mI_s, mI_n, mI_k, mI_2, mJ_1, mJ_s, mJ_n, mJ_k, mJ_2, mT_1, mT_2, mT_s, mT_n, mT_k, mT_3, mR_1, mR_2, mR_3, bI_0, bI_1, bI_n0, bI_n1, Bool.true_eq_false, Bool.false_eq_true, eq_self, i_0, i_1, i_2, i_3, i_4, i_5, i_6, i_7, i_8, i_9, i_10, i_11, i_12, i_13, i_14, i_15, i_16, i_17, i_18, i_19, i_20, i_21, i_22, i_23, i_24, i_25, i_26, i_27, i_28, i_29, i_30, i_31, i_32, i_33, i_34, i_35, i_36, i_37, i_38, i_39, i_40, i_41, i_42, i_43, i_44, i_45, i_48, i_49, i_57, i_59, i_60, i_61, i_62, i_64, i_97, i_110, i_122, i_123, i_125, i_126, i_127, i_160, i_255, i_300, i_400, h1, vp_narB1]
theorem mUse_rC {M : xMem} {b p s w tok sc : Nat} {t : List Nat} {L : qL} (h : rC M b t tok sc L) : rC (mUse M b (L 2).length p s w) b t tok sc (qA 2 (p, s, w, 0, 0) L) := by
  obtain ⟨g1, g2, g3, h1, h2, h3, h4, h5, h6⟩ := h
  have f : pFr (b + 25) (b + 29) M (mUse M b (L 2).length p s w) := by
    unfold mUse
    exact (((pFr.I (by omega)).trans (pFr.I (by omega))).trans (pFr.I (by omega))).trans (pFr.I (by omega))
  refine ⟨g1.fr f (by omega), ?_, ?_, ?_, ?_, ?_, ?_, ?_, ?_⟩
  · rw [(f.1 (b + 29) (by omega)).1]; exact g2
  · rw [(f.1 (b + 29) (by omega)).1]; exact g3
  · rw [qA_n _ _ (by omega)]; exact h1.to (fun a ha hb => (f.1 a (by omega)).1)
  · rw [qA_n _ _ (by omega)]; exact h2.to (fun a ha hb => (f.1 a (by omega)).1)
  · obtain ⟨k0, k1, k2, k3, k4⟩ := h3
    rw [qA_s]
    refine ⟨?_, ?_, ?_, ?_, ?_⟩
    · unfold mUse; simp (disch := omega) only [↓reduceIte, nI_leT, nI_leF, nI_ltT, nI_ltF, nI_eqT, nI_eqF, xin_T, nI_clampT, nI_add, nI_inc, pk_subT, xb_some, xval, xlet, mI_s, mI_n, mI_k, mI_2, mJ_1, mJ_s, mJ_n, mJ_k, mJ_2, mT_1, mT_2, mT_s, mT_n, mT_k, mT_3, mR_1, mR_2, mR_3, bI_0, bI_1, bI_n0, bI_n1, Bool.true_eq_false, Bool.false_eq_true, eq_self, i_0, i_1, i_2, i_3, i_4, i_5, i_6, i_7, i_8, i_9, i_10, i_11, i_12, i_13, i_14, i_15, i_16, i_17, i_18, i_19, i_20, i_21, i_22, i_23, i_24, i_25, i_26, i_27, i_28, i_29, i_30, i_31, i_32, i_33, i_34, i_35, i_36, i_37, i_38, i_39, i_40, i_41, i_42, i_43, i_44, i_45, i_48, i_49, i_57, i_59, i_60, i_61, i_62, i_64, i_97, i_110, i_122, i_123, i_125, i_126, i_127, i_160, i_255, i_300, i_400]; rw [List.length_append]; rfl
    · unfold mUse; simp (disch := omega) only [↓reduceIte, nI_leT, nI_leF, nI_ltT, nI_ltF, nI_eqT, nI_eqF, xin_T, nI_clampT, nI_add, nI_inc, pk_subT, xb_some, xval, xlet, mI_s, mI_n, mI_k, mI_2, mJ_1, mJ_s, mJ_n, mJ_k, mJ_2, mT_1, mT_2, mT_s, mT_n, mT_k, mT_3, mR_1, mR_2, mR_3, bI_0, bI_1, bI_n0, bI_n1, Bool.true_eq_false, Bool.false_eq_true, eq_self, i_0, i_1, i_2, i_3, i_4, i_5, i_6, i_7, i_8, i_9, i_10, i_11, i_12, i_13, i_14, i_15, i_16, i_17, i_18, i_19, i_20, i_21, i_22, i_23, i_24, i_25, i_26, i_27, i_28, i_29, i_30, i_31, i_32, i_33, i_34, i_35, i_36, i_37, i_38, i_39, i_40, i_41, i_42, i_43, i_44, i_45, i_48, i_49, i_57, i_59, i_60, i_61, i_62, i_64, i_97, i_110, i_122, i_123, i_125, i_126, i_127, i_160, i_255, i_300, i_400, k1]
    · exact k2.app (fun i hi => by unfold mUse; simp (disch := omega) only [↓reduceIte, nI_leT, nI_leF, nI_ltT, nI_ltF, nI_eqT, nI_eqF, xin_T, nI_clampT, nI_add, nI_inc, pk_subT, xb_some, xval, xlet, mI_s, mI_n, mI_k, mI_2, mJ_1, mJ_s, mJ_n, mJ_k, mJ_2, mT_1, mT_2, mT_s, mT_n, mT_k, mT_3, mR_1, mR_2, mR_3, bI_0, bI_1, bI_n0, bI_n1, Bool.true_eq_false, Bool.false_eq_true, eq_self, i_0, i_1, i_2, i_3, i_4, i_5, i_6, i_7, i_8, i_9, i_10, i_11, i_12, i_13, i_14, i_15, i_16, i_17, i_18, i_19, i_20, i_21, i_22, i_23, i_24, i_25, i_26, i_27, i_28, i_29, i_30, i_31, i_32, i_33, i_34, i_35, i_36, i_37, i_38, i_39, i_40, i_41, i_42, i_43, i_44, i_45, i_48, i_49, i_57, i_59, i_60, i_61, i_62, i_64, i_97, i_110, i_122, i_123, i_125, i_126, i_127, i_160, i_255, i_300, i_400]) (by unfold mUse; simp (disch := omega) only [↓reduceIte, nI_leT, nI_leF, nI_ltT, nI_ltF, nI_eqT, nI_eqF, xin_T, nI_clampT, nI_add, nI_inc, pk_subT, xb_some, xval, xlet, mI_s, mI_n, mI_k, mI_2, mJ_1, mJ_s, mJ_n, mJ_k, mJ_2, mT_1, mT_2, mT_s, mT_n, mT_k, mT_3, mR_1, mR_2, mR_3, bI_0, bI_1, bI_n0, bI_n1, Bool.true_eq_false, Bool.false_eq_true, eq_self, i_0, i_1, i_2, i_3, i_4, i_5, i_6, i_7, i_8, i_9, i_10, i_11, i_12, i_13, i_14, i_15, i_16, i_17, i_18, i_19, i_20, i_21, i_22, i_23, i_24, i_25, i_26, i_27, i_28, i_29, i_30, i_31, i_32, i_33, i_34, i_35, i_36, i_37, i_38, i_39, i_40, i_41, i_42, i_43, i_44, i_45, i_48, i_49, i_57, i_59, i_60, i_61, i_62, i_64, i_97, i_110, i_122, i_123, i_125, i_126, i_127, i_160, i_255, i_300, i_400])
    · exact k3.app (fun i hi => by unfold mUse; simp (disch := omega) only [↓reduceIte, nI_leT, nI_leF, nI_ltT, nI_ltF, nI_eqT, nI_eqF, xin_T, nI_clampT, nI_add, nI_inc, pk_subT, xb_some, xval, xlet, mI_s, mI_n, mI_k, mI_2, mJ_1, mJ_s, mJ_n, mJ_k, mJ_2, mT_1, mT_2, mT_s, mT_n, mT_k, mT_3, mR_1, mR_2, mR_3, bI_0, bI_1, bI_n0, bI_n1, Bool.true_eq_false, Bool.false_eq_true, eq_self, i_0, i_1, i_2, i_3, i_4, i_5, i_6, i_7, i_8, i_9, i_10, i_11, i_12, i_13, i_14, i_15, i_16, i_17, i_18, i_19, i_20, i_21, i_22, i_23, i_24, i_25, i_26, i_27, i_28, i_29, i_30, i_31, i_32, i_33, i_34, i_35, i_36, i_37, i_38, i_39, i_40, i_41, i_42, i_43, i_44, i_45, i_48, i_49, i_57, i_59, i_60, i_61, i_62, i_64, i_97, i_110, i_122, i_123, i_125, i_126, i_127, i_160, i_255, i_300, i_400]) (by unfold mUse; simp (disch := omega) only [↓reduceIte, nI_leT, nI_leF, nI_ltT, nI_ltF, nI_eqT, nI_eqF, xin_T, nI_clampT, nI_add, nI_inc, pk_subT, xb_some, xval, xlet, mI_s, mI_n, mI_k, mI_2, mJ_1, mJ_s, mJ_n, mJ_k, mJ_2, mT_1, mT_2, mT_s, mT_n, mT_k, mT_3, mR_1, mR_2, mR_3, bI_0, bI_1, bI_n0, bI_n1, Bool.true_eq_false, Bool.false_eq_true, eq_self, i_0, i_1, i_2, i_3, i_4, i_5, i_6, i_7, i_8, i_9, i_10, i_11, i_12, i_13, i_14, i_15, i_16, i_17, i_18, i_19, i_20, i_21, i_22, i_23, i_24, i_25, i_26, i_27, i_28, i_29, i_30, i_31, i_32, i_33, i_34, i_35, i_36, i_37, i_38, i_39, i_40, i_41, i_42, i_43, i_44, i_45, i_48, i_49, i_57, i_59, i_60, i_61, i_62, i_64, i_97, i_110, i_122, i_123, i_125, i_126, i_127, i_160, i_255, i_300, i_400])
    · exact k4.app (fun i hi => by unfold mUse; simp (disch := omega) only [↓reduceIte, nI_leT, nI_leF, nI_ltT, nI_ltF, nI_eqT, nI_eqF, xin_T, nI_clampT, nI_add, nI_inc, pk_subT, xb_some, xval, xlet, mI_s, mI_n, mI_k, mI_2, mJ_1, mJ_s, mJ_n, mJ_k, mJ_2, mT_1, mT_2, mT_s, mT_n, mT_k, mT_3, mR_1, mR_2, mR_3, bI_0, bI_1, bI_n0, bI_n1, Bool.true_eq_false, Bool.false_eq_true, eq_self, i_0, i_1, i_2, i_3, i_4, i_5, i_6, i_7, i_8, i_9, i_10, i_11, i_12, i_13, i_14, i_15, i_16, i_17, i_18, i_19, i_20, i_21, i_22, i_23, i_24, i_25, i_26, i_27, i_28, i_29, i_30, i_31, i_32, i_33, i_34, i_35, i_36, i_37, i_38, i_39, i_40, i_41, i_42, i_43, i_44, i_45, i_48, i_49, i_57, i_59, i_60, i_61, i_62, i_64, i_97, i_110, i_122, i_123, i_125, i_126, i_127, i_160, i_255, i_300, i_400]) (by unfold mUse; simp (disch := omega) only [↓reduceIte, nI_leT, nI_leF, nI_ltT, nI_ltF, nI_eqT, nI_eqF, xin_T, nI_clampT, nI_add, nI_inc, pk_subT, xb_some, xval, xlet, mI_s, mI_n, mI_k, mI_2, mJ_1, mJ_s, mJ_n, mJ_k, mJ_2, mT_1, mT_2, mT_s, mT_n, mT_k, mT_3, mR_1, mR_2, mR_3, bI_0, bI_1, bI_n0, bI_n1, Bool.true_eq_false, Bool.false_eq_true, eq_self, i_0, i_1, i_2, i_3, i_4, i_5, i_6, i_7, i_8, i_9, i_10, i_11, i_12, i_13, i_14, i_15, i_16, i_17, i_18, i_19, i_20, i_21, i_22, i_23, i_24, i_25, i_26, i_27, i_28, i_29, i_30, i_31, i_32, i_33, i_34, i_35, i_36, i_37, i_38, i_39, i_40, i_41, i_42, i_43, i_44, i_45, i_48, i_49, i_57, i_59, i_60, i_61, i_62, i_64, i_97, i_110, i_122, i_123, i_125, i_126, i_127, i_160, i_255, i_300, i_400])
  · exact h4.to ((f.1 _ (by omega)).1) (fun g h1 h2 => qA_n _ _ (by omega))
  · rw [qA_n _ _ (by omega)]; exact h5.to ((f.1 _ (by omega)).1)
  · rw [qA_n _ _ (by omega)]; exact h6.to ((f.1 _ (by omega)).1)
theorem mUse_fr {M : xMem} {b n p s w : Nat} : pFr (b + 25) (b + 29) M (mUse M b n p s w) := by
  unfold mUse
  exact (((pFr.I (by omega)).trans (pFr.I (by omega))).trans (pFr.I (by omega))).trans (pFr.I (by omega))
