/-! PURE: the class looks for FINDINGS -/
theorem p_M_rulesAt {M : xMem} {b p : Nat} (hp : p < 60) : f_M_rulesAt b (nI p) M = some (M.1 (b + 22) p, M) := by
  unfold f_M_rulesAt f_M_isThere
  simp (disch := omega) only [↓reduceIte, nI_leT, nI_leF, nI_ltT, nI_ltF, nI_eqT, nI_eqF, xin_T, nI_clampT, nI_add, nI_inc, pk_subT, xb_some, xval, xlet, mI_s, mI_n, mI_k, mI_2, mJ_1, mJ_s, mJ_n, mJ_k, mJ_2, mT_1, mT_2, mT_s, mT_n, mT_k, mT_3, mR_1, mR_2, mR_3, bI_0, bI_1, bI_n0, bI_n1, Bool.true_eq_false, Bool.false_eq_true, eq_self, i_0, i_1, i_2, i_3, i_4, i_5, i_6, i_7, i_8, i_9, i_10, i_11, i_12, i_13, i_14, i_15, i_16, i_17, i_18, i_19, i_20, i_21, i_22, i_23, i_24, i_25, i_26, i_27, i_28, i_29, i_30, i_31, i_32, i_33, i_34, i_35, i_36, i_37, i_38, i_39, i_40, i_41, i_42, i_43, i_44, i_45, i_48, i_49, i_57, i_59, i_60, i_61, i_62, i_64, i_97, i_110, i_122, i_123, i_125, i_126, i_127, i_160, i_255, i_300, i_400]
theorem p_M_excusedAt {M : xMem} {b p : Nat} (hp : p < 60) : f_M_excusedAt b (nI p) M = some (M.1 (b + 23) p, M) := by
  unfold f_M_excusedAt f_M_isThere
  simp (disch := omega) only [↓reduceIte, nI_leT, nI_leF, nI_ltT, nI_ltF, nI_eqT, nI_eqF, xin_T, nI_clampT, nI_add, nI_inc, pk_subT, xb_some, xval, xlet, mI_s, mI_n, mI_k, mI_2, mJ_1, mJ_s, mJ_n, mJ_k, mJ_2, mT_1, mT_2, mT_s, mT_n, mT_k, mT_3, mR_1, mR_2, mR_3, bI_0, bI_1, bI_n0, bI_n1, Bool.true_eq_false, Bool.false_eq_true, eq_self, i_0, i_1, i_2, i_3, i_4, i_5, i_6, i_7, i_8, i_9, i_10, i_11, i_12, i_13, i_14, i_15, i_16, i_17, i_18, i_19, i_20, i_21, i_22, i_23, i_24, i_25, i_26, i_27, i_28, i_29, i_30, i_31, i_32, i_33, i_34, i_35, i_36, i_37, i_38, i_39, i_40, i_41, i_42, i_43, i_44, i_45, i_48, i_49, i_57, i_59, i_60, i_61, i_62, i_64, i_97, i_110, i_122, i_123, i_125, i_126, i_127, i_160, i_255, i_300, i_400]
theorem p_octetsOf {M : xMem} {b i : Nat} {t : List Nat} (h : pLx M b t) (hi : i < (pLex t).length) : f_T_octetsOf b (nI i) M = some (pOc t (pLex t) i, M) := by
  obtain ⟨h1, h2, h3⟩ := h
  have hl := pLex_len t
  have e := (h3 i hi).2.2.2.1
  unfold f_T_octetsOf f_T_isThere
  simp (disch := omega) only [↓reduceIte, nI_leT, nI_leF, nI_ltT, nI_ltF, nI_eqT, nI_eqF, xin_T, nI_clampT, nI_add, nI_inc, pk_subT, xb_some, xval, xlet, mI_s, mI_n, mI_k, mI_2, mJ_1, mJ_s, mJ_n, mJ_k, mJ_2, mT_1, mT_2, mT_s, mT_n, mT_k, mT_3, mR_1, mR_2, mR_3, bI_0, bI_1, bI_n0, bI_n1, Bool.true_eq_false, Bool.false_eq_true, eq_self, i_0, i_1, i_2, i_3, i_4, i_5, i_6, i_7, i_8, i_9, i_10, i_11, i_12, i_13, i_14, i_15, i_16, i_17, i_18, i_19, i_20, i_21, i_22, i_23, i_24, i_25, i_26, i_27, i_28, i_29, i_30, i_31, i_32, i_33, i_34, i_35, i_36, i_37, i_38, i_39, i_40, i_41, i_42, i_43, i_44, i_45, i_48, i_49, i_57, i_59, i_60, i_61, i_62, i_64, i_97, i_110, i_122, i_123, i_125, i_126, i_127, i_160, i_255, i_300, i_400, h2, e]
/-- what the class looks into for FINDINGS -/
def gFd (M : xMem) (g b : Nat) (on : Nat → Bool) (gv : List (List Nat)) (t : List Nat) (K : qL) (l : List qE) : Prop := gSt M g on gv ∧ pLx M b t ∧ rMk M b K ∧ rEx M b l ∧ ∀ e, e ∈ K 10 → kT t e.1 = 23
theorem p_rulesAt {M : xMem} {g b p : Nat} {on : Nat → Bool} {gv : List (List Nat)} {t : List Nat} {K : qL} {l : List qE} (h : gFd M g b on gv t K l) (hp : p < 60) : ∃ v, f_G_rulesAt g b (nI p) M = some (v, M) ∧ rBits (fun r => sMk K (10 * p + r) = true ∧ sOn on gv t (10 * p + r) = true) v := by
  obtain ⟨hg, hx, hm, _, h0⟩ := h
  have ha := (hm p hp).and hg.2.2.1
  have test := ha.at0
  unfold f_G_rulesAt
  rw [p_M_rulesAt hp, xb_some]
  by_cases c : (∃ e, e ∈ K (10 + 0) ∧ e.1 = p) ∧ on 0 = true
  · rw [if_neg (fun e => (test.mp e) c)]
    unfold f_G_rulesAt_25
    rw [if_neg (by decide)]
    obtain ⟨⟨e, e1, e2⟩, c2⟩ := c
    have k23 : kT t p = 23 := by rw [← e2]; exact h0 e e1
    have hpT := kT_real (t := t) (i := p) (by omega)
    have oc := p_octetsOf (i := p) hx (by rw [nT_len]; omega)
    have eoc : pOc t (pLex t) p = pOct t (pS (pLex t) p) (pE (pLex t) p) := by
      unfold pOc
      rw [if_pos (isW_23 (show pK (pLex t) p = 23 from k23))]
    rw [oc, xb_some]
    have gi := p_G_isGiven (w := pOc t (pLex t) p) (x := pW t p) hg (by
      intro y hy
      rw [eoc, gOc_iff hx.1.2.2.2 (hg.2.2.2.2 y hy) (word_nz (.inl k23)), pW_iff])
    rw [gi, xb_some]
    by_cases c3 : pW t p ∈ gv
    · refine ⟨_, ?_, ha.no0.iff ?_⟩
      · rw [decide_eq_true c3, if_neg (by decide)]
      · intro r hr
        rw [sMk_iff hr, sOn_iff hr]
        constructor
        · intro ⟨⟨a, b⟩, d⟩; exact ⟨a, b, fun e => d e.1⟩
        · intro ⟨a, b, d⟩; exact ⟨⟨a, b⟩, fun e => d ⟨e, c3⟩⟩
    · refine ⟨_, ?_, ha.iff ?_⟩
      · rw [decide_eq_false c3, if_pos (by decide)]
      · intro r hr
        rw [sMk_iff hr, sOn_iff hr]
        constructor
        · intro ⟨a, b⟩; exact ⟨a, b, fun e => c3 e.2⟩
        · intro ⟨a, b, d⟩; exact ⟨a, b⟩
  · rw [if_pos (test.mpr c)]
    unfold f_G_rulesAt_25
    rw [if_pos rfl]
    refine ⟨_, rfl, ha.iff ?_⟩
    intro r hr
    rw [sMk_iff hr, sOn_iff hr]
    constructor
    · intro ⟨a, b⟩
      refine ⟨a, b, fun e => c ?_⟩
      obtain ⟨e1, _⟩ := e
      subst e1
      exact ⟨a, b⟩
    · intro ⟨a, b, d⟩; exact ⟨a, b⟩
def sP (on : Nat → Bool) (gv : List (List Nat)) (t : List Nat) (K : qL) (l : List qE) (c : Nat) : Bool := sMk K c && sFd on gv t l c
def sX (on : Nat → Bool) (gv : List (List Nat)) (t : List Nat) (K : qL) (l : List qE) (c : Nat) : Bool := sMk K c && sXd on gv t l c
theorem p_findingsAt {M : xMem} {g b p : Nat} {on : Nat → Bool} {gv : List (List Nat)} {t : List Nat} {K : qL} {l : List qE} (h : gFd M g b on gv t K l) (hp : p < 60) : ∃ v, f_G_findingsAt g b (nI p) M = some (v, M) ∧ rBits (fun r => sP on gv t K l (10 * p + r) = true) v := by
  obtain ⟨v, o, hb⟩ := p_rulesAt h hp
  have hx := h.2.2.2.1 p hp
  refine ⟨_, ?_, (hb.diff hx).iff ?_⟩
  · unfold f_G_findingsAt
    rw [o, xb_some, p_M_excusedAt hp, xb_some]
  · intro r hr
    unfold sP sFd
    rw [Bool.and_eq_true, Bool.and_eq_true, Bool.not_eq_true', ← Bool.not_eq_true, sEx_iff hr]
    exact and_assoc
theorem p_excusedAt {M : xMem} {g b p : Nat} {on : Nat → Bool} {gv : List (List Nat)} {t : List Nat} {K : qL} {l : List qE} (h : gFd M g b on gv t K l) (hp : p < 60) : ∃ v w, f_G_rulesAt g b (nI p) M = some (v, M) ∧ f_M_excusedAt b (nI p) M = some (w, M) ∧ rBits (fun r => sX on gv t K l (10 * p + r) = true) (v &&& w) := by
  obtain ⟨v, o, hb⟩ := p_rulesAt h hp
  have hx := h.2.2.2.1 p hp
  refine ⟨v, _, o, p_M_excusedAt hp, (hb.and hx).iff ?_⟩
  intro r hr
  unfold sX sXd
  rw [Bool.and_eq_true, Bool.and_eq_true, sEx_iff hr]
  exact and_assoc
theorem p_findingsIn_4 {M : xMem} {g b : Nat} {on : Nat → Bool} {gv : List (List Nat)} {t : List Nat} {K : qL} {l : List qE} (h : gFd M g b on gv t K l) : ∀ (m p fuel : Nat), p + m = nT t → m < fuel → f_G_findingsIn_4 g b fuel (nI (cnt (sP on gv t K l) (10 * p))) (nI p) M = some (nI (cnt (sP on gv t K l) (10 * nT t)), M) := by
  have hT := nT_le t
  have e6 : M.1 (b + 2) 6 = nI (nT t) := h.2.1.2.1
  intro m
  induction m with
  | zero =>
    intro p fuel hp hf
    obtain ⟨f, rfl⟩ : ∃ f, fuel = f + 1 := ⟨fuel - 1, by omega⟩
    have : p = nT t := by omega
    subst this
    rw [f_G_findingsIn_4, if_pos (by rw [e6]; exact nI_le (Nat.le_refl _) (by omega))]
  | succ m ih =>
    intro p fuel hp hf
    obtain ⟨f, rfl⟩ : ∃ f, fuel = f + 1 := ⟨fuel - 1, by omega⟩
    obtain ⟨v, o, hb⟩ := p_findingsAt h (p := p) (by omega)
    rw [f_G_findingsIn_4, if_neg (by rw [e6]; exact nI_ge (by omega) (by omega)), o, xb_some, hb.count, xb_some, nI_add, nI_inc, ← cnt_add]
    exact ih (p + 1) f (by omega) (by omega)
theorem p_findingsIn {M : xMem} {g b : Nat} {on : Nat → Bool} {gv : List (List Nat)} {t : List Nat} {K : qL} {l : List qE} (h : gFd M g b on gv t K l) : f_G_findingsIn g b M = some (nI (cnt (sP on gv t K l) (10 * nT t)), M) :=
  p_findingsIn_4 h (nT t) 0 xFuel (by omega) (by have := nT_le t; unfold xFuel; omega)
theorem p_excusedIn_4 {M : xMem} {g b : Nat} {on : Nat → Bool} {gv : List (List Nat)} {t : List Nat} {K : qL} {l : List qE} (h : gFd M g b on gv t K l) : ∀ (m p fuel : Nat), p + m = nT t → m < fuel → f_G_excusedIn_4 g b fuel (nI (cnt (sX on gv t K l) (10 * p))) (nI p) M = some (nI (cnt (sX on gv t K l) (10 * nT t)), M) := by
  have hT := nT_le t
  have e6 : M.1 (b + 2) 6 = nI (nT t) := h.2.1.2.1
  intro m
  induction m with
  | zero =>
    intro p fuel hp hf
    obtain ⟨f, rfl⟩ : ∃ f, fuel = f + 1 := ⟨fuel - 1, by omega⟩
    have : p = nT t := by omega
    subst this
    rw [f_G_excusedIn_4, if_pos (by rw [e6]; exact nI_le (Nat.le_refl _) (by omega))]
  | succ m ih =>
    intro p fuel hp hf
    obtain ⟨f, rfl⟩ : ∃ f, fuel = f + 1 := ⟨fuel - 1, by omega⟩
    obtain ⟨v, w, o, o2, hb⟩ := p_excusedAt h (p := p) (by omega)
    rw [f_G_excusedIn_4, if_neg (by rw [e6]; exact nI_ge (by omega) (by omega)), o, xb_some, o2, xb_some, hb.count, xb_some, nI_add, nI_inc, ← cnt_add]
    exact ih (p + 1) f (by omega) (by omega)
theorem p_excusedIn {M : xMem} {g b : Nat} {on : Nat → Bool} {gv : List (List Nat)} {t : List Nat} {K : qL} {l : List qE} (h : gFd M g b on gv t K l) : f_G_excusedIn g b M = some (nI (cnt (sX on gv t K l) (10 * nT t)), M) :=
  p_excusedIn_4 h (nT t) 0 xFuel (by omega) (by have := nT_le t; unfold xFuel; omega)
/-- the first of m numbers from c on that has P and k before it -/
def sNth (P : Nat → Bool) (k : Int32) : Nat → Nat → Int32
  | 0, _ => -1
  | m + 1, c => if P c = true ∧ nI (cnt P c) = k then nI c else sNth P k m (c + 1)
theorem p_findingOf_29 {M : xMem} {g b p : Nat} {P : Nat → Bool} {k v : Int32} {k5 : Int32 → Int32 → xMem → Option (Int32 × xMem)} (hb : rBits (fun r => P (10 * p + r) = true) v) {m : Nat} (hk : k5 (nI (cnt P (10 * (p + 1)))) (nI (p + 1)) M = some (sNth P k m (10 * (p + 1)), M)) : ∀ (n r fuel : Nat), r + n = 10 → n < fuel → f_G_findingOf_29 g b k k5 fuel (nI (cnt P (10 * p + r))) (nI p) v (nI r) M = some (sNth P k (n + m) (10 * p + r), M) := by
  intro n
  induction n with
  | zero =>
    intro r fuel hr hf
    obtain ⟨f, rfl⟩ : ∃ f, fuel = f + 1 := ⟨fuel - 1, by omega⟩
    have : r = 10 := by omega
    subst this
    rw [f_G_findingOf_29, if_pos (by decide), nI_inc, Nat.zero_add]
    exact hk
  | succ n ih =>
    intro r fuel hr hf
    obtain ⟨f, rfl⟩ : ∃ f, fuel = f + 1 := ⟨fuel - 1, by omega⟩
    have at' := hb.at (r := r) (by omega)
    have ih' := ih (r + 1) f (by omega) (by omega)
    have nge : ¬ (10 : Int32) ≤ nI r := nI_ge (a := r) (b := 10) (by omega) (by omega)
    rw [f_G_findingOf_29, if_neg nge, show n + 1 + m = (n + m) + 1 by omega, sNth]
    by_cases c : P (10 * p + r) = true
    · rw [if_neg (fun e => (at'.mp e) c)]
      by_cases c2 : nI (cnt P (10 * p + r)) = k
      · rw [if_pos c2, if_pos ⟨c, c2⟩]
        have : nI p * 10 + nI r = nI (10 * p + r) := by
          rw [show (10 : Int32) = nI 10 from rfl, pk_mul, nI_add, Nat.mul_comm]
        rw [this]
      · rw [if_neg c2, if_neg (fun e => c2 e.2)]
        unfold f_G_findingOf_63
        rw [nI_inc, nI_inc]
        rw [show 10 * p + (r + 1) = (10 * p + r) + 1 by omega, cnt, if_pos c] at ih'
        exact ih'
    · rw [if_pos (at'.mpr c), if_neg (fun e => c e.1)]
      unfold f_G_findingOf_63
      rw [nI_inc]
      rw [show 10 * p + (r + 1) = (10 * p + r) + 1 by omega, cnt, if_neg c] at ih'
      exact ih'
theorem p_findingOf_5 {M : xMem} {g b : Nat} {on : Nat → Bool} {gv : List (List Nat)} {t : List Nat} {K : qL} {l : List qE} {k : Int32} (h : gFd M g b on gv t K l) : ∀ (m p fuel : Nat), p + m = nT t → m < fuel → f_G_findingOf_5 g b k fuel (nI (cnt (sP on gv t K l) (10 * p))) (nI p) M = some (sNth (sP on gv t K l) k (10 * m) (10 * p), M) := by
  have hT := nT_le t
  have e6 : M.1 (b + 2) 6 = nI (nT t) := h.2.1.2.1
  intro m
  induction m with
  | zero =>
    intro p fuel hp hf
    obtain ⟨f, rfl⟩ : ∃ f, fuel = f + 1 := ⟨fuel - 1, by omega⟩
    have : p = nT t := by omega
    subst this
    rw [f_G_findingOf_5, if_pos (by rw [e6]; exact nI_le (Nat.le_refl _) (by omega))]
    rfl
  | succ m ih =>
    intro p fuel hp hf
    obtain ⟨f, rfl⟩ : ∃ f, fuel = f + 1 := ⟨fuel - 1, by omega⟩
    obtain ⟨v, o, hb⟩ := p_findingsAt h (p := p) (by omega)
    rw [f_G_findingOf_5, if_neg (by rw [e6]; exact nI_ge (by omega) (by omega)), o, xb_some]
    have := p_findingOf_29 (g := g) (b := b) (k := k) hb (ih (p + 1) f (by omega) (by omega)) 10 0 xFuel (by omega) (by unfold xFuel; omega)
    rw [show 10 * (m + 1) = 10 + 10 * m by omega]
    exact this
theorem p_findingOf {M : xMem} {g b : Nat} {on : Nat → Bool} {gv : List (List Nat)} {t : List Nat} {K : qL} {l : List qE} {k : Int32} (h : gFd M g b on gv t K l) : f_G_findingOf g b k M = some (sNth (sP on gv t K l) k (10 * nT t) 0, M) :=
  p_findingOf_5 h (nT t) 0 xFuel (by omega) (by have := nT_le t; unfold xFuel; omega)
/-- the RULE of the FINDING at TOKEN p that can be mended; 10 if there is none -/
def sMd (P lo : Nat → Bool) (p : Nat) : Nat := if P (10 * p + 6) then 6 else if P (10 * p + 7) then 7 else if P (10 * p + 8) && lo p then 8 else if P (10 * p + 9) then 9 else 10
def sMdI (n : Nat) : Int32 := if n = 10 then -1 else nI n
theorem p_isLoose {M : xMem} {b p : Nat} {c : Bool} (hp : p < 60) (h : M.1 (b + 24) p = bI c) : f_M_isLoose b (nI p) M = some (bI c, M) := by
  unfold f_M_isLoose f_M_isThere
  cases c with
  | true => simp (disch := omega) only [↓reduceIte, nI_leT, nI_leF, nI_ltT, nI_ltF, nI_eqT, nI_eqF, xin_T, nI_clampT, nI_add, nI_inc, pk_subT, xb_some, xval, xlet, mI_s, mI_n, mI_k, mI_2, mJ_1, mJ_s, mJ_n, mJ_k, mJ_2, mT_1, mT_2, mT_s, mT_n, mT_k, mT_3, mR_1, mR_2, mR_3, bI_0, bI_1, bI_n0, bI_n1, Bool.true_eq_false, Bool.false_eq_true, eq_self, i_0, i_1, i_2, i_3, i_4, i_5, i_6, i_7, i_8, i_9, i_10, i_11, i_12, i_13, i_14, i_15, i_16, i_17, i_18, i_19, i_20, i_21, i_22, i_23, i_24, i_25, i_26, i_27, i_28, i_29, i_30, i_31, i_32, i_33, i_34, i_35, i_36, i_37, i_38, i_39, i_40, i_41, i_42, i_43, i_44, i_45, i_48, i_49, i_57, i_59, i_60, i_61, i_62, i_64, i_97, i_110, i_122, i_123, i_125, i_126, i_127, i_160, i_255, i_300, i_400, h]; rfl
  | false => simp (disch := omega) only [↓reduceIte, nI_leT, nI_leF, nI_ltT, nI_ltF, nI_eqT, nI_eqF, xin_T, nI_clampT, nI_add, nI_inc, pk_subT, xb_some, xval, xlet, mI_s, mI_n, mI_k, mI_2, mJ_1, mJ_s, mJ_n, mJ_k, mJ_2, mT_1, mT_2, mT_s, mT_n, mT_k, mT_3, mR_1, mR_2, mR_3, bI_0, bI_1, bI_n0, bI_n1, Bool.true_eq_false, Bool.false_eq_true, eq_self, i_0, i_1, i_2, i_3, i_4, i_5, i_6, i_7, i_8, i_9, i_10, i_11, i_12, i_13, i_14, i_15, i_16, i_17, i_18, i_19, i_20, i_21, i_22, i_23, i_24, i_25, i_26, i_27, i_28, i_29, i_30, i_31, i_32, i_33, i_34, i_35, i_36, i_37, i_38, i_39, i_40, i_41, i_42, i_43, i_44, i_45, i_48, i_49, i_57, i_59, i_60, i_61, i_62, i_64, i_97, i_110, i_122, i_123, i_125, i_126, i_127, i_160, i_255, i_300, i_400, h]; rfl
theorem p_mendableAt {M : xMem} {g b p : Nat} {on : Nat → Bool} {gv : List (List Nat)} {t : List Nat} {K : qL} {l : List qE} {lo : Nat → Bool} (h : gFd M g b on gv t K l) (hp : p < 60) (hl : M.1 (b + 24) p = bI (lo p)) : f_G_mendableAt g b (nI p) M = some (sMdI (sMd (sP on gv t K l) lo p), M) := by
  obtain ⟨v, o, hb⟩ := p_findingsAt h hp
  have a6 := hb.at (r := 6) (by omega)
  have a7 := hb.at (r := 7) (by omega)
  have a8 := hb.at (r := 8) (by omega)
  have a9 := hb.at (r := 9) (by omega)
  have il := p_isLoose hp hl
  generalize hP : sP on gv t K l = P at *
  unfold f_G_mendableAt
  rw [o, xb_some]
  have stop : ∀ f, f_G_mendableAt_11 g b (nI p) (f + 1) v (nI 10) M = some (-1, M) := by intro f; rw [f_G_mendableAt_11, if_pos (by decide)]
  have s9 : ∀ f, f_G_mendableAt_11 g b (nI p) (f + 2) v (nI 9) M = some (if P (10 * p + 9) = true then nI 9 else -1, M) := by
    intro f
    rw [f_G_mendableAt_11, if_neg (by decide), if_neg (by decide)]
    unfold f_G_mendableAt_40 f_G_mendableAt_41 f_G_mendableAt_60
    by_cases c : P (10 * p + 9) = true
    · rw [if_neg (fun e => (a9.mp e) c), if_pos rfl, if_pos c]
    · rw [if_pos (a9.mpr c), if_neg c, nI_inc]; exact stop f
  have s8 : ∀ f, f_G_mendableAt_11 g b (nI p) (f + 3) v (nI 8) M = some (if (P (10 * p + 8) && lo p) = true then nI 8 else if P (10 * p + 9) = true then nI 9 else -1, M) := by
    intro f
    rw [f_G_mendableAt_11, if_neg (by decide), if_pos (by decide), il, xb_some]
    unfold f_G_mendableAt_40 f_G_mendableAt_41 f_G_mendableAt_60
    cases hlo : lo p with
    | true =>
      rw [if_neg (by decide), Bool.and_true]
      by_cases c : P (10 * p + 8) = true
      · rw [if_neg (fun e => (a8.mp e) c), if_pos rfl, if_pos c]
      · rw [if_pos (a8.mpr c), if_neg c, nI_inc]; exact s9 f
    | false =>
      rw [if_pos (by decide), Bool.and_false, if_neg (show ¬ false = true by decide), nI_inc]
      by_cases c : P (10 * p + 8) = true
      · rw [if_neg (fun e => (a8.mp e) c), if_neg (by decide)]; exact s9 f
      · rw [if_pos (a8.mpr c)]; exact s9 f
  have s7 : ∀ f, f_G_mendableAt_11 g b (nI p) (f + 4) v (nI 7) M = some (if P (10 * p + 7) = true then nI 7 else if (P (10 * p + 8) && lo p) = true then nI 8 else if P (10 * p + 9) = true then nI 9 else -1, M) := by
    intro f
    rw [f_G_mendableAt_11, if_neg (by decide), if_neg (by decide)]
    unfold f_G_mendableAt_40 f_G_mendableAt_41 f_G_mendableAt_60
    by_cases c : P (10 * p + 7) = true
    · rw [if_neg (fun e => (a7.mp e) c), if_pos rfl, if_pos c]
    · rw [if_pos (a7.mpr c), if_neg c, nI_inc]; exact s8 f
  have s6 : ∀ f, f_G_mendableAt_11 g b (nI p) (f + 5) v (nI 6) M = some (if P (10 * p + 6) = true then nI 6 else if P (10 * p + 7) = true then nI 7 else if (P (10 * p + 8) && lo p) = true then nI 8 else if P (10 * p + 9) = true then nI 9 else -1, M) := by
    intro f
    rw [f_G_mendableAt_11, if_neg (by decide), if_neg (by decide)]
    unfold f_G_mendableAt_40 f_G_mendableAt_41 f_G_mendableAt_60
    by_cases c : P (10 * p + 6) = true
    · rw [if_neg (fun e => (a6.mp e) c), if_pos rfl, if_pos c]
    · rw [if_pos (a6.mpr c), if_neg c, nI_inc]; exact s7 f
  have := s6 (xFuel - 5)
  rw [show xFuel - 5 + 5 = xFuel by unfold xFuel; rfl] at this
  refine this.trans ?_
  congr 2
  unfold sMd sMdI
  repeat' split
  all_goals first
    | rfl
    | (exfalso; omega)
    | simp_all
