/-! PURE: what is GIVEN, and the FINDINGS of the class -/
/-- the letters of TOKEN p -/
def pW (t : List Nat) (p : Nat) : List Nat := (List.range (pE (pLex t) p - pS (pLex t) p)).map (fun i => pc t (pS (pLex t) p + i))
theorem pW_len (t : List Nat) (p : Nat) : (pW t p).length = pE (pLex t) p - pS (pLex t) p := by simp [pW]
theorem pW_at {t : List Nat} {p i : Nat} (h : i < pE (pLex t) p - pS (pLex t) p) : pc (pW t p) i = pc t (pS (pLex t) p + i) := by
  unfold pW pc
  rw [List.getD_eq_getElem?_getD, List.getElem?_map, List.getElem?_range h]
  rfl
theorem pc_ext {x y : List Nat} (hl : x.length = y.length) (h : ∀ i, i < x.length → pc x i = pc y i) : x = y := by
  apply List.ext_getElem hl
  intro i h1 h2
  have := h i h1
  unfold pc at this
  rw [List.getD_eq_getElem?_getD, List.getD_eq_getElem?_getD, List.getElem?_eq_getElem h1, List.getElem?_eq_getElem h2] at this
  exact this
theorem pW_iff {t x : List Nat} {p : Nat} : pW t p = x ↔ pSp t (pS (pLex t) p) (pE (pLex t) p) x := by
  constructor
  · intro h
    subst h
    refine ⟨(pW_len t p).symm, fun i hi => (pW_at (by rw [pW_len] at hi; exact hi)).symm⟩
  · intro ⟨h1, h2⟩
    refine pc_ext ((pW_len t p).trans h1) (fun i hi => ?_)
    rw [pW_len] at hi
    rw [pW_at hi]; exact h2 i (by omega)
/-- what a name that is GIVEN is like -/
def gNm (x : List Nat) : Prop := 1 ≤ x.length ∧ x.length ≤ 8 ∧ (∀ i, i < x.length → pc x i ≠ 0) ∧ ∀ i, pc x i < 256
def gOc (x : List Nat) : Int64 := lN (pVal x 0 x.length)
theorem gOc_lt {x : List Nat} (h : gNm x) : pVal x 0 x.length < 2 ^ 64 := Nat.lt_of_lt_of_le (pVal_lt h.2.2.2 x.length 0) (by
    have : 256 ^ x.length ≤ 256 ^ 8 := Nat.pow_le_pow_right (by decide) h.2.1
    exact this)
theorem gOc_iff {t x : List Nat} {p e : Nat} (ht : ∀ i, pc t i < 256) (hx : gNm x) (hn : ∀ i, p ≤ i → i < e → pc t i ≠ 0) : gOc x = pOct t p e ↔ pSp t p e x := by
  have hv' := gOc_lt hx
  unfold gOc pOct pSp
  split
  · rename_i h8
    have hv2 := pVal_lt ht (e - p) p
    have hv2' : pVal t p (e - p) < 2 ^ 64 := Nat.lt_of_lt_of_le hv2 (by
      have : 256 ^ (e - p) ≤ 256 ^ 8 := Nat.pow_le_pow_right (by decide) h8
      exact this)
    constructor
    · intro h
      have h := lN_inj hv' hv2' h
      have := pVal_inj ht hx.2.2.2 (e - p) x.length p 0 (fun i hi => hn (p + i) (by omega) (by omega)) (fun i hi => by rw [Nat.zero_add]; exact hx.2.2.1 i hi) h.symm
      refine ⟨this.1, ?_⟩
      intro i hi
      have := this.2 i (by omega)
      rw [Nat.zero_add] at this
      exact this
    · intro ⟨h1, h2⟩
      rw [h1]
      congr 1
      exact (pVal_same _ _ _ (fun i hi => by rw [Nat.zero_add]; exact h2 i hi)).symm
  · rename_i h8
    constructor
    · intro h
      have hz : pVal x 0 x.length = 0 := lN_inj hv' (by decide) h
      obtain ⟨n, hn⟩ : ∃ n, x.length = n + 1 := ⟨x.length - 1, by have := hx.1; omega⟩
      have h0 := hx.2.2.1 0 (by omega)
      rw [hn, pVal] at hz
      omega
    · intro h; have := hx.2.1; omega
/-- the settings of the class: RULES that are on, names that are given -/
def gSt (M : xMem) (g : Nat) (on : Nat → Bool) (gv : List (List Nat)) : Prop := M.1 g 1 = nI gv.length ∧ gv.length ≤ 8 ∧ rBits (fun r => on r = true) (M.1 g 2) ∧ (∀ i, i < gv.length → M.2.1 (g + 1) i = gOc (gv.getD i [])) ∧ ∀ x, x ∈ gv → gNm x
theorem getD_mem {gv : List (List Nat)} {i : Nat} (h : i < gv.length) : gv.getD i [] ∈ gv := by
  rw [List.getD_eq_getElem?_getD, List.getElem?_eq_getElem h]; exact List.getElem_mem h
/-- from the v-th on -/
theorem any_from {gv : List (List Nat)} {x : List Nat} : x ∈ gv ↔ ∃ i, i < gv.length ∧ gv.getD i [] = x := by
  constructor
  · intro h
    obtain ⟨i, hi, e⟩ := List.mem_iff_getElem.mp h
    exact ⟨i, hi, by rw [List.getD_eq_getElem?_getD, List.getElem?_eq_getElem hi]; exact e⟩
  · intro ⟨i, hi, e⟩; rw [← e]; exact getD_mem hi
theorem p_isGiven_2 {M : xMem} {g : Nat} {on : Nat → Bool} {gv : List (List Nat)} {w : Int64} {x : List Nat} (h : gSt M g on gv) (hw : ∀ y, y ∈ gv → (gOc y = w ↔ x = y)) : ∀ (m v fuel : Nat), v + m = gv.length → m < fuel → (∀ i, i < v → gv.getD i [] ≠ x) → f_G_isGiven_2 g w fuel (nI v) M = some (bI (decide (x ∈ gv)), M) := by
  obtain ⟨h1, h2, h3, h4, h5⟩ := h
  intro m
  induction m with
  | zero =>
    intro v fuel hv hf hq
    obtain ⟨f, rfl⟩ : ∃ f, fuel = f + 1 := ⟨fuel - 1, by omega⟩
    rw [f_G_isGiven_2, if_pos (show M.1 g 1 ≤ nI v by rw [h1]; exact nI_le (by omega) (by omega)), decide_eq_false]
    · rfl
    · intro hm
      obtain ⟨i, hi, e⟩ := any_from.mp hm
      exact hq i (by omega) e
  | succ m ih =>
    intro v fuel hv hf hq
    obtain ⟨f, rfl⟩ : ∃ f, fuel = f + 1 := ⟨fuel - 1, by omega⟩
    have hvl : v < gv.length := by omega
    have mem := getD_mem hvl
    have iff := hw _ mem
    rw [f_G_isGiven_2, if_neg (show ¬ M.1 g 1 ≤ nI v by rw [h1]; exact nI_ge (by omega) (by omega)), if_pos (xin_T (by omega) (by omega)), nI_clampT (by omega), h4 v hvl]
    have lg : lg_cmp (gOc (gv.getD v [])) w = 0 ↔ x = gv.getD v [] := by rw [lg_cmp_0]; exact iff
    by_cases c : x = gv.getD v []
    · rw [if_pos (lg.mpr c), decide_eq_true (by rw [c]; exact mem)]; rfl
    · rw [if_neg (fun e => c (lg.mp e)), nI_inc]
      refine ih (v + 1) f (by omega) (by omega) ?_
      intro i hi
      by_cases e : i = v
      · subst e; exact fun e => c e.symm
      · exact hq i (by omega)
theorem p_G_isGiven {M : xMem} {g : Nat} {on : Nat → Bool} {gv : List (List Nat)} {w : Int64} {x : List Nat} (h : gSt M g on gv) (hw : ∀ y, y ∈ gv → (gOc y = w ↔ x = y)) : f_G_isGiven g w M = some (bI (decide (x ∈ gv)), M) :=
  p_isGiven_2 h hw gv.length 0 xFuel (by omega) (by have := h.2.1; unfold xFuel; omega) (fun i hi => absurd hi (by omega))
/-- RULE c % 10 marks TOKEN c / 10 -/
def sMk (K : qL) (c : Nat) : Bool := (K (10 + c % 10)).any (fun e => e.1 == c / 10)
/-- the excuses that hold there -/
def sEx (l : List qE) (c : Nat) : Bool := l.any (fun e => e.1 == c % 10 && (decide (e.2.1 ≤ c / 10) && decide (c / 10 < e.2.2.1)))
/-- may it be found with these settings -/
def sOn (on : Nat → Bool) (gv : List (List Nat)) (t : List Nat) (c : Nat) : Bool := on (c % 10) && !(decide (c % 10 = 0) && decide (pW t (c / 10) ∈ gv))
def sFd (on : Nat → Bool) (gv : List (List Nat)) (t : List Nat) (l : List qE) (c : Nat) : Bool := sOn on gv t c && !sEx l c
def sXd (on : Nat → Bool) (gv : List (List Nat)) (t : List Nat) (l : List qE) (c : Nat) : Bool := sOn on gv t c && sEx l c
theorem code_mod {p r : Nat} (h : r < 10) : (10 * p + r) % 10 = r ∧ (10 * p + r) / 10 = p := by omega
theorem sMk_iff {K : qL} {p r : Nat} (h : r < 10) : sMk K (10 * p + r) = true ↔ ∃ e, e ∈ K (10 + r) ∧ e.1 = p := by
  unfold sMk
  rw [(code_mod h).1, (code_mod h).2, List.any_eq_true]
  constructor
  · intro ⟨e, h1, h2⟩; exact ⟨e, h1, by simpa using h2⟩
  · intro ⟨e, h1, h2⟩; exact ⟨e, h1, by simpa using h2⟩
theorem sEx_iff {l : List qE} {p r : Nat} (h : r < 10) : sEx l (10 * p + r) = true ↔ ∃ e, e ∈ l ∧ e.1 = r ∧ e.2.1 ≤ p ∧ p < e.2.2.1 := by
  unfold sEx
  rw [(code_mod h).1, (code_mod h).2, List.any_eq_true]
  constructor
  · intro ⟨e, h1, h2⟩; exact ⟨e, h1, by simpa using h2⟩
  · intro ⟨e, h1, h2⟩; exact ⟨e, h1, by simpa using h2⟩
theorem sOn_iff {on : Nat → Bool} {gv : List (List Nat)} {t : List Nat} {p r : Nat} (h : r < 10) : sOn on gv t (10 * p + r) = true ↔ on r = true ∧ ¬ (r = 0 ∧ pW t p ∈ gv) := by
  unfold sOn
  rw [(code_mod h).1, (code_mod h).2]
  by_cases c : r = 0 <;> by_cases c2 : pW t p ∈ gv <;> simp [c, c2]
