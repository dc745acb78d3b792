/-! PURE: give: the class -/
theorem pVal_oc {N : Nat} {u : List Nat} : ∀ (m i : Nat), (∀ j, j < m → pc u (i + j) = oc N (i + j)) → pVal u i m = N / 2 ^ (8 * i) % 2 ^ (8 * m) := by
  intro m
  induction m with
  | zero => intro i _; simp [pVal, Nat.mod_one]
  | succ m ih =>
    intro i h
    have h0 : pc u i = oc N i := h 0 (by omega)
    rw [pVal, h0, ih (i + 1) (fun j hj => by have := h (j + 1) (by omega); rw [show i + 1 + j = i + (j + 1) by omega]; exact this)]
    unfold oc
    have e1 : 2 ^ (8 * (i + 1)) = 2 ^ (8 * i) * 256 := by rw [show 8 * (i + 1) = 8 * i + 8 by omega, Nat.pow_add]
    have e2 : 2 ^ (8 * (m + 1)) = 256 * 2 ^ (8 * m) := by rw [show 8 * (m + 1) = 8 + 8 * m by omega, Nat.pow_add]
    rw [e1, e2, ← Nat.div_div_eq_div_mul]
    generalize N / 2 ^ (8 * i) = A
    rw [Nat.mod_mul]
    omega
theorem wOf_val {N : Nat} : pVal (wOf N) 0 (wOf N).length = N % 2 ^ (8 * (wOf N).length) := by
  rw [pVal_oc (N := N) (wOf N).length 0 (fun j hj => by rw [Nat.zero_add]; exact wOf_at hj)]
  simp
theorem p_firstOctets {M : xMem} {N : Nat} (hN : N < 2 ^ 64) : f_D_firstOctets (lN N) (nI (wOf N).length) M = some (gOc (wOf N), M) := by
  have h8 := wOf_len N
  unfold f_D_firstOctets gOc
  rw [wOf_val]
  by_cases c : (wOf N).length = 8
  · rw [if_pos (show (8 : Int32) ≤ nI (wOf N).length from nI_le (a := 8) (by omega) (by omega)), c, Nat.mod_eq_of_lt hN]
  · rw [if_neg (show ¬ (8 : Int32) ≤ nI (wOf N).length from nI_ge (b := 8) (by omega) (by omega)), mul8 _ (by omega)]
    have e1 : (1 : Int64) = lN 1 := rfl
    have p1 : 1 ≤ 2 ^ (8 * (wOf N).length) := Nat.pow_pos (by decide)
    rw [e1, wb_shl 1 (by omega), Nat.one_mul, lN_sub p1, wb_mask hN (by omega)]
def wW (N : Nat) : Bool := pSmall (oc N 0) && decide (∀ i, i < (wOf N).length → pWordC (oc N i) = true)
theorem p_isWord_15 {M : xMem} {N : Nat} (hN : N < 2 ^ 64) : ∀ (m k f : Nat), k + m = (wOf N).length → m < f → (∀ i, i < k → pWordC (oc N i) = true) → f_D_isWord_15 (lN N) (nI (wOf N).length) f (nI k) M = some (bI (decide (∀ i, i < (wOf N).length → pWordC (oc N i) = true)), M) := by
  have h8 := wOf_len N
  intro m
  induction m with
  | zero =>
    intro k f e hf hk
    obtain ⟨g, ef⟩ : ∃ g, f = g + 1 := ⟨f - 1, by omega⟩
    subst ef
    rw [f_D_isWord_15, if_pos (nI_le (by omega) (by omega)), decide_eq_true (fun i hi => hk i (by omega))]
    rfl
  | succ m ih =>
    intro k f e hf hk
    obtain ⟨g, ef⟩ : ∃ g, f = g + 1 := ⟨f - 1, by omega⟩
    subst ef
    have e1 : nI k + Int32.ofInt 1 = nI (k + 1) := nI_1 k
    have lt := oc_lt N k
    have next : pWordC (oc N k) = true → f_D_isWord_15 (lN N) (nI (wOf N).length) g (nI (k + 1)) M = some (bI (decide (∀ i, i < (wOf N).length → pWordC (oc N i) = true)), M) := fun hp => ih (k + 1) g (by omega) (by omega) (fun i hi => by
      by_cases c : i = k
      · rw [c]; exact hp
      · exact hk i (by omega))
    rw [f_D_isWord_15, if_neg (nI_ge (by omega) (by omega)), p_octet hN (by omega), xb_some, p_isSmall lt, xb_some]
    unfold f_D_isWord_44
    rw [e1]
    cases c1 : pSmall (oc N k) with
    | true =>
      rw [if_neg (by decide)]
      exact next (by unfold pWordC; rw [c1]; rfl)
    | false =>
      rw [if_pos (show bI false = 0 from rfl), p_octet hN (by omega), xb_some, p_isDigit lt, xb_some]
      cases c2 : pDigit (oc N k) with
      | true =>
        rw [if_neg (by decide)]
        exact next (by unfold pWordC; rw [c1, c2]; rfl)
      | false =>
        rw [if_pos (show bI false = 0 from rfl), decide_eq_false (fun h => by
          have := h k (by omega)
          unfold pWordC at this
          rw [c1, c2] at this
          cases this)]
        rfl
theorem p_isWord {M : xMem} {N : Nat} (hN : N < 2 ^ 64) : f_D_isWord (lN N) (nI (wOf N).length) M = some (bI (wW N), M) := by
  have h8 := wOf_len N
  have sp := wOf_spec N
  have lt := oc_lt N 0
  have o0 : f_D_octet (lN N) 0 M = some (nI (oc N 0), M) := p_octet (k := 0) hN (by omega)
  unfold f_D_isWord wW
  rw [o0, xb_some, p_isSmall lt, xb_some]
  cases c1 : pSmall (oc N 0) with
  | false => rw [if_pos (show bI false = 0 from rfl)]; rfl
  | true =>
    have l1 : 1 ≤ (wOf N).length := by
      by_cases c : (wOf N).length = 0
      · have := sp.2 (by omega)
        rw [c] at this
        rw [this] at c1
        exact absurd c1 (by decide)
      · omega
    rw [if_neg (by decide), Bool.true_and]
    exact p_isWord_15 hN ((wOf N).length - 1) 1 xFuel (by omega) (by have := xFuel_200; omega) (fun i hi => by
      have : i = 0 := by omega
      subst this
      unfold pWordC; rw [c1]; rfl)
theorem wW_nm {N : Nat} (h : wW N = true) : gNm (wOf N) := by
  have h := Bool.and_eq_true_iff.mp h
  have sp := wOf_spec N
  refine ⟨?_, wOf_len N, fun i hi => by rw [wOf_at hi]; exact sp.1 i hi, wOf_256 N⟩
  by_cases c : (wOf N).length = 0
  · have := sp.2 (by omega)
    rw [c] at this
    rw [this] at h
    exact absurd h.1 (by decide)
  · omega
theorem wOf_oct (N : Nat) : pOct (wOf N) 0 (wOf N).length = gOc (wOf N) := by
  unfold pOct gOc
  have h8 := wOf_len N
  rw [if_pos (by omega)]; rfl
theorem gOc_inj {N : Nat} {y : List Nat} (hy : gNm y) : gOc y = gOc (wOf N) ↔ wOf N = y := by
  have sp := wOf_spec N
  rw [← wOf_oct N, gOc_iff (t := wOf N) (wOf_256 N) hy (fun i _ hi => by rw [wOf_at hi]; exact sp.1 i hi)]
  constructor
  · intro h
    refine pc_ext (by have := h.1; omega) (fun i hi => ?_)
    have := h.2 i (by have := h.1; omega)
    rw [Nat.zero_add] at this
    exact this
  · intro h
    subst h
    exact ⟨by omega, fun i _ => by rw [Nat.zero_add]⟩
/-- what give() of the class does -/
theorem p_give {M : xMem} {b N : Nat} {on : Nat → Bool} {gv : List (List Nat)} (hN : N < 2 ^ 64) (h : gSt M (b + 3) on gv) : f_D_give b (lN N) M = if wW N = true ∧ pKwOf (gOc (wOf N)) = 23 then (if wOf N ∈ gv then some (.inr 1, M) else if gv.length < 8 then some (.inl (nI (gv.length + 1)), wI (wJ M (b + 4) gv.length (gOc (wOf N))) (b + 3) 1 (nI (gv.length + 1))) else some (.inr 2, M)) else some (.inr 0, M) := by
  unfold f_D_give f_D_give_31
  rw [p_octetsIn hN, xb_some, p_firstOctets hN, xb_some, p_isWord hN, xb_some]
  cases c : wW N with
  | false =>
    rw [if_pos (show bI false = 0 from rfl), if_neg (fun h => by cases h.1)]
  | true =>
    have lt := pKwOf_lt (gOc (wOf N))
    rw [if_neg (by decide), p_keywordOf, xb_some, if_pos (by omega)]
    by_cases k : pKwOf (gOc (wOf N)) = 23
    · rw [if_pos k, if_pos ⟨rfl, k⟩, p_G_isGiven (x := wOf N) h (fun y hy => gOc_inj (h.2.2.2.2 y hy)), xb_some]
      by_cases m : wOf N ∈ gv
      · rw [decide_eq_true m, if_neg (by decide), if_pos m]
      · rw [decide_eq_false m, if_pos (show bI false = 0 from rfl), if_neg m, h.1]
        by_cases l : gv.length < 8
        · rw [if_pos (show nI gv.length < 8 from nI_lt (b := 8) l (by omega)), if_pos l]
          have ag : f_G_addGiven (b + 3) (gOc (wOf N)) M = some ((), wI (wJ M (b + 4) gv.length (gOc (wOf N))) (b + 3) 1 (nI (gv.length + 1))) := by
            unfold f_G_addGiven xval xlet
            dsimp only
            have e1 : nI gv.length + 1 = nI (gv.length + 1) := nI_1 _
            rw [h.1, if_neg (show ¬ (8 : Int32) ≤ nI gv.length from nI_ge (b := 8) l (by omega)), if_pos (xin_nI l (by decide)), nI_clamp (by omega), mJ_1, h.1, e1]
          rw [ag, xb_some, mI_s rfl rfl]
        · rw [if_neg (show ¬ nI gv.length < 8 from nI_nlt (b := 8) (by omega) (by have := h.2.1; omega)), if_neg l]
    · rw [if_neg k, if_neg (fun h => k h.2)]
theorem gSt.add {M : xMem} {b N : Nat} {on : Nat → Bool} {gv : List (List Nat)} (h : gSt M (b + 3) on gv) (hl : gv.length < 8) (hw : gNm (wOf N)) : gSt (wI (wJ M (b + 4) gv.length (gOc (wOf N))) (b + 3) 1 (nI (gv.length + 1))) (b + 3) on (gv ++ [wOf N]) := by
  obtain ⟨h1, h2, h3, h4, h5⟩ := h
  refine ⟨by rw [mI_s rfl rfl]; simp, by simp; omega, by rw [mI_k (by decide)]; exact h3, ?_, ?_⟩
  · intro i hi
    have hi : i < gv.length + 1 := by simpa using hi
    show (wJ M (b + 4) gv.length (gOc (wOf N))).2.1 (b + 4) i = _
    by_cases c : i = gv.length
    · subst c
      rw [mJ_s rfl rfl]
      simp
    · rw [mJ_k c, h4 i (by omega)]
      rw [List.getD_eq_getElem?_getD, List.getD_eq_getElem?_getD, List.getElem?_append_left (by omega)]
  · intro x hx
    rcases List.mem_append.mp hx with hx | hx
    · exact h5 x hx
    · rw [List.mem_singleton] at hx
      rw [hx]; exact hw
