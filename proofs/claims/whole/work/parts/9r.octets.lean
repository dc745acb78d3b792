/-! PURE: the octets of a long -/
def oc (N k : Nat) : Nat := N / 2 ^ (8 * k) % 256
theorem oc_lt (N k : Nat) : oc N k < 256 := Nat.mod_lt _ (by decide)
theorem mul8 : ∀ k, k < 8 → (8 : Int32) * nI k = nI (8 * k) := by decide
theorem and255n (m : Nat) : m &&& 255 = m % 256 := Nat.and_two_pow_sub_one_eq_mod m 8
theorem p_octet {M : xMem} {N k : Nat} (hN : N < 2 ^ 64) (hk : k < 8) : f_D_octet (lN N) (nI k) M = some (nI (oc N k), M) := by
  unfold f_D_octet
  rw [mul8 k hk, wb_shr hN (by omega), lN_i]
  have e : (255 : Int32) = nI 255 := rfl
  rw [e, nI_and, and255n]; rfl
theorem r_octet {M : xMem} {N k : Nat} (hN : N < 2 ^ 64) (hk : k < 8) : f_N_octet (lN N) (nI k) M = some (nI (oc N k), M) := by
  unfold f_N_octet
  rw [mul8 k hk, wb_shr hN (by omega)]
  have e : (255 : Int64) = lN 255 := rfl
  have lt : N / 2 ^ (8 * k) < 2 ^ 64 := Nat.lt_of_le_of_lt (Nat.div_le_self _ _) hN
  rw [e, wb_and lt (by decide), and255n, lN_i]; rfl
/-- the letters of a long: up to the first octet that is 0 -/
def wOf (N : Nat) : List Nat := ((List.range 8).map (oc N)).takeWhile (fun c => c != 0)
theorem wOf_len (N : Nat) : (wOf N).length ≤ 8 := by
  unfold wOf
  have := List.takeWhile_sublist (l := (List.range 8).map (oc N)) (fun c => c != 0)
  have := this.length_le
  simpa using this
theorem pc_map {N i : Nat} (h : i < 8) : pc ((List.range 8).map (oc N)) i = oc N i := by
  unfold pc
  rw [List.getD_eq_getElem?_getD, List.getElem?_map, List.getElem?_range h]; rfl
theorem wOf_scan (N : Nat) : pScan (fun c => c != 0) ((List.range 8).map (oc N)) 0 = (wOf N).length := by
  unfold pScan wOf; simp
theorem wOf_spec (N : Nat) : (∀ i, i < (wOf N).length → oc N i ≠ 0) ∧ ((wOf N).length < 8 → oc N (wOf N).length = 0) := by
  have h8 := wOf_len N
  have := (pScan_iff0 (f := fun c => c != 0) (t := (List.range 8).map (oc N)) rfl (wOf N).length 0).mp (by rw [wOf_scan]; omega)
  refine ⟨fun i hi => ?_, fun h => ?_⟩
  · have := this.1 i hi
    rw [Nat.zero_add, pc_map (by omega)] at this
    simpa using this
  · have := this.2
    rw [Nat.zero_add, pc_map h] at this
    simpa using this
theorem tw_at {f : Nat → Bool} : ∀ (l : List Nat) (i : Nat), i < (l.takeWhile f).length → pc (l.takeWhile f) i = pc l i := by
  intro l
  induction l with
  | nil => intro i hi; exact absurd hi (by simp)
  | cons a l ih =>
    intro i hi
    rw [List.takeWhile_cons] at hi ⊢
    split
    · rename_i c
      rw [if_pos c] at hi
      cases i with
      | zero => rfl
      | succ i => exact ih i (by simpa using hi)
    · rename_i c
      rw [if_neg c] at hi
      exact absurd hi (by simp)
theorem wOf_at {N i : Nat} (h : i < (wOf N).length) : pc (wOf N) i = oc N i := by
  have h8 := wOf_len N
  rw [← pc_map (N := N) (by omega)]
  exact tw_at _ i h
theorem wOf_256 (N : Nat) : ∀ i, pc (wOf N) i < 256 := by
  intro i
  by_cases c : i < (wOf N).length
  · rw [wOf_at c]; exact oc_lt N i
  · rw [pc_end (by omega)]; decide
theorem p_octetsIn_2 {M : xMem} {N : Nat} (hN : N < 2 ^ 64) : ∀ (m k f : Nat), k + m = (wOf N).length → m < f → f_D_octetsIn_2 (lN N) f (nI k) M = some (nI (wOf N).length, M) := by
  have h8 := wOf_len N
  have sp := wOf_spec N
  intro m
  induction m with
  | zero =>
    intro k f e hf
    obtain ⟨g, ef⟩ : ∃ g, f = g + 1 := ⟨f - 1, by omega⟩
    subst ef
    have ek : k = (wOf N).length := by omega
    subst ek
    rw [f_D_octetsIn_2]
    by_cases c : (wOf N).length = 8
    · rw [if_pos (show (8 : Int32) ≤ nI (wOf N).length from nI_le (a := 8) (by omega) (by omega))]
    · rw [if_neg (show ¬ (8 : Int32) ≤ nI (wOf N).length from nI_ge (b := 8) (by omega) (by omega)), p_octet hN (by omega), xb_some, sp.2 (by omega), if_pos (show nI 0 = 0 from rfl)]
  | succ m ih =>
    intro k f e hf
    obtain ⟨g, ef⟩ : ∃ g, f = g + 1 := ⟨f - 1, by omega⟩
    subst ef
    have e1 : nI k + Int32.ofInt 1 = nI (k + 1) := nI_1 k
    have nz := sp.1 k (by omega)
    have lt := oc_lt N k
    rw [f_D_octetsIn_2, if_neg (show ¬ (8 : Int32) ≤ nI k from nI_ge (b := 8) (by omega) (by omega)), p_octet hN (by omega), xb_some, if_neg (nI_nz (by omega) (by omega)), e1]
    exact ih (k + 1) g (by omega) (by omega)
theorem r_sizeOf_2 {M : xMem} {N : Nat} (hN : N < 2 ^ 64) : ∀ (m k f : Nat), k + m = (wOf N).length → m < f → f_N_sizeOf_2 (lN N) f (nI k) M = some (nI (wOf N).length, M) := by
  have h8 := wOf_len N
  have sp := wOf_spec N
  intro m
  induction m with
  | zero =>
    intro k f e hf
    obtain ⟨g, ef⟩ : ∃ g, f = g + 1 := ⟨f - 1, by omega⟩
    subst ef
    have ek : k = (wOf N).length := by omega
    subst ek
    rw [f_N_sizeOf_2]
    by_cases c : (wOf N).length = 8
    · rw [if_pos (show (8 : Int32) ≤ nI (wOf N).length from nI_le (a := 8) (by omega) (by omega))]
    · rw [if_neg (show ¬ (8 : Int32) ≤ nI (wOf N).length from nI_ge (b := 8) (by omega) (by omega)), r_octet hN (by omega), xb_some, sp.2 (by omega), if_pos (show nI 0 = 0 from rfl)]
  | succ m ih =>
    intro k f e hf
    obtain ⟨g, ef⟩ : ∃ g, f = g + 1 := ⟨f - 1, by omega⟩
    subst ef
    have e1 : nI k + Int32.ofInt 1 = nI (k + 1) := nI_1 k
    have nz := sp.1 k (by omega)
    have lt := oc_lt N k
    rw [f_N_sizeOf_2, if_neg (show ¬ (8 : Int32) ≤ nI k from nI_ge (b := 8) (by omega) (by omega)), r_octet hN (by omega), xb_some, if_neg (nI_nz (by omega) (by omega)), e1]
    exact ih (k + 1) g (by omega) (by omega)
theorem p_octetsIn {M : xMem} {N : Nat} (hN : N < 2 ^ 64) : f_D_octetsIn (lN N) M = some (nI (wOf N).length, M) := by
  have h8 := wOf_len N
  unfold f_D_octetsIn
  exact p_octetsIn_2 hN (wOf N).length 0 xFuel (by omega) (by have := xFuel_200; omega)
theorem r_sizeOf {M : xMem} {N : Nat} (hN : N < 2 ^ 64) : f_N_sizeOf (lN N) M = some (nI (wOf N).length, M) := by
  have h8 := wOf_len N
  unfold f_N_sizeOf
  exact r_sizeOf_2 hN (wOf N).length 0 xFuel (by omega) (by have := xFuel_200; omega)
theorem cast16' : ∀ c, c < 256 → ((nI c).toUInt32 % 65536).toInt32 = nI c := by decide +kernel
theorem cast16 {c : Nat} (h : c < 256) : ((nI c).toUInt32 % 65536).toInt32 = nI c := cast16' c h
/-! write -/
def pLet (c : Nat) : Bool := c == 10 || decide (32 ≤ c ∧ c ≤ 126)
theorem p_areLetters_2 {M : xMem} {N s : Nat} (hN : N < 2 ^ 64) (hs : s ≤ 8) : ∀ (m k f : Nat), k + m = s → m < f → (∀ i, i < k → pLet (oc N i) = true) → f_D_areLetters_2 (lN N) (nI s) f (nI k) M = some (bI (decide (∀ i, i < s → pLet (oc N i) = true)), M) := by
  intro m
  induction m with
  | zero =>
    intro k f e hf hk
    obtain ⟨g, ef⟩ : ∃ g, f = g + 1 := ⟨f - 1, by omega⟩
    subst ef
    rw [f_D_areLetters_2, if_pos (nI_le (by omega) (by omega)), decide_eq_true (fun i hi => hk i (by omega))]
    rfl
  | succ m ih =>
    intro k f e hf hk
    obtain ⟨g, ef⟩ : ∃ g, f = g + 1 := ⟨f - 1, by omega⟩
    subst ef
    have e1 : nI k + Int32.ofInt 1 = nI (k + 1) := nI_1 k
    have lt := oc_lt N k
    rw [f_D_areLetters_2, if_neg (nI_ge (by omega) (by omega)), p_octet hN (by omega), xb_some]
    unfold f_D_areLetters_37
    rw [e1]
    have next : pLet (oc N k) = true → f_D_areLetters_2 (lN N) (nI s) g (nI (k + 1)) M = some (bI (decide (∀ i, i < s → pLet (oc N i) = true)), M) := fun hp => ih (k + 1) g (by omega) (by omega) (fun i hi => by
      by_cases c : i = k
      · rw [c]; exact hp
      · exact hk i (by omega))
    have no : pLet (oc N k) = false → some ((0 : Int32), M) = some (bI (decide (∀ i, i < s → pLet (oc N i) = true)), M) := fun hp => by
      rw [decide_eq_false (fun h => by have := h k (by omega); rw [hp] at this; cases this)]; rfl
    by_cases c10 : oc N k = 10
    · rw [if_pos (show nI (oc N k) = 10 by rw [c10]; rfl)]
      exact next (by unfold pLet; simp [c10])
    · rw [if_neg (show ¬ nI (oc N k) = 10 from fun e => c10 ((nI_eq (b := 10) (by omega) (by omega)).mp e))]
      by_cases c32 : oc N k < 32
      · rw [if_pos (show nI (oc N k) < 32 from nI_lt (b := 32) c32 (by omega))]
        exact no (by unfold pLet; simp [c10]; omega)
      · rw [if_neg (show ¬ nI (oc N k) < 32 from nI_nlt (b := 32) (by omega) (by omega))]
        by_cases c126 : oc N k ≤ 126
        · rw [if_pos (show nI (oc N k) ≤ 126 from nI_le (b := 126) c126 (by omega))]
          exact next (by unfold pLet; simp [c10]; omega)
        · rw [if_neg (show ¬ nI (oc N k) ≤ 126 from nI_ge (a := 126) (by omega) (by omega))]
          exact no (by unfold pLet; simp [c10]; omega)
theorem p_areLetters {M : xMem} {N s : Nat} (hN : N < 2 ^ 64) (hs : s ≤ 8) : f_D_areLetters (lN N) (nI s) M = some (bI (decide (∀ i, i < s → pLet (oc N i) = true)), M) := by
  unfold f_D_areLetters
  exact p_areLetters_2 hN hs s 0 xFuel (by omega) (by have := xFuel_200; omega) (fun i hi => by omega)
theorem sl_8 {N k : Nat} (h : k < (wOf N).length) : sl (wOf N) k (wOf N).length = oc N k :: sl (wOf N) (k + 1) (wOf N).length := by
  rw [sl_step h (Nat.le_refl _), wOf_at h]
theorem p_write_55 {b N : Nat} (hN : N < 2 ^ 64) : ∀ (m k f : Nat) (M : xMem) (x : List Nat), k + m = (wOf N).length → m < f → pTx M (b + 1) x → x.length + m ≤ 160 → ∃ M', f_D_write_55 b (lN N) f (nI (wOf N).length) (nI k) M = some (.inl (nI (x.length + m)), M') ∧ pTx M' (b + 1) (x ++ sl (wOf N) k (wOf N).length) ∧ pFr (b + 1) (b + 3) M M' := by
  have h8 := wOf_len N
  intro m
  induction m with
  | zero =>
    intro k f M x e hf hx hl
    obtain ⟨g, ef⟩ : ∃ g, f = g + 1 := ⟨f - 1, by omega⟩
    subst ef
    refine ⟨M, ?_, by rw [sl_nil (by omega), List.append_nil]; exact hx, .rfl⟩
    rw [f_D_write_55, if_pos (nI_le (by omega) (by omega)), hx.1]; rfl
  | succ m ih =>
    intro k f M x e hf hx hl
    obtain ⟨g, ef⟩ : ∃ g, f = g + 1 := ⟨f - 1, by omega⟩
    subst ef
    have e1 : nI k + Int32.ofInt 1 = nI (k + 1) := nI_1 k
    have lt := oc_lt N k
    obtain ⟨M1, o1, o2, o3⟩ := p_add hx (by omega) lt
    obtain ⟨M2, w1, w2, w3⟩ := ih (k + 1) g M1 (x ++ [oc N k]) (by omega) (by omega) o2 (by rw [app1]; omega)
    refine ⟨M2, ?_, ?_, o3.trans w3⟩
    · rw [f_D_write_55, if_neg (nI_ge (by omega) (by omega)), p_octet hN (by omega), xb_some, cast16 lt, o1, xb_some, e1, w1, app1]
      rw [show x.length + 1 + m = x.length + (m + 1) by omega]
    · rw [sl_8 (by omega)]
      rw [List.append_assoc] at w2
      exact w2
