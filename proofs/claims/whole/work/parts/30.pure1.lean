/-! PURE: numbers, texts -/
theorem xin_nI {i n : Nat} (h : i < n) (hn : n < 2 ^ 31) : xin (nI i) n = true := by
  unfold xin
  rw [nI_toInt (by omega)]
  exact decide_eq_true ⟨by omega, by omega⟩
theorem xnar_char {c : Nat} (h : c < 65536) : xnar .char (nI c) = true := decide_eq_true (pk_charN h).1
theorem nI_le' {a b : Nat} (ha : a < 2 ^ 31) (hb : b < 2 ^ 31) : (nI a ≤ nI b) = (a ≤ b) := propext (nI_leI ha hb)
theorem nI_lt' {a b : Nat} (ha : a < 2 ^ 31) (hb : b < 2 ^ 31) : (nI a < nI b) = (a < b) := propext (nI_ltI ha hb)
theorem nI_eq' {a b : Nat} (ha : a < 2 ^ 31) (hb : b < 2 ^ 31) : (nI a = nI b) = (a = b) := propext (nI_eq ha hb)
theorem nI_lit (n : Nat) : (OfNat.ofNat n : Int32) = nI n := rfl
/-- letter k of a text; 0 where there is none -/
def pc (t : List Nat) (k : Nat) : Nat := t.getD k 0
theorem pc_end {t : List Nat} {k : Nat} (h : t.length ≤ k) : pc t k = 0 := xgd h
/-- the Letters at b hold the text t -/
def pTx (M : xMem) (b : Nat) (t : List Nat) : Prop := M.1 b 1 = nI t.length ∧ t.length ≤ 160 ∧ (∀ i, i < t.length → M.1 (b + 1) i = nI (pc t i)) ∧ ∀ i, pc t i < 256
theorem p_L_at {M : xMem} {b : Nat} {t : List Nat} (h : pTx M b t) {j : Nat} (hj : j < 2 ^ 31) : f_L_at b (nI j) M = some (nI (pc t j), M) := by
  obtain ⟨h1, h2, h3, h4⟩ := h
  unfold f_L_at
  rw [if_neg (nI_pos hj), h1]
  by_cases q : t.length ≤ j
  · rw [if_pos (nI_le q hj)]
    rw [pc_end q]; rfl
  · have q : j < t.length := by omega
    rw [if_neg (nI_ge q (by omega)), if_pos (xin_nI (by omega) (by decide)), nI_clamp hj, h3 j q, if_pos (xnar_char (by have := h4 j; omega))]
def pBlank (c : Nat) : Bool := c == 32 || c == 10
def pSmall (c : Nat) : Bool := decide (97 ≤ c ∧ c ≤ 122)
def pDigit (c : Nat) : Bool := decide (48 ≤ c ∧ c ≤ 57)
def bI (b : Bool) : Int32 := if b then 1 else 0
theorem bI_0 (b : Bool) : (bI b = 0) = (b = false) := by cases b <;> simp [bI]
theorem nI_inc (k : Nat) : nI k + Int32.ofInt 1 = nI (k + 1) := nI_1 k
theorem p_isBlank {M : xMem} {c : Nat} (hc : c < 256) : f_D_isBlank (nI c) M = some (bI (pBlank c), M) := by
  have e : f_D_isBlank (nI c) M = (if nI c = nI 32 then some (1, M) else if nI c = nI 10 then some (1, M) else some (0, M)) := rfl
  rw [e]
  simp only [nI_eq (a := c) (b := 32) (by omega) (by decide), nI_eq (a := c) (b := 10) (by omega) (by decide)]
  by_cases h : c = 32
  · simp [h, pBlank, bI]
  · by_cases h2 : c = 10
    · simp [h2, pBlank, bI]
    · simp [h, h2, pBlank, bI]
theorem p_isSmall {M : xMem} {c : Nat} (hc : c < 256) : f_D_isSmall (nI c) M = some (bI (pSmall c), M) := by
  have e : f_D_isSmall (nI c) M = (if nI c < nI 97 then some (0, M) else if nI 122 < nI c then some (0, M) else some (1, M)) := rfl
  rw [e]
  simp only [nI_ltI (a := c) (b := 97) (by omega) (by decide), nI_ltI (a := 122) (b := c) (by decide) (by omega)]
  by_cases h : c < 97
  · have : pSmall c = false := decide_eq_false (by omega)
    rw [if_pos h, this]; rfl
  · by_cases h2 : 122 < c
    · have : pSmall c = false := decide_eq_false (by omega)
      rw [if_neg h, if_pos h2, this]; rfl
    · have : pSmall c = true := decide_eq_true (by omega)
      rw [if_neg h, if_neg h2, this]; rfl
theorem p_isDigit {M : xMem} {c : Nat} (hc : c < 256) : f_D_isDigit (nI c) M = some (bI (pDigit c), M) := by
  have e : f_D_isDigit (nI c) M = (if nI c < nI 48 then some (0, M) else if nI 57 < nI c then some (0, M) else some (1, M)) := rfl
  rw [e]
  simp only [nI_ltI (a := c) (b := 48) (by omega) (by decide), nI_ltI (a := 57) (b := c) (by decide) (by omega)]
  by_cases h : c < 48
  · have : pDigit c = false := decide_eq_false (by omega)
    rw [if_pos h, this]; rfl
  · by_cases h2 : 57 < c
    · have : pDigit c = false := decide_eq_false (by omega)
      rw [if_neg h, if_pos h2, this]; rfl
    · have : pDigit c = true := decide_eq_true (by omega)
      rw [if_neg h, if_neg h2, this]; rfl
/-- behind the letters from k on of which f holds -/
def pScan (f : Nat → Bool) (t : List Nat) (k : Nat) : Nat := k + ((t.drop k).takeWhile f).length
theorem pScan_end {f : Nat → Bool} {t : List Nat} {k : Nat} (h : t.length ≤ k) : pScan f t k = k := by
  unfold pScan; rw [List.drop_eq_nil_of_le h]; rfl
theorem pScan_at {t : List Nat} {k : Nat} (h : k < t.length) : t.drop k = pc t k :: t.drop (k + 1) := by
  unfold pc; rw [List.drop_eq_getElem_cons h, List.getD_eq_getElem?_getD, List.getElem?_eq_getElem h]; rfl
theorem pScan_stop {f : Nat → Bool} {t : List Nat} {k : Nat} (h : k < t.length) (hf : f (pc t k) = false) : pScan f t k = k := by
  unfold pScan; rw [pScan_at h, List.takeWhile_cons, hf]; rfl
theorem pScan_go {f : Nat → Bool} {t : List Nat} {k : Nat} (h : k < t.length) (hf : f (pc t k) = true) : pScan f t k = pScan f t (k + 1) := by
  unfold pScan; rw [pScan_at h, List.takeWhile_cons, hf]; simp; omega
theorem pScan_le {f : Nat → Bool} {t : List Nat} {k : Nat} (h : k ≤ t.length) : pScan f t k ≤ t.length := by
  unfold pScan
  have h1 := (List.takeWhile_sublist (p := f) (l := t.drop k)).length_le
  rw [List.length_drop] at h1
  omega
theorem p_behindBlanks_2 {M : xMem} {b : Nat} {t : List Nat} (h : pTx M b t) (p1 : Int32) : ∀ (n k : Nat), k < 1000 → t.length - k < n → f_L_behindBlanks_2 b p1 n (nI k) M = some (nI (pScan pBlank t k), M) := by
  intro n
  induction n with
  | zero => intro k hk hn; omega
  | succ n ih =>
    intro k hk hn
    have h1 := h.1
    have h2 := h.2.1
    simp only [f_L_behindBlanks_2]
    rw [h1]
    by_cases q : t.length ≤ k
    · rw [if_pos (nI_le q (by omega)), pScan_end q]
    · have q : k < t.length := by omega
      rw [if_neg (nI_ge q (by omega)), p_L_at h (by omega)]
      simp only [xbind]
      rw [p_isBlank (h.2.2.2 k)]
      simp only [bI_0]
      cases hb : pBlank (pc t k) with
      | false => rw [if_pos rfl, pScan_stop q hb]
      | true => rw [if_neg (by decide), nI_inc, ih (k + 1) (by omega) (by omega), pScan_go q hb]
theorem p_behindBlanks {M : xMem} {b : Nat} {t : List Nat} (h : pTx M b t) {k : Nat} (hk : k < 1000) : f_L_behindBlanks b (nI k) M = some (nI (pScan pBlank t k), M) := by
  have h2 := h.2.1
  exact p_behindBlanks_2 h _ 2000 k hk (by omega)
theorem p_behindNumber_2 {M : xMem} {b : Nat} {t : List Nat} (h : pTx M b t) (p1 : Int32) : ∀ (n k : Nat), k < 1000 → t.length - k < n → f_L_behindNumber_2 b p1 n (nI k) M = some (nI (pScan pDigit t k), M) := by
  intro n
  induction n with
  | zero => intro k hk hn; omega
  | succ n ih =>
    intro k hk hn
    have h1 := h.1
    have h2 := h.2.1
    simp only [f_L_behindNumber_2]
    rw [h1]
    by_cases q : t.length ≤ k
    · rw [if_pos (nI_le q (by omega)), pScan_end q]
    · have q : k < t.length := by omega
      rw [if_neg (nI_ge q (by omega)), p_L_at h (by omega)]
      simp only [xbind]
      rw [p_isDigit (h.2.2.2 k)]
      simp only [bI_0]
      cases hb : pDigit (pc t k) with
      | false => rw [if_pos rfl, pScan_stop q hb]
      | true => rw [if_neg (by decide), nI_inc, ih (k + 1) (by omega) (by omega), pScan_go q hb]
theorem p_behindNumber {M : xMem} {b : Nat} {t : List Nat} (h : pTx M b t) {k : Nat} (hk : k < 1000) : f_L_behindNumber b (nI k) M = some (nI (pScan pDigit t k), M) := by
  have h2 := h.2.1
  exact p_behindNumber_2 h _ 2000 k hk (by omega)
def pWordC (c : Nat) : Bool := pSmall c || pDigit c
theorem p_behindWord_2 {M : xMem} {b : Nat} {t : List Nat} (h : pTx M b t) (p1 : Int32) : ∀ (n k : Nat), k < 1000 → t.length - k < n → f_L_behindWord_2 b p1 n (nI k) M = some (nI (pScan pWordC t k), M) := by
  intro n
  induction n with
  | zero => intro k hk hn; omega
  | succ n ih =>
    intro k hk hn
    have h1 := h.1
    have h2 := h.2.1
    simp only [f_L_behindWord_2, f_L_behindWord_32]
    rw [h1]
    by_cases q : t.length ≤ k
    · rw [if_pos (nI_le q (by omega)), pScan_end q]
    · have q : k < t.length := by omega
      have hgo : pWordC (pc t k) = true → f_L_behindWord_2 b p1 n (nI k + Int32.ofInt 1) M = some (nI (pScan pWordC t k), M) := fun hb => by
        rw [nI_inc, ih (k + 1) (by omega) (by omega), pScan_go q hb]
      rw [if_neg (nI_ge q (by omega)), p_L_at h (by omega)]
      simp only [xbind]
      rw [p_isSmall (h.2.2.2 k)]
      simp only [bI_0]
      cases hs : pSmall (pc t k) with
      | true => rw [if_neg (by decide)]; exact hgo (by unfold pWordC; rw [hs]; rfl)
      | false =>
        rw [if_pos rfl, p_L_at h (by omega)]
        dsimp only
        rw [p_isDigit (h.2.2.2 k)]
        simp only [bI_0]
        cases hd : pDigit (pc t k) with
        | true => rw [if_neg (by decide)]; exact hgo (by unfold pWordC; rw [hs, hd]; rfl)
        | false => rw [if_pos rfl, pScan_stop q (by unfold pWordC; rw [hs, hd]; rfl)]
theorem p_behindWord {M : xMem} {b : Nat} {t : List Nat} (h : pTx M b t) {k : Nat} (hk : k < 1000) : f_L_behindWord b (nI k) M = some (nI (pScan pWordC t k), M) := by
  have h2 := h.2.1
  exact p_behindWord_2 h _ 2000 k hk (by omega)
/-- a TEXT's inside -/
def pIn (c : Nat) : Bool := c != 39 && c != 10
/-- behind the TEXT that begins at k; k itself if it has no end -/
def pTextEnd (t : List Nat) (k : Nat) : Nat := if pc t (pScan pIn t (k + 1)) = 39 then pScan pIn t (k + 1) + 1 else k
theorem p_behindText_4 {M : xMem} {b : Nat} {t : List Nat} (h : pTx M b t) (p1 : Nat) : ∀ (n k : Nat), k < 1000 → t.length - k < n → f_L_behindText_4 b (nI p1) n (nI k) M = some (nI (if pc t (pScan pIn t k) = 39 then pScan pIn t k + 1 else p1), M) := by
  intro n
  induction n with
  | zero => intro k hk hn; omega
  | succ n ih =>
    intro k hk hn
    have h1 := h.1
    have h2 := h.2.1
    simp only [f_L_behindText_4]
    rw [h1]
    by_cases q : t.length ≤ k
    · rw [if_pos (nI_le q (by omega)), pScan_end q, pc_end q, if_neg (by decide)]
    · have q : k < t.length := by omega
      have hc := h.2.2.2 k
      rw [if_neg (nI_ge q (by omega)), p_L_at h (by omega)]
      simp only [xbind]
      have e10 : (nI (pc t k) = 10) = (pc t k = 10) := propext (nI_eq (a := pc t k) (b := 10) (by omega) (by decide))
      have e39 : (nI (pc t k) = 39) = (pc t k = 39) := propext (nI_eq (a := pc t k) (b := 39) (by omega) (by decide))
      simp only [e10, e39]
      by_cases c10 : pc t k = 10
      · have hs : pIn (pc t k) = false := by rw [c10]; rfl
        rw [if_pos c10, pScan_stop q hs, if_neg (by omega)]
      · rw [if_neg c10, p_L_at h (by omega)]
        dsimp only
        simp only [e39]
        by_cases c39 : pc t k = 39
        · have hs : pIn (pc t k) = false := by rw [c39]; rfl
          rw [if_pos c39, pScan_stop q hs, if_pos c39, nI_1]
        · have hs : pIn (pc t k) = true := by simp [pIn, c10, c39]
          rw [if_neg c39, nI_inc, ih (k + 1) (by omega) (by omega), pScan_go q hs]
theorem p_behindText {M : xMem} {b : Nat} {t : List Nat} (h : pTx M b t) {k : Nat} (hk : k < 900) : f_L_behindText b (nI k) M = some (nI (pTextEnd t k), M) := by
  have h2 := h.2.1
  have e : f_L_behindText b (nI k) M = f_L_behindText_4 b (nI k) 2000 (nI k + 1) M := rfl
  rw [e, nI_1, p_behindText_4 h k 2000 (k + 1) (by omega) (by omega)]
  rfl
