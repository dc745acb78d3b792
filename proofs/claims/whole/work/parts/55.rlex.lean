/-! PURE: the reference cuts a text as the class does -/
/-- the text from p to e is x -/
def pSp (t : List Nat) (p e : Nat) (x : List Nat) : Prop := e - p = x.length ∧ ∀ i, i < x.length → pc t (p + i) = pc x i
theorem pVal_inj {t x : List Nat} (ht : ∀ k, pc t k < 256) (hx : ∀ k, pc x k < 256) : ∀ (m m' p q : Nat), (∀ i, i < m → pc t (p + i) ≠ 0) → (∀ i, i < m' → pc x (q + i) ≠ 0) → pVal t p m = pVal x q m' → m = m' ∧ ∀ i, i < m → pc t (p + i) = pc x (q + i) := by
  intro m
  induction m with
  | zero =>
    intro m' p q h1 h2 h
    cases m' with
    | zero => exact ⟨rfl, fun i hi => absurd hi (by omega)⟩
    | succ m' =>
      rw [pVal, pVal] at h
      have := h2 0 (by omega)
      rw [Nat.add_zero] at this
      omega
  | succ m ih =>
    intro m' p q h1 h2 h
    cases m' with
    | zero =>
      rw [pVal, pVal] at h
      have := h1 0 (by omega)
      rw [Nat.add_zero] at this
      omega
    | succ m' =>
      rw [pVal, pVal] at h
      have a1 := ht p
      have a2 := hx q
      have e1 : pc t p = pc x q := by omega
      have e2 : pVal t (p + 1) m = pVal x (q + 1) m' := by omega
      obtain ⟨i1, i2⟩ := ih m' (p + 1) (q + 1) (fun i hi => by have := h1 (i + 1) (by omega); rw [show p + 1 + i = p + (i + 1) by omega]; exact this) (fun i hi => by have := h2 (i + 1) (by omega); rw [show q + 1 + i = q + (i + 1) by omega]; exact this) e2
      refine ⟨by omega, ?_⟩
      intro i hi
      cases i with
      | zero => exact e1
      | succ i =>
        have := i2 i (by omega)
        rw [show p + 1 + i = p + (i + 1) by omega, show q + 1 + i = q + (i + 1) by omega] at this
        exact this
theorem pVal_same {t x : List Nat} : ∀ (m p q : Nat), (∀ i, i < m → pc t (p + i) = pc x (q + i)) → pVal t p m = pVal x q m := by
  intro m
  induction m with
  | zero => intro p q _; rfl
  | succ m ih =>
    intro p q h
    rw [pVal, pVal]
    have h0 := h 0 (by omega)
    rw [Nat.add_zero, Nat.add_zero] at h0
    rw [h0, ih (p + 1) (q + 1) (fun i hi => by have := h (i + 1) (by omega); rw [show p + 1 + i = p + (i + 1) by omega, show q + 1 + i = q + (i + 1) by omega]; exact this)]
theorem pT_oc : ∀ k, k < 8 → xTokOc.getD k 0 = lN (pVal (pT k) 0 (pT k).length) := by decide
theorem pT_kw : ∀ k, k < 8 → (pT k).length ≤ 6 ∧ 2 ≤ (pT k).length := by decide
theorem pT_256 : ∀ k, k < 8 → ∀ i, pc (pT k) i < 256 := by
  intro k hk i
  by_cases h : i < (pT k).length
  · have : ∀ k, k < 8 → ∀ i, i < (pT k).length → pc (pT k) i < 256 := by decide
    exact this k hk i h
  · rw [pc_end (by omega)]; decide
theorem lN_inj {a b : Nat} (ha : a < 2 ^ 64) (hb : b < 2 ^ 64) (h : lN a = lN b) : a = b := by
  have : (lN a).toBitVec.toNat = (lN b).toBitVec.toNat := by rw [h]
  rw [wb_tn ha, wb_tn hb] at this
  exact this
/-- a keyword's octets are those of its letters and of nothing else -/
theorem pOc_kw {t : List Nat} {p e k : Nat} (ht : ∀ i, pc t i < 256) (hk : k < 8) (hn : ∀ i, p ≤ i → i < e → pc t i ≠ 0) : xTokOc.getD k 0 = pOct t p e ↔ pSp t p e (pT k) := by
  have hl := pT_kw k hk
  have hv := pVal_lt (pT_256 k hk) (pT k).length 0
  have hv' : pVal (pT k) 0 (pT k).length < 2 ^ 64 := Nat.lt_of_lt_of_le hv (by
    have : 256 ^ (pT k).length ≤ 256 ^ 8 := Nat.pow_le_pow_right (by decide) (by omega)
    exact this)
  rw [pT_oc k hk]
  unfold pOct pSp
  split
  · rename_i h8
    have hv2 := pVal_lt ht (e - p) p
    have hv2' : pVal t p (e - p) < 2 ^ 64 := Nat.lt_of_lt_of_le hv2 (by
      have : 256 ^ (e - p) ≤ 256 ^ 8 := Nat.pow_le_pow_right (by decide) h8
      exact this)
    constructor
    · intro h
      have h := lN_inj hv' hv2' h
      have := pVal_inj ht (pT_256 k hk) (e - p) (pT k).length p 0 (fun i hi => hn (p + i) (by omega) (by omega)) (fun i hi => by rw [Nat.zero_add]; exact pT_pos k (by omega) i hi) h.symm
      refine ⟨this.1, ?_⟩
      intro i hi
      have := this.2 i (by omega)
      rw [Nat.zero_add] at this
      exact this
    · intro ⟨h1, h2⟩
      rw [h1]
      congr 1
      exact (pVal_same _ _ _ (fun i hi => by rw [Nat.zero_add]; exact h2 i hi)).symm
  · rename_i h8
    constructor
    · intro h
      have hz : pVal (pT k) 0 (pT k).length = 0 := lN_inj hv' (by decide) h
      have : ∀ k, k < 8 → pVal (pT k) 0 (pT k).length ≠ 0 := by decide
      exact absurd hz (this k hk)
    · intro h; omega
theorem pKwOf_eq {t : List Nat} {p e : Nat} (ht : ∀ i, pc t i < 256) (hn : ∀ i, p ≤ i → i < e → pc t i ≠ 0) : (∀ k, k < 8 → (pKwOf (pOct t p e) = k ↔ pSp t p e (pT k))) := by
  have key : ∀ (m v : Nat), v + m = 8 → ∀ k, v ≤ k → k < 8 → (pKwN (pOct t p e) v (m + 20) = k ↔ pSp t p e (pT k)) ∧ ((∀ k, v ≤ k → k < 8 → ¬ pSp t p e (pT k)) → pKwN (pOct t p e) v (m + 20) = 23) := by
    intro m
    induction m with
    | zero => intro v hv k h1 h2; omega
    | succ m ih =>
      intro v hv k h1 h2
      rw [show m + 1 + 20 = (m + 20) + 1 by omega, pKwN]
      have pk : pKw v = true := decide_eq_true (by omega)
      have oc := pOc_kw (k := v) ht (by omega) hn
      by_cases c : pSp t p e (pT v)
      · have hd : (pKw v && decide (xTokOc.getD v 0 = pOct t p e)) = true := by rw [pk, decide_eq_true (oc.mpr c)]; rfl
        rw [if_pos hd]
        refine ⟨?_, fun h => absurd c (h v (by omega) (by omega))⟩
        constructor
        · intro e; rw [← e]; exact c
        · intro c2
          have dis : ∀ a, a < 8 → ∀ b, b < 8 → (pT a).length = (pT b).length → (∀ i, i < (pT a).length → pc (pT a) i = pc (pT b) i) → a = b := by decide
          exact dis v (by omega) k h2 (by rw [← c.1, ← c2.1]) (fun i hi => by rw [← c.2 i hi, ← c2.2 i (by rw [← c2.1, c.1]; exact hi)])
      · have hd : ¬ (pKw v && decide (xTokOc.getD v 0 = pOct t p e)) = true := by
          rw [decide_eq_false (fun h => c (oc.mp h))]; simp
        rw [if_neg hd]
        by_cases q : v = k
        · subst q
          refine ⟨⟨?_, fun h => absurd h c⟩, ?_⟩
          · intro e'
            exfalso
            have big : ∀ (m v w : Nat), w < v → pKwN (pOct t p e) v m ≠ w ∨ w = 23 := by
              intro m
              induction m with
              | zero => intro v w h; rw [pKwN]; by_cases z : w = 23; exact .inr z; exact .inl (fun h => z h.symm)
              | succ m ih => intro v w h; rw [pKwN]; split
                             · exact .inl (by omega)
                             · exact ih (v + 1) w (by omega)
            rcases big (m + 20) (v + 1) v (by omega) with h | h
            · exact h e'
            · omega
          · intro h
            by_cases q2 : v + 1 < 8
            · exact (ih (v + 1) (by omega) (v + 1) (by omega) q2).2 (fun k h1 h2 => h k (by omega) h2)
            · have hv8 : v = 7 := by omega
              have : ∀ w, pKwN w 8 (0 + 20) = 23 := by
                intro w
                simp [pKwN, pKw]
              have hm : m = 0 := by omega
              subst hv8; subst hm
              exact this _
        · have := ih (v + 1) (by omega) k (by omega) h2
          exact ⟨this.1, fun h => this.2 (fun k h1 h2 => h k (by omega) h2)⟩
  intro k hk
  exact (key 8 0 (by omega) k (by omega) hk).1
theorem pSign_eq (t : List Nat) (p : Nat) : pSign t p = if pc t p = 61 then (if pc t (p + 1) = 61 then (if pc t (p + 2) = 61 then 8 else 9) else 10) else if pc t p = 43 then 11 else if pc t p = 45 then 12 else if pc t p = 42 then 13 else if pc t p = 60 then 14 else if pc t p = 33 then 15 else if pc t p = 40 then 16 else if pc t p = 41 then 17 else if pc t p = 123 then 18 else if pc t p = 125 then 19 else if pc t p = 59 then 20 else if pc t p = 44 then 21 else if pc t p = 64 then 22 else 27 := by
  have h1 : ∀ k x, pT k = [x] → pHolds t (pT k) p = (pc t p == x) := by
    intro k x h; rw [h]; unfold pHolds; simp [pHoldsN, pc]
  have h3 : pHolds t (pT 8) p = (pc t p == 61 && (pc t (p + 1) == 61 && pc t (p + 2) == 61)) := by
    show pHoldsN t [61, 61, 61] p 0 3 = _
    simp [pHoldsN, pc]
  have h2 : pHolds t (pT 9) p = (pc t p == 61 && pc t (p + 1) == 61) := by
    show pHoldsN t [61, 61] p 0 2 = _
    simp [pHoldsN, pc]
  have s0 : ∀ k, k < 8 → pSg k = false := by decide
  have s1 : ∀ k, k < 23 → 8 ≤ k → pSg k = true := by decide
  have s2 : ∀ k, k < 28 → 23 ≤ k → pSg k = false := by decide
  unfold pSign
  simp only [pSignN, s0 0 (by omega), s0 1 (by omega), s0 2 (by omega), s0 3 (by omega), s0 4 (by omega), s0 5 (by omega), s0 6 (by omega), s0 7 (by omega), s1 8 (by omega) (by omega), s1 9 (by omega) (by omega), s1 10 (by omega) (by omega), s1 11 (by omega) (by omega), s1 12 (by omega) (by omega), s1 13 (by omega) (by omega), s1 14 (by omega) (by omega), s1 15 (by omega) (by omega), s1 16 (by omega) (by omega), s1 17 (by omega) (by omega), s1 18 (by omega) (by omega), s1 19 (by omega) (by omega), s1 20 (by omega) (by omega), s1 21 (by omega) (by omega), s1 22 (by omega) (by omega), s2 23 (by omega) (by omega), s2 24 (by omega) (by omega), s2 25 (by omega) (by omega), s2 26 (by omega) (by omega), s2 27 (by omega) (by omega), Bool.false_and, Bool.true_and, if_false, Nat.zero_add, Nat.reduceAdd, h3, h2, h1 10 61 rfl, h1 11 43 rfl, h1 12 45 rfl, h1 13 42 rfl, h1 14 60 rfl, h1 15 33 rfl, h1 16 40 rfl, h1 17 41 rfl, h1 18 123 rfl, h1 19 125 rfl, h1 20 59 rfl, h1 21 44 rfl, h1 22 64 rfl]
  by_cases c : pc t p = 61
  · simp only [c, beq_self_eq_true, Bool.true_and, if_true]
    by_cases c1 : pc t (p + 1) = 61
    · by_cases c2 : pc t (p + 2) = 61 <;> simp [c1, c2]
    · simp [c1]
  · simp [c]
