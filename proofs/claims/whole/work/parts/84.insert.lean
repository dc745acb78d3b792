/-! PURE: the reference puts a FINDING into its sorted rows -/
theorem cnt_ins {P Q : Nat → Bool} {c : Nat} (hP : P c = false) (hQ : Q c = true) (h : ∀ x, x ≠ c → Q x = P x) : ∀ n, cnt Q n = cnt P n + if c < n then 1 else 0 := by
  intro n
  induction n with
  | zero => rfl
  | succ n ih =>
    rw [cnt, cnt, ih]
    by_cases e : n = c
    · subst e; rw [hP, hQ, if_neg (show ¬ n < n by omega), if_pos (show n < n + 1 by omega)]; simp
    · rw [h n e]
      by_cases d : c < n
      · rw [if_pos d, if_pos (show c < n + 1 by omega)]; omega
      · rw [if_neg d, if_neg (show ¬ c < n + 1 by omega), Nat.add_zero, Nat.add_zero]
theorem cnt_ex {P : Nat → Bool} : ∀ (n k : Nat), k < cnt P n → ∃ c, c < n ∧ P c = true ∧ cnt P c = k := by
  intro n
  induction n with
  | zero => intro k h; exact absurd h (by rw [cnt]; omega)
  | succ n ih =>
    intro k h
    rw [cnt] at h
    by_cases c : k < cnt P n
    · obtain ⟨x, a, b⟩ := ih k c; exact ⟨x, by omega, b⟩
    · by_cases d : P n = true
      · rw [if_pos d] at h; exact ⟨n, by omega, d, by omega⟩
      · rw [if_neg d] at h; omega
theorem cnt_lt {P : Nat → Bool} {x c : Nat} (hx : P x = true) (h : x < c) : cnt P x < cnt P c := by
  have : cnt P (x + 1) ≤ cnt P c := cnt_mono h
  rw [cnt, if_pos hx] at this
  omega
theorem cnt_lt_iff {P : Nat → Bool} {x c : Nat} (hx : P x = true) : cnt P x < cnt P c ↔ x < c := by
  constructor
  · intro h
    by_cases d : x < c
    · exact d
    · have : cnt P c ≤ cnt P x := cnt_mono (by omega)
      omega
  · exact cnt_lt hx
/-- which codes can be -/
def kok (t : List Nat) (c : Nat) : Prop := c / 10 < nT t ∧ ((kT t (c / 10) = 23 ∧ c % 10 ≤ 4) ∨ c % 10 = 5 ∨ (c % 10 = 6 ∧ kT t (c / 10) = 9) ∨ (c % 10 = 7 ∧ kT t (c / 10) = 0) ∨ (c % 10 = 8 ∧ kT t (c / 10) = 18) ∨ (c % 10 = 9 ∧ kT t (c / 10) = 20))
theorem cnt_10 {t : List Nat} {P : Nat → Bool} (h : ∀ c, P c = true → kok t c) (p : Nat) : cnt (fun r => P (10 * p + r)) 10 ≤ 6 := by
  have key : ∀ r, r < 10 → P (10 * p + r) = true → (kT t p = 23 ∧ r ≤ 4) ∨ r = 5 ∨ (r = 6 ∧ kT t p = 9) ∨ (r = 7 ∧ kT t p = 0) ∨ (r = 8 ∧ kT t p = 18) ∨ (r = 9 ∧ kT t p = 20) := by
    intro r hr hp
    have := (h _ hp).2
    rw [(code_mod hr).1, (code_mod hr).2] at this
    exact this
  generalize kT t p = k at key
  by_cases e : k = 23
  · have f : ∀ r, r < 10 → 6 ≤ r → P (10 * p + r) = false := by
      intro r h1 h2
      cases hp : P (10 * p + r) with
      | false => rfl
      | true => have := key r h1 hp; omega
    have a : cnt (fun r => P (10 * p + r)) 6 ≤ 6 := cnt_le 6
    simp only [cnt, f 6 (by omega) (by omega), f 7 (by omega) (by omega), f 8 (by omega) (by omega), f 9 (by omega) (by omega)] at a ⊢
    simpa using a
  · have f : ∀ r, r < 5 → P (10 * p + r) = false := by
      intro r h1
      cases hp : P (10 * p + r) with
      | false => rfl
      | true => have := key r (by omega) hp; omega
    have a : cnt (fun i => P (10 * p + (5 + i))) 5 ≤ 5 := cnt_le 5
    have b := cnt_add (P := fun r => P (10 * p + r)) 5 5
    have d : cnt (fun r => P (10 * p + r)) 5 = 0 := by
      simp only [cnt, f 0 (by omega), f 1 (by omega), f 2 (by omega), f 3 (by omega), f 4 (by omega)]
      rfl
    have b : cnt (fun r => P (10 * p + r)) 10 = _ := b
    rw [b, d]
    omega
theorem cnt_360 {t : List Nat} {P : Nat → Bool} (h : ∀ c, P c = true → kok t c) : ∀ p, cnt P (10 * p) ≤ 6 * p := by
  intro p
  induction p with
  | zero => exact Nat.le_refl _
  | succ p ih =>
    have := cnt_10 h p
    rw [show 10 * (p + 1) = 10 * p + 10 by omega, cnt_add]
    omega
/-- FINDING x lies at place k of the reference's rows -/
def nAt (M : xMem) (b : Nat) (t : List Nat) (k x : Nat) : Prop := M.1 (b + 40) k = nI (x % 10) ∧ M.1 (b + 41) k = nI (pS (pLex t) (x / 10))
/-- what finds() may write -/
def rFdS (b : Nat) (a k : Nat) : Prop := (a = b ∧ (k = 63 ∨ k = 64)) ∨ a = b + 40 ∨ a = b + 41
theorem r_finds_163 {M : xMem} {b k n : Nat} {p1 p2 p3 : Int32} (hk : k < 400) (h63 : M.1 b 63 = nI n) : f_N_finds_163 b p1 p2 p3 (nI k) M = some ((), wI (wI (wI M (b + 41) k p3) (b + 40) k p2) b 63 (nI (n + 1))) := by
  unfold f_N_finds_163
  simp (disch := omega) only [↓reduceIte, nI_leT, nI_leF, nI_ltT, nI_ltF, nI_eqT, nI_eqF, xin_T, nI_clampT, nI_add, nI_inc, pk_subT, xb_some, xval, xlet, mI_s, mI_n, mI_k, mI_2, mJ_1, mJ_s, mJ_n, mJ_k, mJ_2, mT_1, mT_2, mT_s, mT_n, mT_k, mT_3, mR_1, mR_2, mR_3, bI_0, bI_1, bI_n0, bI_n1, Bool.true_eq_false, Bool.false_eq_true, eq_self, i_0, i_1, i_2, i_3, i_4, i_5, i_6, i_7, i_8, i_9, i_10, i_11, i_12, i_13, i_14, i_15, i_16, i_17, i_18, i_19, i_20, i_21, i_22, i_23, i_24, i_25, i_26, i_27, i_28, i_29, i_30, i_31, i_32, i_33, i_34, i_35, i_36, i_37, i_38, i_39, i_40, i_41, i_42, i_43, i_44, i_45, i_48, i_49, i_57, i_59, i_60, i_61, i_62, i_64, i_97, i_110, i_122, i_123, i_125, i_126, i_127, i_160, i_255, i_300, i_400, h63]
theorem r_finds_125 {M : xMem} {b k : Nat} {p1 p2 p3 : Int32} {k81 : Int32 → xMem → Option (Unit × xMem)} (hk : k + 1 < 400) : f_N_finds_125 b p1 p2 p3 k81 (nI (k + 1)) M = k81 (nI k) (wI (wI M (b + 41) (k + 1) (M.1 (b + 41) k)) (b + 40) (k + 1) (M.1 (b + 40) k)) := by
  unfold f_N_finds_125
  have e : nI (k + 1) - 1 = nI k := pk_subT (a := k + 1) (b := 1) (by omega)
  rw [e, nI_dec]
  simp (disch := omega) only [↓reduceIte, nI_leT, nI_leF, nI_ltT, nI_ltF, nI_eqT, nI_eqF, xin_T, nI_clampT, nI_add, nI_inc, pk_subT, xb_some, xval, xlet, mI_s, mI_n, mI_k, mI_2, mJ_1, mJ_s, mJ_n, mJ_k, mJ_2, mT_1, mT_2, mT_s, mT_n, mT_k, mT_3, mR_1, mR_2, mR_3, bI_0, bI_1, bI_n0, bI_n1, Bool.true_eq_false, Bool.false_eq_true, eq_self, i_0, i_1, i_2, i_3, i_4, i_5, i_6, i_7, i_8, i_9, i_10, i_11, i_12, i_13, i_14, i_15, i_16, i_17, i_18, i_19, i_20, i_21, i_22, i_23, i_24, i_25, i_26, i_27, i_28, i_29, i_30, i_31, i_32, i_33, i_34, i_35, i_36, i_37, i_38, i_39, i_40, i_41, i_42, i_43, i_44, i_45, i_48, i_49, i_57, i_59, i_60, i_61, i_62, i_64, i_97, i_110, i_122, i_123, i_125, i_126, i_127, i_160, i_255, i_300, i_400]
theorem r_finds_81 {b c n : Nat} {t : List Nat} {P : Nat → Bool} {p1 : Int32} (ht : t.length ≤ 160) (hP : ∀ x, P x = true → kok t x) (hc : kok t c) (hc0 : P c = false) : ∀ (m k fuel : Nat) (M : xMem), k = cnt P c + m → k ≤ cnt P (10 * nT t) → m < fuel → M.1 b 63 = nI n → (∀ x, P x = true → nAt M b t (if cnt P x < k then cnt P x else cnt P x + 1) x) → ∃ M', f_N_finds_81 b p1 (nI (c % 10)) (nI (pS (pLex t) (c / 10))) fuel (nI k) M = some ((), M') ∧ M'.1 b 63 = nI (n + 1) ∧ M'.1 b 64 = M.1 b 64 ∧ nAt M' b t (cnt P c) c ∧ (∀ x, P x = true → nAt M' b t (cnt P x + if c < x then 1 else 0) x) ∧ rF (rFdS b) M M' := by
  have hT := nT_le t
  have h360 := cnt_360 hP (nT t)
  have s160 : ∀ i, pS (pLex t) i ≤ 160 := fun i => pS_lt t i ht
  have end' : ∀ (M : xMem), M.1 b 63 = nI n → (∀ x, P x = true → nAt M b t (if cnt P x < cnt P c then cnt P x else cnt P x + 1) x) → cnt P c ≤ cnt P (10 * nT t) → ∃ M', f_N_finds_163 b p1 (nI (c % 10)) (nI (pS (pLex t) (c / 10))) (nI (cnt P c)) M = some ((), M') ∧ M'.1 b 63 = nI (n + 1) ∧ M'.1 b 64 = M.1 b 64 ∧ nAt M' b t (cnt P c) c ∧ (∀ x, P x = true → nAt M' b t (cnt P x + if c < x then 1 else 0) x) ∧ rF (rFdS b) M M' := by
    intro M h63 hA hk
    refine ⟨_, r_finds_163 (by omega) h63, by simp (disch := omega) only [↓reduceIte, nI_leT, nI_leF, nI_ltT, nI_ltF, nI_eqT, nI_eqF, xin_T, nI_clampT, nI_add, nI_inc, pk_subT, xb_some, xval, xlet, mI_s, mI_n, mI_k, mI_2, mJ_1, mJ_s, mJ_n, mJ_k, mJ_2, mT_1, mT_2, mT_s, mT_n, mT_k, mT_3, mR_1, mR_2, mR_3, bI_0, bI_1, bI_n0, bI_n1, Bool.true_eq_false, Bool.false_eq_true, eq_self, i_0, i_1, i_2, i_3, i_4, i_5, i_6, i_7, i_8, i_9, i_10, i_11, i_12, i_13, i_14, i_15, i_16, i_17, i_18, i_19, i_20, i_21, i_22, i_23, i_24, i_25, i_26, i_27, i_28, i_29, i_30, i_31, i_32, i_33, i_34, i_35, i_36, i_37, i_38, i_39, i_40, i_41, i_42, i_43, i_44, i_45, i_48, i_49, i_57, i_59, i_60, i_61, i_62, i_64, i_97, i_110, i_122, i_123, i_125, i_126, i_127, i_160, i_255, i_300, i_400], by rw [mI_k (by omega), mI_n (by omega), mI_n (by omega)], ⟨?_, ?_⟩, ?_, ((rF.I (by unfold rFdS; omega)).trans (rF.I (by unfold rFdS; omega))).trans (rF.I (by unfold rFdS; omega))⟩
    · rw [mI_n (by omega), mI_s rfl rfl]
    · rw [mI_n (by omega), mI_n (by omega), mI_s rfl rfl]
    · intro x hx
      have a := hA x hx
      have ne : x ≠ c := fun e => by rw [e, hc0] at hx; cases hx
      have iff := cnt_lt_iff (P := P) (x := x) (c := c) hx
      by_cases l : x < c
      · rw [if_pos (iff.mpr l)] at a
        rw [if_neg (show ¬ c < x by omega), Nat.add_zero]
        have l' := iff.mpr l
        refine ⟨?_, ?_⟩
        · rw [mI_n (by omega), mI_k (by omega), mI_n (by omega)]; exact a.1
        · rw [mI_n (by omega), mI_n (by omega), mI_k (by omega)]; exact a.2
      · rw [if_neg (fun e => l (iff.mp e))] at a
        rw [if_pos (show c < x by omega)]
        have l' : cnt P c ≤ cnt P x := cnt_mono (by omega)
        refine ⟨?_, ?_⟩
        · rw [mI_n (by omega), mI_k (by omega), mI_n (by omega)]; exact a.1
        · rw [mI_n (by omega), mI_n (by omega), mI_k (by omega)]; exact a.2
  intro m
  induction m with
  | zero =>
    intro k fuel M hk hk2 hf h63 hA
    obtain ⟨f, rfl⟩ : ∃ f, fuel = f + 1 := ⟨fuel - 1, by omega⟩
    have : k = cnt P c := by omega
    subst this
    have en := end' M h63 hA hk2
    rw [f_N_finds_81]
    by_cases z : cnt P c = 0
    · rw [if_pos (show nI (cnt P c) ≤ 0 from nI_le (a := cnt P c) (b := 0) (by omega) (by omega))]
      exact en
    · obtain ⟨x, x1, x2, x3⟩ := cnt_ex (P := P) c (cnt P c - 1) (by omega)
      have a := hA x x2
      rw [if_pos (show cnt P x < cnt P c by omega), x3] at a
      have e1 : nI (cnt P c) - 1 = nI (cnt P c - 1) := pk_subT (b := 1) (by omega)
      have xi : xin (nI (cnt P c - 1)) 400 = true := xin_T (by omega) (by omega)
      have kx := (hP x x2).1
      rw [if_neg (show ¬ nI (cnt P c) ≤ 0 from nI_ge (a := 0) (by omega) (by omega)), e1, if_pos xi, nI_clampT (by omega), a.1, a.2]
      have sx := s160 (x / 10)
      have sc := s160 (c / 10)
      have o1 : ¬ nI (pS (pLex t) (c / 10)) < nI (pS (pLex t) (x / 10)) := by
        refine nI_nlt ?_ (by omega)
        by_cases q : x / 10 = c / 10
        · rw [q]; exact Nat.le_refl _
        · have := (pS_ltI (t := t) (i := x / 10) (j := c / 10) (by omega) (by have := hc.1; omega)).mpr (by omega)
          omega
      rw [if_neg o1, if_pos xi]
      by_cases q : x / 10 = c / 10
      · rw [if_pos (by rw [q]), if_pos xi, if_pos (show nI (x % 10) ≤ nI (c % 10) from nI_le (by omega) (by omega))]
        exact en
      · have ne : pS (pLex t) (x / 10) ≠ pS (pLex t) (c / 10) := fun e => q ((pS_eqI (t := t) (by omega) (by have := hc.1; omega)).mp e)
        rw [if_neg (fun e => ne ((nI_eq (by omega) (by omega)).mp e))]
        exact en
  | succ m ih =>
    intro k fuel M hk hk2 hf h63 hA
    obtain ⟨f, rfl⟩ : ∃ f, fuel = f + 1 := ⟨fuel - 1, by omega⟩
    obtain ⟨k', rfl⟩ : ∃ k', k = k' + 1 := ⟨k - 1, by omega⟩
    obtain ⟨x, x1, x2, x3⟩ := cnt_ex (P := P) (10 * nT t) k' (by omega)
    have a := hA x x2
    rw [if_pos (show cnt P x < k' + 1 by omega), x3] at a
    have ne : x ≠ c := fun e => by rw [e, hc0] at x2; cases x2
    have gt : c < x := by
      by_cases d : x < c
      · have := cnt_lt x2 d; omega
      · omega
    have e1 : nI (k' + 1) - 1 = nI k' := pk_subT (b := 1) (by omega)
    have xi : xin (nI k') 400 = true := xin_T (by omega) (by omega)
    have kx := (hP x x2).1
    have kc := hc.1
    have sx := s160 (x / 10)
    have sc := s160 (c / 10)
    have fr : rF (rFdS b) M (wI (wI M (b + 41) (k' + 1) (M.1 (b + 41) k')) (b + 40) (k' + 1) (M.1 (b + 40) k')) := (rF.I (by unfold rFdS; omega)).trans (rF.I (by unfold rFdS; omega))
    obtain ⟨M', o, r1, r2, r3, r4, r5⟩ := ih k' f (wI (wI M (b + 41) (k' + 1) (M.1 (b + 41) k')) (b + 40) (k' + 1) (M.1 (b + 40) k')) (by omega) (by omega) (by omega) (by rw [mI_n (by omega), mI_n (by omega)]; exact h63) (by
      intro y hy
      have ay := hA y hy
      by_cases q1 : cnt P y < k'
      · rw [if_pos (show cnt P y < k' + 1 by omega)] at ay
        rw [if_pos q1]
        refine ⟨?_, ?_⟩
        · rw [mI_k (by omega), mI_n (by omega)]; exact ay.1
        · rw [mI_n (by omega), mI_k (by omega)]; exact ay.2
      · rw [if_neg q1]
        by_cases q2 : cnt P y = k'
        · rw [if_pos (show cnt P y < k' + 1 by omega), q2] at ay
          rw [q2]
          refine ⟨?_, ?_⟩
          · rw [mI_s rfl rfl]; exact ay.1
          · rw [mI_n (by omega), mI_s rfl rfl]; exact ay.2
        · rw [if_neg (show ¬ cnt P y < k' + 1 by omega)] at ay
          refine ⟨?_, ?_⟩
          · rw [mI_k (by omega), mI_n (by omega)]; exact ay.1
          · rw [mI_n (by omega), mI_k (by omega)]; exact ay.2)
    refine ⟨M', ?_, r1, by rw [r2, mI_n (by omega), mI_n (by omega)], r3, r4, fr.trans r5⟩
    rw [← o, f_N_finds_81, if_neg (show ¬ nI (k' + 1) ≤ 0 from nI_ge (a := 0) (by omega) (by omega)), e1, if_pos xi, nI_clampT (by omega), a.1, a.2]
    by_cases q : c / 10 = x / 10
    · have o1 : ¬ nI (pS (pLex t) (c / 10)) < nI (pS (pLex t) (x / 10)) := by rw [q]; exact nI_nlt (Nat.le_refl _) (by omega)
      rw [if_neg o1, if_pos xi, if_pos (by rw [q]), if_pos xi, if_neg (show ¬ nI (x % 10) ≤ nI (c % 10) from nI_ge (by omega) (by omega)), r_finds_125 (by omega), a.1, a.2]
    · have o1 : nI (pS (pLex t) (c / 10)) < nI (pS (pLex t) (x / 10)) := nI_lt ((pS_ltI (t := t) (by omega) (by omega)).mpr (by omega)) (by omega)
      rw [if_pos o1, r_finds_125 (by omega), a.1, a.2]
