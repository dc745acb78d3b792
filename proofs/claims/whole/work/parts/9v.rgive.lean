/-! PURE: give: the reference -/
theorem r_give_35 {M : xMem} {n N : Nat} (hN : N < 2 ^ 64) : ∀ (m k f : Nat) (fl : Bool), k + m = (wOf N).length → m < f → f_N_give_35 n (lN N) f (nI (wOf N).length) (bI fl) (nI k) M = f_N_give_92 n (lN N) (nI (wOf N).length) (bI (fl && decide (∀ i, i < (wOf N).length → k ≤ i → pWordC (oc N i) = true))) (nI (wOf N).length) (bI (!(fl && decide (∀ i, i < (wOf N).length → k ≤ i → pWordC (oc N i) = true)))) M := by
  have h8 := wOf_len N
  intro m
  induction m with
  | zero =>
    intro k f fl e hf
    obtain ⟨g, ef⟩ : ∃ g, f = g + 1 := ⟨f - 1, by omega⟩
    subst ef
    have ek : k = (wOf N).length := by omega
    subst ek
    have d : decide (∀ i, i < (wOf N).length → (wOf N).length ≤ i → pWordC (oc N i) = true) = true := decide_eq_true (fun i h1 h2 => by omega)
    rw [f_N_give_35, if_pos (nI_le (Nat.le_refl _) (by omega)), d, Bool.and_true]
    cases fl with
    | true => rw [if_neg (by decide)]; rfl
    | false => rw [if_pos (show bI false = 0 from rfl)]; rfl
  | succ m ih =>
    intro k f fl e hf
    obtain ⟨g, ef⟩ : ∃ g, f = g + 1 := ⟨f - 1, by omega⟩
    subst ef
    have e1 : nI k + Int32.ofInt 1 = nI (k + 1) := nI_1 k
    have lt := oc_lt N k
    have sp : (fl && decide (∀ i, i < (wOf N).length → k ≤ i → pWordC (oc N i) = true)) = ((fl && pWordC (oc N k)) && decide (∀ i, i < (wOf N).length → k + 1 ≤ i → pWordC (oc N i) = true)) := by
      rw [Bool.and_assoc]
      congr 1
      apply Bool.eq_iff_iff.mpr
      rw [Bool.and_eq_true_iff, decide_eq_true_iff, decide_eq_true_iff]
      constructor
      · intro h
        exact ⟨h k (by omega) (Nat.le_refl _), fun i h1 h2 => h i h1 (by omega)⟩
      · intro h i h1 h2
        by_cases c : i = k
        · rw [c]; exact h.1
        · exact h.2 i h1 (by omega)
    have go : ∀ v : Bool, pWordC (oc N k) = v → f_N_give_72 n (lN N) (f_N_give_35 n (lN N) g) (nI (wOf N).length) (bI fl) (nI k) (bI fl) (bI v) M = f_N_give_92 n (lN N) (nI (wOf N).length) (bI (fl && decide (∀ i, i < (wOf N).length → k ≤ i → pWordC (oc N i) = true))) (nI (wOf N).length) (bI (!(fl && decide (∀ i, i < (wOf N).length → k ≤ i → pWordC (oc N i) = true)))) M := by
      intro v hv
      unfold f_N_give_72
      have ea : bI fl &&& bI v = bI (fl && v) := by cases fl <;> cases v <;> decide
      rw [e1, ea, ih (k + 1) g (fl && v) (by omega) (by omega), sp, hv]
    rw [f_N_give_35, if_neg (nI_ge (by omega) (by omega)), r_octet hN (by omega), xb_some, r_isLetter lt, xb_some]
    unfold f_N_give_67
    cases c1 : pSmall (oc N k) with
    | true =>
      rw [if_neg (by decide)]
      exact go true (by unfold pWordC; rw [c1]; rfl)
    | false =>
      rw [if_pos (show bI false = 0 from rfl), r_octet hN (by omega), xb_some, r_isDigit lt, xb_some]
      cases c2 : pDigit (oc N k) with
      | true =>
        rw [if_neg (by decide)]
        exact go true (by unfold pWordC; rw [c1, c2]; rfl)
      | false =>
        rw [if_pos (show bI false = 0 from rfl)]
        exact go false (by unfold pWordC; rw [c1, c2]; rfl)
/-- the text is kept -/
theorem r_give_110 {n N : Nat} {t : List Nat} {v4 : Int32} (ht : t.length ≤ 160) : ∀ (m v f : Nat) (M : xMem), v + m = t.length → m < f → (∀ i, i < t.length → M.1 (n + 2) i = nI (pc t i)) → (∀ i, i < v → M.1 (n + 3) i = nI (pc t i)) → ∃ M', f_N_give_110 n (lN N) f (nI (wOf N).length) v4 (nI t.length) (nI v) M = f_N_give_140 n (lN N) xFuel (nI (wOf N).length) v4 (nI t.length) 0 M' ∧ (∀ i, i < t.length → M'.1 (n + 3) i = nI (pc t i)) ∧ rF (fun a _ => a = n + 3) M M' := by
  intro m
  induction m with
  | zero =>
    intro v f M e hf h1 h2
    obtain ⟨g, ef⟩ : ∃ g, f = g + 1 := ⟨f - 1, by omega⟩
    subst ef
    refine ⟨M, ?_, fun i hi => h2 i (by omega), .rfl⟩
    rw [f_N_give_110, if_pos (nI_le (by omega) (by omega))]
  | succ m ih =>
    intro v f M e hf h1 h2
    obtain ⟨g, ef⟩ : ∃ g, f = g + 1 := ⟨f - 1, by omega⟩
    subst ef
    have e1 : nI v + Int32.ofInt 1 = nI (v + 1) := nI_1 v
    obtain ⟨M', w1, w2, w3⟩ := ih (v + 1) g (wI M (n + 3) v (nI (pc t v))) (by omega) (by omega) (fun i hi => by rw [mI_n (by omega)]; exact h1 i hi) (fun i hi => by
      by_cases c : i = v
      · subst c; rw [mI_s rfl rfl]
      · rw [mI_k c]; exact h2 i (by omega))
    refine ⟨M', ?_, w2, (rF.I (S := fun a _ => a = n + 3) rfl).trans w3⟩
    rw [← w1, f_N_give_110, if_neg (nI_ge (by omega) (by omega)), if_pos (xin_nI (by omega) (by decide)), nI_clamp (by omega), h1 v (by omega), e1]
    unfold xval xlet
    dsimp only
    rw [if_pos (xin_nI (by omega) (by decide))]
/-- the letters are laid at its head -/
theorem r_give_140 {n N : Nat} (hN : N < 2 ^ 64) {v4 v5 : Int32} : ∀ (m v f : Nat) (M : xMem), v + m = (wOf N).length → m < f → (∀ i, i < v → M.1 (n + 2) i = nI (oc N i)) → ∃ M', f_N_give_140 n (lN N) f (nI (wOf N).length) v4 v5 (nI v) M = (xbind (f_N_word n 62 M') fun r67 M => if r67 = 1 then (f_N_give_196 n (lN N) (nI (wOf N).length) v4 v5 (nI (wOf N).length) 0 M) else (f_N_give_196 n (lN N) (nI (wOf N).length) v4 v5 (nI (wOf N).length) 1 M)) ∧ (∀ i, i < (wOf N).length → M'.1 (n + 2) i = nI (oc N i)) ∧ M'.1 (n + 9) 62 = nI 0 ∧ M'.1 (n + 10) 62 = nI (wOf N).length ∧ rF (fun a k => a = n + 2 ∨ (a = n + 9 ∧ k = 62) ∨ (a = n + 10 ∧ k = 62)) M M' := by
  have h8 := wOf_len N
  intro m
  induction m with
  | zero =>
    intro v f M e hf h1
    obtain ⟨g, ef⟩ : ∃ g, f = g + 1 := ⟨f - 1, by omega⟩
    subst ef
    have ek : v = (wOf N).length := by omega
    subst ek
    refine ⟨wI (wI M (n + 9) 62 (nI 0)) (n + 10) 62 (nI (wOf N).length), ?_, ?_, ?_, mI_s rfl rfl, (rF.I (.inr (.inl ⟨rfl, rfl⟩))).trans (rF.I (.inr (.inr ⟨rfl, rfl⟩)))⟩
    · rw [f_N_give_140, if_pos (nI_le (Nat.le_refl _) (by omega)), if_pos (show xin 62 64 = true by decide)]
      rfl
    · intro i hi
      rw [mI_n (by omega), mI_n (by omega)]; exact h1 i hi
    · rw [mI_n (by omega), mI_s rfl rfl]
  | succ m ih =>
    intro v f M e hf h1
    obtain ⟨g, ef⟩ : ∃ g, f = g + 1 := ⟨f - 1, by omega⟩
    subst ef
    have e1 : nI v + Int32.ofInt 1 = nI (v + 1) := nI_1 v
    obtain ⟨M', w1, w2, w3, w4, w5⟩ := ih (v + 1) g (wI M (n + 2) v (nI (oc N v))) (by omega) (by omega) (fun i hi => by
      by_cases c : i = v
      · subst c; rw [mI_s rfl rfl]
      · rw [mI_k c]; exact h1 i (by omega))
    refine ⟨M', ?_, w2, w3, w4, (rF.I (.inl rfl)).trans w5⟩
    rw [← w1, f_N_give_140, if_neg (nI_ge (by omega) (by omega)), r_octet hN (by omega), xb_some, if_pos (xin_nI (by omega) (by decide)), nI_clamp (by omega), e1]
    rfl
/-- and the text comes back -/
theorem r_give_209 {n N : Nat} {t : List Nat} {v4 v6 v7 : Int32} (ht : t.length ≤ 160) : ∀ (m v f : Nat) (M : xMem), v + m = t.length → m < f → (∀ i, i < t.length → M.1 (n + 3) i = nI (pc t i)) → (∀ i, i < v → M.1 (n + 2) i = nI (pc t i)) → ∃ M', f_N_give_209 n (lN N) f (nI (wOf N).length) v4 (nI t.length) v6 v7 (nI v) M = (xbind (f_N_fails n v6 1 M') fun r52 M => if r52 = 0 then (xbind (f_N_fails n v7 2 M) fun r55 M => if r55 = 0 then (if M.1 n 6 = 8 then (f_N_give_271 n (lN N) (nI (wOf N).length) v4 (nI t.length) v6 v7 (nI t.length) 1 M) else (f_N_give_271 n (lN N) (nI (wOf N).length) v4 (nI t.length) v6 v7 (nI t.length) 0 M)) else (some (0, M))) else (some (0, M))) ∧ (∀ i, i < t.length → M'.1 (n + 2) i = nI (pc t i)) ∧ rF (fun a _ => a = n + 2) M M' := by
  intro m
  induction m with
  | zero =>
    intro v f M e hf h1 h2
    obtain ⟨g, ef⟩ : ∃ g, f = g + 1 := ⟨f - 1, by omega⟩
    subst ef
    have ek : v = t.length := by omega
    subst ek
    refine ⟨M, ?_, h2, .rfl⟩
    rw [f_N_give_209, if_pos (nI_le (Nat.le_refl _) (by omega))]
  | succ m ih =>
    intro v f M e hf h1 h2
    obtain ⟨g, ef⟩ : ∃ g, f = g + 1 := ⟨f - 1, by omega⟩
    subst ef
    have e1 : nI v + Int32.ofInt 1 = nI (v + 1) := nI_1 v
    obtain ⟨M', w1, w2, w3⟩ := ih (v + 1) g (wI M (n + 2) v (nI (pc t v))) (by omega) (by omega) (fun i hi => by rw [mI_n (by omega)]; exact h1 i hi) (fun i hi => by
      by_cases c : i = v
      · subst c; rw [mI_s rfl rfl]
      · rw [mI_k c]; exact h2 i (by omega))
    refine ⟨M', ?_, w2, (rF.I (S := fun a _ => a = n + 2) rfl).trans w3⟩
    rw [← w1, f_N_give_209, if_neg (nI_ge (by omega) (by omega)), if_pos (xin_nI (by omega) (by decide)), nI_clamp (by omega), h1 v (by omega), e1]
    unfold xval xlet
    dsimp only
    rw [if_pos (xin_nI (by omega) (by decide))]
/-- the name is stored -/
theorem r_give_283 {n N g0 : Nat} (hN : N < 2 ^ 64) (hg : g0 < 8) {v4 v5 v6 v7 : Int32} : ∀ (m v f : Nat) (M : xMem), v + m = (wOf N).length → m < f → M.1 n 6 = nI g0 → (∀ i, i < v → M.1 (n + 5) (8 * g0 + i) = nI (oc N i)) → ∃ M', f_N_give_283 n (lN N) f (nI (wOf N).length) v4 v5 v6 v7 (nI v) M = some (nI (g0 + 1), M') ∧ M'.1 n 6 = nI (g0 + 1) ∧ M'.1 (n + 6) g0 = nI (wOf N).length ∧ (∀ i, i < (wOf N).length → M'.1 (n + 5) (8 * g0 + i) = nI (oc N i)) ∧ rF (fun a k => (a = n ∧ k = 6) ∨ (a = n + 6 ∧ k = g0) ∨ (a = n + 5 ∧ 8 * g0 ≤ k)) M M' := by
  have h8 := wOf_len N
  intro m
  induction m with
  | zero =>
    intro v f M e hf h6 h1
    obtain ⟨g, ef⟩ : ∃ g, f = g + 1 := ⟨f - 1, by omega⟩
    subst ef
    have ek : v = (wOf N).length := by omega
    subst ek
    have e1 : nI g0 + 1 = nI (g0 + 1) := nI_1 g0
    refine ⟨wI (wI M (n + 6) g0 (nI (wOf N).length)) n 6 (nI (g0 + 1)), ?_, mI_s rfl rfl, ?_, ?_, (rF.I (.inr (.inl ⟨rfl, rfl⟩))).trans (rF.I (.inl ⟨rfl, rfl⟩))⟩
    · rw [f_N_give_283, if_pos (nI_le (Nat.le_refl _) (by omega))]
      unfold xval xlet
      dsimp only
      rw [h6, if_pos (xin_nI hg (by decide)), nI_clamp (by omega), mI_n (show n ≠ n + 6 by omega), h6, e1, mI_s rfl rfl]
    · rw [mI_n (by omega), mI_s rfl rfl]
    · intro i hi
      rw [mI_n (by omega), mI_n (by omega)]; exact h1 i hi
  | succ m ih =>
    intro v f M e hf h6 h1
    obtain ⟨g, ef⟩ : ∃ g, f = g + 1 := ⟨f - 1, by omega⟩
    subst ef
    have e1 : nI v + Int32.ofInt 1 = nI (v + 1) := nI_1 v
    have e8 : (8 : Int32) * nI g0 + nI v = nI (8 * g0 + v) := by rw [mul8 g0 hg, nI_add]
    obtain ⟨M', w1, w2, w3, w4, w5⟩ := ih (v + 1) g (wI M (n + 5) (8 * g0 + v) (nI (oc N v))) (by omega) (by omega) (by rw [mI_n (by omega)]; exact h6) (fun i hi => by
      by_cases c : i = v
      · subst c; rw [mI_s rfl rfl]
      · rw [mI_k (by omega)]; exact h1 i (by omega))
    refine ⟨M', ?_, w2, w3, w4, (rF.I (.inr (.inr ⟨rfl, by omega⟩))).trans w5⟩
    rw [← w1, f_N_give_283, if_neg (nI_ge (by omega) (by omega))]
    unfold xval
    dsimp only
    rw [h6, e8, r_octet hN (by omega), xb_some, if_pos (xin_nI (by omega) (by decide)), nI_clamp (by omega), e1]
    rfl
/-- laying out and back leaves all as it was -/
theorem mA.gv {M M' : xMem} {n : Nat} {on : Nat → Bool} {gv : List (List Nat)} {t w : List Nat} {wp : Int32} {rd : Nat} (h : mA M n on gv t w wp rd) (f : rF (fun a k => (a = n ∧ k = 0) ∨ a = n + 2 ∨ a = n + 3 ∨ (a = n + 9 ∧ k = 62) ∨ (a = n + 10 ∧ k = 62)) M M') (h2 : ∀ i, i < t.length → M'.1 (n + 2) i = nI (pc t i)) : mA M' n on gv t w wp rd := by
  have hT := nT_le t
  obtain ⟨h1, ⟨h2', h3⟩, h4, h5⟩ := h
  have f2 := f.2
  refine ⟨⟨?_, ?_⟩, ⟨by rw [f2 _ _ (by omega)]; exact h2', fun i hi => by rw [f2 _ _ (by omega)]; exact h3 i hi⟩, by rw [f2 _ _ (by omega)]; exact h4, by rw [f2 _ _ (by omega)]; exact h5⟩
  · obtain ⟨⟨k1, k0, kk1, h22, k2, h26, k14, k15, k16, k6, k18, k19, k4, kx⟩, s1, s2, s3, s4, s5⟩ := h1
    refine ⟨?_, k0.fr f (by omega) ?_, kk1.fr f (by omega) ?_, ?_, k2.fr f (by omega) ?_, ?_, k14.fr f (by omega) ?_, k15.fr f (by omega) ?_, k16.fr f (by omega) ?_, k6.fr f (by omega) ?_, k18.fr f (by omega) ?_, k19.fr f (by omega) ?_, k4.fr f (by omega) ?_, ?_⟩
    · obtain ⟨⟨x1, x2, x3, x4⟩, x5, x6, x7, x8⟩ := k1
      refine ⟨⟨by rw [f2 _ _ (by omega)]; exact x1, x2, h2, x4⟩, by rw [f2 _ _ (by omega)]; exact x5, ?_, by rw [f2 _ _ (by omega)]; exact x7, by rw [f2 _ _ (by omega)]; exact x8⟩
      intro i hi
      have := x6 i hi
      unfold rEn at this ⊢
      rw [f2 _ _ (by omega), f2 _ _ (by omega), f2 _ _ (by omega)]
      exact this
    all_goals first
      | (intro a ha j; simp [c0, c1s, c2, c14, c15, c16, c6, c18, c19, c4] at ha; omega)
      | skip
    · intro i hi
      rw [f2 _ _ (by omega), f2 _ _ (by omega)]; exact h22 i hi
    · intro u hu
      rw [f2 _ _ (by omega)]; exact h26 u hu
    · intro i hi hne
      rw [f2 _ _ (by omega)]; exact kx i hi hne
  · obtain ⟨s1, s2, s3, s4, s5⟩ := h1.2
    refine ⟨by rw [f2 _ _ (by omega)]; exact s1, s2, ?_, ?_, s5⟩
    · intro i hi
      have := s3 i hi
      exact ⟨by rw [f2 _ _ (by omega)]; exact this.1, fun k hk => by rw [f2 _ _ (by omega)]; exact this.2 k hk⟩
    · intro r hr
      rw [f2 _ _ (by omega)]; exact s4 r hr
