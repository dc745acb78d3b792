/-! PURE: write -/
theorem r_in32 {M : xMem} {c : Nat} (hc : c < 256) : f_N_in (nI c) 32 126 M = some (bI (decide (32 ≤ c ∧ c ≤ 126)), M) := by
  rw [r_in]
  have e1 : ((32 : Int32) ≤ nI c) = (32 ≤ c) := nI_le' (a := 32) (by omega) (by omega)
  have e2 : (nI c ≤ (126 : Int32)) = (c ≤ 126) := nI_le' (b := 126) (by omega) (by omega)
  simp only [e1, e2]
theorem r_write_13 {M : xMem} {n N : Nat} (hN : N < 2 ^ 64) (z0 : M.1 n 0 = 0) : ∀ (m k f : Nat), k + m = (wOf N).length → m < f → (∀ i, i < k → pLet (oc N i) = true) → f_N_write_13 n (lN N) f (nI (wOf N).length) (nI k) M = if (∀ i, i < (wOf N).length → pLet (oc N i) = true) then (if (wOf N).length = 0 then f_N_write_77 n (lN N) (nI (wOf N).length) (nI (wOf N).length) 1 M else f_N_write_77 n (lN N) (nI (wOf N).length) (nI (wOf N).length) 0 M) else some (0, wI M n 0 1) := by
  have h8 := wOf_len N
  intro m
  induction m with
  | zero =>
    intro k f e hf hk
    obtain ⟨g, ef⟩ : ∃ g, f = g + 1 := ⟨f - 1, by omega⟩
    subst ef
    have ek : k = (wOf N).length := by omega
    subst ek
    rw [f_N_write_13, if_pos (nI_le (Nat.le_refl _) (by omega)), if_pos (fun i hi => hk i (by omega))]
    by_cases c : (wOf N).length = 0
    · rw [if_pos c, if_pos (show nI (wOf N).length = 0 by rw [c]; rfl)]
    · rw [if_neg c, if_neg (nI_nz (by omega) (by omega))]
  | succ m ih =>
    intro k f e hf hk
    obtain ⟨g, ef⟩ : ∃ g, f = g + 1 := ⟨f - 1, by omega⟩
    subst ef
    have e1 : nI k + Int32.ofInt 1 = nI (k + 1) := nI_1 k
    have lt := oc_lt N k
    have next : pLet (oc N k) = true → f_N_write_51 n (lN N) (f_N_write_13 n (lN N) g) (nI (wOf N).length) (nI k) M = if (∀ i, i < (wOf N).length → pLet (oc N i) = true) then (if (wOf N).length = 0 then f_N_write_77 n (lN N) (nI (wOf N).length) (nI (wOf N).length) 1 M else f_N_write_77 n (lN N) (nI (wOf N).length) (nI (wOf N).length) 0 M) else some (0, wI M n 0 1) := fun hp => by
      unfold f_N_write_51 f_N_write_52
      rw [r_fails0 z0, xb_some, if_pos rfl, e1]
      exact ih (k + 1) g (by omega) (by omega) (fun i hi => by
        by_cases c : i = k
        · rw [c]; exact hp
        · exact hk i (by omega))
    rw [f_N_write_13, if_neg (nI_ge (by omega) (by omega)), r_octet hN (by omega), xb_some, r_in32 lt, xb_some]
    by_cases c1 : 32 ≤ oc N k ∧ oc N k ≤ 126
    · rw [decide_eq_true c1, if_neg (by decide)]
      exact next (by unfold pLet; simp; omega)
    · rw [decide_eq_false c1, if_pos (show bI false = 0 from rfl), r_octet hN (by omega), xb_some]
      by_cases c10 : oc N k = 10
      · rw [if_pos (show nI (oc N k) = 10 by rw [c10]; rfl)]
        exact next (by unfold pLet; simp [c10])
      · rw [if_neg (show ¬ nI (oc N k) = 10 from fun e => c10 ((nI_eq (b := 10) (by omega) (by omega)).mp e))]
        have no : pLet (oc N k) = false := by unfold pLet; simp [c10]; omega
        rw [if_neg (fun h => by have := h k (by omega); rw [no] at this; cases this)]
        unfold f_N_write_52
        rw [r_fails1 (by decide) z0, xb_some, if_neg (by decide)]
theorem r_write_114 {n N : Nat} (hN : N < 2 ^ 64) {w : List Nat} (hw : w.length + (wOf N).length ≤ 160) : ∀ (m k f : Nat) (M : xMem), k + m = (wOf N).length → m < f → M.1 n 1 = nI w.length → (∀ i, i < w.length → M.1 (n + 1) i = nI (pc w i)) → (∀ i, i < k → M.1 (n + 1) (w.length + i) = nI (oc N i)) → ∃ M', f_N_write_114 n (lN N) f (nI (wOf N).length) (nI k) M = some (nI (w.length + (wOf N).length), M') ∧ M'.1 n 1 = nI (w ++ wOf N).length ∧ (∀ i, i < (w ++ wOf N).length → M'.1 (n + 1) i = nI (pc (w ++ wOf N) i)) ∧ rF (fun a k => (a = n ∧ k = 1) ∨ a = n + 1) M M' := by
  have h8 := wOf_len N
  intro m
  induction m with
  | zero =>
    intro k f M e hf h1 h2 h3
    obtain ⟨g, ef⟩ : ∃ g, f = g + 1 := ⟨f - 1, by omega⟩
    subst ef
    have ek : k = (wOf N).length := by omega
    subst ek
    refine ⟨wI M n 1 (nI (w.length + (wOf N).length)), ?_, by rw [mI_s rfl rfl, List.length_append], ?_, rF.I (.inl ⟨rfl, rfl⟩)⟩
    · rw [f_N_write_114, if_pos (nI_le (Nat.le_refl _) (by omega))]
      unfold xval xlet
      dsimp only
      rw [h1, nI_add, mI_s rfl rfl]
    · intro i hi
      rw [List.length_append] at hi
      rw [mI_n (by omega)]
      by_cases c : i < w.length
      · rw [pc_l c]; exact h2 i c
      · rw [pc_r (j := i - w.length) (by omega), wOf_at (by omega), ← h3 (i - w.length) (by omega), show w.length + (i - w.length) = i by omega]
  | succ m ih =>
    intro k f M e hf h1 h2 h3
    obtain ⟨g, ef⟩ : ∃ g, f = g + 1 := ⟨f - 1, by omega⟩
    subst ef
    have e1 : nI k + Int32.ofInt 1 = nI (k + 1) := nI_1 k
    obtain ⟨M', w1, w2, w3, w4⟩ := ih (k + 1) g (wI M (n + 1) (w.length + k) (nI (oc N k))) (by omega) (by omega) (by rw [mI_n (by omega)]; exact h1) (fun i hi => by rw [mI_k (by omega)]; exact h2 i hi) (fun i hi => by
      by_cases c : i = k
      · subst c; rw [mI_s rfl rfl]
      · rw [mI_k (by omega)]; exact h3 i (by omega))
    refine ⟨M', ?_, w2, w3, (rF.I (.inr rfl)).trans w4⟩
    rw [f_N_write_114, if_neg (nI_ge (by omega) (by omega))]
    unfold xval
    dsimp only
    rw [h1, nI_add, r_octet hN (by omega), xb_some, if_pos (xin_nI (by omega) (by decide)), nI_clamp (by omega), e1]
    exact w1
/-- both are given the same letters -/
theorem dA.wr {M M' : xMem} {b : Nat} {on : Nat → Bool} {gv : List (List Nat)} {t w w' : List Nat} {wp : Int32} {rd : Nat} (h : dA M b on gv t w wp rd) (f : pFr (b + 1) (b + 3) M M') (hg : pTx M' (b + 1) w') : dA M' b on gv t w' wp rd := by
  obtain ⟨h1, ⟨r0, r1, ⟨g1, g2, g3⟩, g4, g5⟩, h3, h4, h5⟩ := h
  exact ⟨h1, ⟨r0, r1, ⟨by rw [f.2]; exact g1, by rw [f.2]; exact g2, g3⟩, g4.on (f.on (by omega)), g5.on (f.on (by omega))⟩, hg, by rw [(f.1 b (by omega)).1]; exact h4, by rw [(f.1 b (by omega)).1]; exact h5⟩
theorem mA.wr {M M' : xMem} {n : Nat} {on : Nat → Bool} {gv : List (List Nat)} {t w w' : List Nat} {wp : Int32} {rd : Nat} (h : mA M n on gv t w wp rd) (f : rF (fun a k => (a = n ∧ k = 1) ∨ a = n + 1) M M') (h1 : M'.1 n 1 = nI w'.length) (h2 : ∀ i, i < w'.length → M'.1 (n + 1) i = nI (pc w' i)) : mA M' n on gv t w' wp rd := by
  obtain ⟨k1, _, k4, k5⟩ := h
  exact ⟨k1.nx (by intro a k; omega) f, ⟨h1, h2⟩, by rw [f.2 _ _ (by omega)]; exact k4, by rw [f.2 _ _ (by omega)]; exact k5⟩
theorem j_write {M : xMem} {b n : Nat} {x : Int64} (hn : b + 67 ≤ n) (h : jR M b n) : ∃ res M1 r M', f_D_write b x M = some (res, M1) ∧ f_N_write n x M1 = some (r, M') ∧ ansI (fun e => if e = 0 then 1 else 2) res r (M'.1 n 0) ∧ jR M' b n ∧ outR b (b + 67) M M1 ∧ rF (rAll n) M1 M' := by
  obtain ⟨on, gv, t, w, wp, rd, hd, hN⟩ := h
  obtain ⟨N, hX, ex⟩ := wb_of x
  subst ex
  have h8 := wOf_len N
  have hw := hd.2.2.1
  have w160 := hw.2.1
  have f0 : ∀ M : xMem, rF (rAll n) M (wI M n 0 0) := fun M => rF.I (by unfold rAll; omega)
  have z0 : ∀ M : xMem, (wI M n 0 0).1 n 0 = 0 := fun M => mI_s rfl rfl
  have eN : ∀ M : xMem, f_N_write n (lN N) M = if (∀ i, i < (wOf N).length → pLet (oc N i) = true) then (if (wOf N).length = 0 then f_N_write_77 n (lN N) (nI (wOf N).length) (nI (wOf N).length) 1 (wI M n 0 0) else f_N_write_77 n (lN N) (nI (wOf N).length) (nI (wOf N).length) 0 (wI M n 0 0)) else some (0, wI (wI M n 0 0) n 0 1) := by
    intro M
    unfold f_N_write xlet
    dsimp only
    rw [r_sizeOf hX, xb_some]
    exact r_write_13 hX (z0 M) (wOf N).length 0 xFuel (by omega) (by have := xFuel_200; omega) (fun i hi => by omega)
  have bad : ∀ (M1 : xMem) (e : Nat), f_D_write b (lN N) M = some (.inr e, M) → f_N_write n (lN N) M = some (0, wI (wI M n 0 0) n 0 (nI (if e = 0 then 1 else 2))) → ∃ res M1 r M', f_D_write b (lN N) M = some (res, M1) ∧ f_N_write n (lN N) M1 = some (r, M') ∧ ansI (fun e => if e = 0 then 1 else 2) res r (M'.1 n 0) ∧ jR M' b n ∧ outR b (b + 67) M M1 ∧ rF (rAll n) M1 M' := fun _ e h1 h2 => by
    have f1 : rF (rAll n) M (wI (wI M n 0 0) n 0 (nI (if e = 0 then 1 else 2))) := (f0 M).trans (rF.I (by unfold rAll; omega))
    exact ⟨.inr e, M, 0, _, h1, h2, .inr ⟨e, rfl, mI_s rfl rfl⟩, ⟨on, gv, t, w, wp, rd, hd.fr f1 hn, hN.er.er⟩, .rfl, f1⟩
  by_cases c0 : (wOf N).length = 0
  · refine bad M 0 ?_ ?_
    · unfold f_D_write f_D_write_17
      rw [p_octetsIn hX, xb_some, c0, if_pos (show nI 0 = 0 from rfl)]
    · rw [eN M, if_pos (fun i hi => by omega), if_pos c0]
      unfold f_N_write_77
      rw [r_fails1 (by decide) (z0 M), xb_some, if_neg (by decide)]
      rfl
  by_cases ca : ∀ i, i < (wOf N).length → pLet (oc N i) = true
  · have eN1 : ∀ M1 : xMem, M1.1 n 1 = nI w.length → f_N_write n (lN N) M1 = if w.length + (wOf N).length ≤ 160 then f_N_write_114 n (lN N) xFuel (nI (wOf N).length) 0 (wI M1 n 0 0) else some (0, wI (wI M1 n 0 0) n 0 2) := by
      intro M1 h1
      rw [eN M1, if_pos ca, if_neg c0]
      unfold f_N_write_77
      rw [r_fails0 (z0 M1), xb_some, if_pos rfl, mI_k (by decide), h1, nI_add]
      unfold f_N_write_102
      by_cases cw : w.length + (wOf N).length ≤ 160
      · rw [if_pos (show nI (w.length + (wOf N).length) ≤ 160 from nI_le (b := 160) cw (by omega)), if_pos cw, r_fails0 (z0 M1), xb_some, if_pos rfl]
      · rw [if_neg (show ¬ nI (w.length + (wOf N).length) ≤ 160 from nI_ge (a := 160) (by omega) (by omega)), if_neg cw, r_fails1 (by decide) (z0 M1), xb_some, if_neg (by decide)]
    have eD : f_D_write b (lN N) M = if w.length + (wOf N).length ≤ 160 then f_D_write_55 b (lN N) xFuel (nI (wOf N).length) 0 M else some (.inr 2, M) := by
      unfold f_D_write
      rw [p_octetsIn hX, xb_some, if_neg (nI_nz (by omega) (by omega)), p_areLetters hX h8, xb_some, decide_eq_true ca, if_neg (by decide), hw.1, nI_add]
      by_cases cw : w.length + (wOf N).length ≤ 160
      · rw [if_pos (show nI (w.length + (wOf N).length) ≤ 160 from nI_le (b := 160) cw (by omega)), if_pos cw]
      · rw [if_neg (show ¬ nI (w.length + (wOf N).length) ≤ 160 from nI_ge (a := 160) (by omega) (by omega)), if_neg cw]
    by_cases cw : w.length + (wOf N).length ≤ 160
    · rw [if_pos cw] at eD
      obtain ⟨M1, o1, o2, o3⟩ := p_write_55 (b := b) hX (wOf N).length 0 xFuel M w (by omega) (by have := xFuel_200; omega) hw (by omega)
      rw [sl_all] at o2
      have out1 : outR b (b + 67) M M1 := o3.out (by omega)
      have hd1 := hd.wr o3 o2
      have hN1 := hN.fr out1 hn
      have eN2 := eN1 M1 hN1.2.1.1
      rw [if_pos cw] at eN2
      obtain ⟨M', w1, w2, w3, w4⟩ := r_write_114 hX cw (wOf N).length 0 xFuel (wI M1 n 0 0) (by omega) (by have := xFuel_200; omega) hN1.er.2.1.1 hN1.er.2.1.2 (fun i hi => by omega)
      have f2 : rF (rAll n) M1 M' := (f0 M1).trans (w4.mono (by intro a k; unfold rAll; omega))
      refine ⟨.inl (nI (w.length + (wOf N).length)), M1, nI (w.length + (wOf N).length), M', by rw [eD]; exact o1, by rw [eN2]; exact w1, .inl ⟨_, rfl, rfl, ?_⟩, ⟨on, gv, t, w ++ wOf N, wp, rd, hd1.fr f2 hn, hN1.er.wr w4 w2 w3⟩, out1, f2⟩
      rw [w4.2 _ _ (by omega)]; exact z0 M1
    · refine bad M 2 (by rw [eD, if_neg cw]) ?_
      rw [eN1 M hN.2.1.1, if_neg cw]
      rfl
  · refine bad M 0 ?_ ?_
    · unfold f_D_write f_D_write_17
      rw [p_octetsIn hX, xb_some, if_neg (nI_nz (by omega) (by omega)), p_areLetters hX h8, xb_some, decide_eq_false ca, if_pos (show bI false = 0 from rfl)]
    · rw [eN M, if_neg ca]
      rfl
