/-! PURE: count, rule -/
theorem r_free {M : xMem} {n : Nat} {t : List Nat} {L : qL} {p1 : Int32} (h2 : M.1 n 41 = nI (L 2).length) (hl : (L 2).length ≤ 60) (hl1 : (L 1).length ≤ 60) (h26 : ∀ u, u < (L 2).length → M.1 (n + 26) u = if qBd' t L (qg (L 2) u) < (L 1).length then nI (qBd' t L (qg (L 2) u)) else -1) : ∀ (m v fuel : Nat), v + m = (L 2).length → m < fuel → ∃ g, f_N_count_38 n p1 fuel (nI (cF t L v)) (nI v) M = f_N_count_38 n p1 (g + 1) (nI (cF t L (L 2).length)) (nI (L 2).length) M := by
  intro m
  induction m with
  | zero =>
    intro v fuel e hf
    have : v = (L 2).length := by omega
    subst this
    exact ⟨fuel - 1, by rw [show fuel - 1 + 1 = fuel by omega]⟩
  | succ m ih =>
    intro v fuel e hf
    obtain ⟨g, ef⟩ : ∃ g, fuel = g + 1 := ⟨fuel - 1, by omega⟩
    subst ef
    obtain ⟨g', i1⟩ := ih (v + 1) g (by omega) (by omega)
    refine ⟨g', ?_⟩
    have e1 : nI v + Int32.ofInt 1 = nI (v + 1) := nI_1 v
    rw [← i1, f_N_count_38, h2, if_neg (nI_ge (by omega) (by omega)), if_pos (xin_nI (by omega) (by decide)), nI_clamp (by omega), h26 v (by omega)]
    unfold f_N_count_58
    rw [e1, cF]
    by_cases c : qBd' t L (qg (L 2) v) < (L 1).length
    · rw [if_pos c, if_pos (show (0 : Int32) ≤ nI (qBd' t L (qg (L 2) v)) from nI_le (a := 0) (Nat.zero_le _) (by omega)), if_pos c]
      rfl
    · have e2 : nI (cF t L v) + Int32.ofInt 1 = nI (cF t L v + 1) := nI_1 _
      rw [if_neg c, if_neg (by decide), if_neg c, e2]
theorem j_count {M : xMem} {b n : Nat} {k : Int32} (hn : b + 67 ≤ n) (h : jR M b n) : ∃ res r M', f_D_count b k M = some (res, M) ∧ f_N_count n k M = some (r, M') ∧ ansI (fun _ => 1) res r (M'.1 n 0) ∧ jR M' b n ∧ rF (rAll n) M M' := by
  obtain ⟨on, gv, t, w, wp, rd, hd, hN⟩ := h
  have f0 : rF (rAll n) M (wI M n 0 0) := rF.I (by unfold rAll; omega)
  obtain ⟨hp, ⟨r0, r1, hS⟩, hw, h4, h5⟩ := id hd
  obtain ⟨tok, sc, hq⟩ := hp.run
  have hF := (q_pg hp.1 hq).2.1
  have z0 : (wI M n 0 0).1 n 0 = 0 := mI_s rfl rfl
  have eN : f_N_count n k M = if xin k 10 = true then f_N_count_21 n k 0 (wI M n 0 0) else f_N_count_21 n k 1 (wI M n 0 0) := by
    unfold f_N_count xlet
    dsimp only
    rw [r_in, xb_some]
    have := in_lit (k := k) (n := 9) (by omega)
    rw [show decide (0 ≤ k ∧ k ≤ 9) = xin k 10 from this]
    cases xin k 10 with
    | true => rw [if_neg (by decide), if_pos rfl]
    | false => rw [if_pos (show bI false = 0 from rfl), if_neg (by decide)]
  cases q : xin k 10 with
  | false =>
    rw [q, if_neg (by decide)] at eN
    have f1 : rF (rAll n) M (wI (wI M n 0 0) n 0 1) := f0.trans (rF.I (by unfold rAll; omega))
    refine ⟨.inr 0, 0, wI (wI M n 0 0) n 0 1, ?_, ?_, .inr ⟨0, rfl, mI_s rfl rfl⟩, ⟨on, gv, t, w, wp, rd, hd.fr f1 hn, hN.er.er⟩, f1⟩
    · unfold f_D_count
      have ne : ∀ i, i < 10 → k ≠ nI i := fun i hi e => by rw [e, xin_nI hi (by decide)] at q; cases q
      rw [if_neg (show ¬ k = 0 from ne 0 (by omega)), if_neg (show ¬ k = 1 from ne 1 (by omega)), if_neg (show ¬ k = 2 from ne 2 (by omega)), if_neg (show ¬ k = 3 from ne 3 (by omega)), if_neg (show ¬ k = 4 from ne 4 (by omega)), if_neg (show ¬ k = 5 from ne 5 (by omega)), if_neg (show ¬ k = 6 from ne 6 (by omega)), if_neg (show ¬ k = 7 from ne 7 (by omega)), if_neg (show ¬ k = 8 from ne 8 (by omega)), if_neg (show ¬ k = 9 from ne 9 (by omega))]
    · rw [eN]
      unfold f_N_count_21
      rw [r_fails1 (by decide) z0, xb_some, if_neg (by decide)]
  | true =>
    obtain ⟨j, j1, j2, j3⟩ := xin_ex q
    rw [q, if_pos rfl] at eN
    obtain ⟨M1, l1, l2, l3, l4, l5⟩ := hN.er.looks hp (M := wI M n 0 0)
    have f1 := f0.trans l5
    have nE := l2.1.1
    obtain ⟨g, fr⟩ := r_free (M := M1) (n := n) (t := t) (L := Lof t) (p1 := k) nE.2.2.2.2.1.1 hF.2.2.2.1 hF.2.2.1 nE.2.2.2.2.2.1 ((Lof t) 2).length 0 xFuel (by omega) (by have := hF.2.2.2.1; unfold xFuel; omega)
    have fr : f_N_count_38 n k xFuel 0 0 M1 = _ := fr
    unfold f_N_count_21 at eN
    rw [r_fails0 z0, xb_some, if_pos rfl, l1, xb_some, fr, f_N_count_38, nE.2.2.2.2.1.1, if_pos (nI_le (Nat.le_refl _) (by have := hF.2.2.2.1; omega))] at eN
    have z1 : M1.1 n 0 = 0 := by rw [l4]; exact z0
    have fin : ∀ v : Int32, f_D_count b k M = some (.inl v, M) → f_N_count n k M = some (v, M1) → ∃ res r M', f_D_count b k M = some (res, M) ∧ f_N_count n k M = some (r, M') ∧ ansI (fun _ => 1) res r (M'.1 n 0) ∧ jR M' b n ∧ rF (rAll n) M M' := fun v h1 h2 => ⟨.inl v, v, M1, h1, h2, .inl ⟨v, rfl, rfl, z1⟩, ⟨on, gv, t, w, wp, rd, hd.fr f1 hn, l3⟩, f1⟩
    have ed : f_D_count b k M = f_D_count b k M := rfl
    unfold f_D_count at ed
    have ed : f_D_count b k M = _ := ed
    rw [hS.srcS, hS.srcS, hS.srcS, hS.srcS, hS.srcS, hS.srcS, hS.srcS] at ed
    have d0 : M.1 r0 1 = nI t.length := hS.lx.1.1
    have d1 : M.1 (r0 + 2) 6 = nI (nT t) := hS.lx.2.1
    have d2 := p_findingsIn (hS.gfd hp.1 hq)
    have d3 : M.1 (r0 + 12) 8 = nI ((Lof t) 1).length := hS.2.2.2.2.1.1
    have d4 : M.1 (r0 + 8) 3 = nI ((Lof t) 0).length := hS.2.2.2.1.1
    have d5 : M.1 (r0 + 25) 8 = nI (cF t (Lof t) ((Lof t) 2).length) := hS.2.2.2.2.2.1.2.1
    have d7 : M.1 (b + 3) 1 = nI gv.length := hS.2.1.1
    have d9 := p_excusedIn (hS.gfd hp.1 hq)
    have c10 : j = 0 ∨ j = 1 ∨ j = 2 ∨ j = 3 ∨ j = 4 ∨ j = 5 ∨ j = 6 ∨ j = 7 ∨ j = 8 ∨ j = 9 := by omega
    rcases c10 with c | c | c | c | c | c | c | c | c | c
    · subst c j2
      exact fin (nI t.length) (by rw [ed]; exact congrArg (fun v => some (Sum.inl v, M)) d0) (by rw [eN]; exact congrArg (fun v => some (v, M1)) nE.1.1.1)
    · subst c j2
      exact fin (nI (nT t)) (by rw [ed]; exact congrArg (fun v => some (Sum.inl v, M)) d1) (by rw [eN]; exact congrArg (fun v => some (v, M1)) nE.1.2.1)
    · subst c j2
      refine fin (nI (cnt (sP on gv t (qEnd t (Lof t)) ((Lof t) 4)) (10 * nT t))) ?_ (by rw [eN]; exact congrArg (fun v => some (v, M1)) l2.2.1)
      rw [ed, if_neg (show ¬ nI 2 = 0 by decide), if_neg (show ¬ nI 2 = 1 by decide), if_pos (show nI 2 = 2 from rfl), d2, xb_some]
    · subst c j2
      exact fin (nI ((Lof t) 1).length) (by rw [ed]; exact congrArg (fun v => some (Sum.inl v, M)) d3) (by rw [eN]; exact congrArg (fun v => some (v, M1)) nE.2.2.1.1)
    · subst c j2
      exact fin (nI ((Lof t) 0).length) (by rw [ed]; exact congrArg (fun v => some (Sum.inl v, M)) d4) (by rw [eN]; exact congrArg (fun v => some (v, M1)) nE.2.1.1)
    · subst c j2
      exact fin (nI (cF t (Lof t) ((Lof t) 2).length)) (by rw [ed]; exact congrArg (fun v => some (Sum.inl v, M)) d5) (by rw [eN]; rfl)
    · subst c j2
      exact fin (nI rd) (by rw [ed]; exact congrArg (fun v => some (Sum.inl v, M)) h5) (by rw [eN]; exact congrArg (fun v => some (v, M1)) l3.2.2.2)
    · subst c j2
      exact fin (nI gv.length) (by rw [ed]; exact congrArg (fun v => some (Sum.inl v, M)) d7) (by rw [eN]; exact congrArg (fun v => some (v, M1)) l2.1.2.1)
    · subst c j2
      exact fin (nI w.length) (by rw [ed]; exact congrArg (fun v => some (Sum.inl v, M)) hw.1) (by rw [eN]; exact congrArg (fun v => some (v, M1)) l3.2.1.1)
    · subst c j2
      refine fin (nI (cnt (sX on gv t (qEnd t (Lof t)) ((Lof t) 4)) (10 * nT t))) ?_ (by rw [eN]; exact congrArg (fun v => some (v, M1)) l2.2.2.1)
      rw [ed]
      show xbind (f_G_excusedIn (b + 3) r0 M) _ = _
      rw [d9, xb_some]
