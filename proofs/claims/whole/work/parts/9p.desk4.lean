/-! PURE: rule -/
theorem dA.set {M M' : xMem} {b : Nat} {on on' : Nat → Bool} {gv gv' : List (List Nat)} {t w : List Nat} {wp : Int32} {rd : Nat} (h : dA M b on gv t w wp rd) (f : pFr (b + 3) (b + 5) M M') (hg : gSt M' (b + 3) on' gv') : dA M' b on' gv' t w wp rd := by
  obtain ⟨h1, ⟨r0, r1, ⟨g1, g2, g3⟩, g4, g5⟩, h3, h4, h5⟩ := h
  refine ⟨h1, ⟨r0, r1, ⟨by rw [f.2]; exact g1, by rw [f.2]; exact g2, g3⟩, hg, g5.on (f.on (by omega))⟩, h3.on (f.on (by omega)), by rw [(f.1 b (by omega)).1]; exact h4, by rw [(f.1 b (by omega)).1]; exact h5⟩
theorem mA.set {M M' : xMem} {n : Nat} {on on' : Nat → Bool} {gv gv' : List (List Nat)} {t w : List Nat} {wp : Int32} {rd : Nat} (h : mA M n on gv t w wp rd) (f : rF (fun a k => (a = n ∧ (k = 0 ∨ k = 6)) ∨ (n + 5 ≤ a ∧ a ≤ n + 7)) M M') (hg : nSt M' n on' gv') : mA M' n on' gv' t w wp rd := by
  obtain ⟨h1, ⟨h2, h3⟩, h4, h5⟩ := h
  refine ⟨⟨?_, hg⟩, ⟨by rw [f.2 _ _ (by omega)]; exact h2, fun i hi => by rw [f.2 _ _ (by omega)]; exact h3 i hi⟩, by rw [f.2 _ _ (by omega)]; exact h4, by rw [f.2 _ _ (by omega)]; exact h5⟩
  obtain ⟨⟨k1, k0, kk1, h22, k2, h26, k14, k15, k16, k6, k18, k19, k4, kx⟩, s1, s2, s3, s4, s5⟩ := h1
  have f2 := f.2
  refine ⟨?_, k0.fr f (by omega) ?_, kk1.fr f (by omega) ?_, ?_, k2.fr f (by omega) ?_, ?_, k14.fr f (by omega) ?_, k15.fr f (by omega) ?_, k16.fr f (by omega) ?_, k6.fr f (by omega) ?_, k18.fr f (by omega) ?_, k19.fr f (by omega) ?_, k4.fr f (by omega) ?_, ?_⟩
  · obtain ⟨⟨x1, x2, x3, x4⟩, x5, x6, x7, x8⟩ := k1
    refine ⟨⟨by rw [f2 _ _ (by omega)]; exact x1, x2, fun i hi => by rw [f2 _ _ (by omega)]; exact x3 i hi, x4⟩, by rw [f2 _ _ (by omega)]; exact x5, ?_, by rw [f2 _ _ (by omega)]; exact x7, by rw [f2 _ _ (by omega)]; exact x8⟩
    intro i hi
    have := x6 i hi
    unfold rEn at this ⊢
    rw [f2 _ _ (by omega), f2 _ _ (by omega), f2 _ _ (by omega)]
    exact this
  all_goals first
    | (intro a ha j; simp [c0, c1s, c2, c14, c15, c16, c6, c18, c19, c4] at ha; omega)
    | skip
  · intro i hi
    rw [f2 _ _ (by omega), f2 _ _ (by omega)]; exact h22 i hi
  · intro u hu
    rw [f2 _ _ (by omega)]; exact h26 u hu
  · intro i hi hne
    rw [f2 _ _ (by omega)]; exact kx i hi hne
theorem j_rule {M : xMem} {b n : Nat} {k k2 : Int32} (hn : b + 67 ≤ n) (h : jR M b n) : ∃ res M1 r M', f_D_rule b k k2 M = some (res, M1) ∧ f_N_rule n k k2 M1 = some (r, M') ∧ ansI (fun _ => 1) res r (M'.1 n 0) ∧ jR M' b n ∧ outR b (b + 67) M M1 ∧ rF (rAll n) M1 M' := by
  obtain ⟨on, gv, t, w, wp, rd, hd, hN⟩ := h
  have eN : ∀ M : xMem, f_N_rule n k k2 M = if xin k 10 = true then f_N_rule_21 n k k2 0 (wI M n 0 0) else f_N_rule_21 n k k2 1 (wI M n 0 0) := by
    intro M
    unfold f_N_rule xlet
    dsimp only
    rw [r_in, xb_some]
    have := in_lit (k := k) (n := 9) (by omega)
    rw [show decide (0 ≤ k ∧ k ≤ 9) = xin k 10 from this]
    cases xin k 10 with
    | true => rw [if_neg (by decide), if_pos rfl]
    | false => rw [if_pos (show bI false = 0 from rfl), if_neg (by decide)]
  cases q : xin k 10 with
  | false =>
    have eN := eN M
    rw [q, if_neg (by decide)] at eN
    have z0 : (wI M n 0 0).1 n 0 = 0 := mI_s rfl rfl
    have f1 : rF (rAll n) M (wI (wI M n 0 0) n 0 1) := (rF.I (by unfold rAll; omega)).trans (rF.I (by unfold rAll; omega))
    refine ⟨.inr 0, M, 0, wI (wI M n 0 0) n 0 1, ?_, ?_, .inr ⟨0, rfl, mI_s rfl rfl⟩, ⟨on, gv, t, w, wp, rd, hd.fr f1 hn, hN.er.er⟩, .rfl, f1⟩
    · unfold f_D_rule f_D_rule_10
      rcases not_in (by omega) q with c | c
      · rw [if_pos c]
      · by_cases c0 : k < 0
        · rw [if_pos c0]
        · rw [if_neg c0, if_neg (show ¬ k < 10 from c)]
    · rw [eN]
      unfold f_N_rule_21
      rw [r_fails1 (by decide) z0, xb_some, if_neg (by decide)]
  | true =>
    obtain ⟨j, j1, j2, j3⟩ := xin_ex q
    obtain ⟨hp, ⟨r0, r1, hS⟩, hd'⟩ := id hd
    obtain ⟨g1, g2, g3, g4, g5⟩ := id hS.2.1
    subst j2
    -- the class
    have isOn : f_G_isOn (b + 3) (nI j) M = some (bI (on j), M) := by
      unfold f_G_isOn
      have a := g3.at j1
      cases c : on j with
      | true =>
        rw [if_neg (fun e => (a.mp e) c)]; rfl
      | false => rw [if_pos (a.mpr (by rw [c]; decide))]; rfl
    have one : rBits (fun r => r = j) ((1 : Int32) <<< (nI j &&& 31)) := by
      have := (rBits_0 (P := fun _ => False) (fun r _ h => h)).or j1
      have e0 : nI 0 ||| ((1 : Int32) <<< (nI j &&& 31)) = (1 : Int32) <<< (nI j &&& 31) := by
        show (0 : Int32) ||| _ = _
        exact Int32.zero_or
      rw [e0] at this
      exact this.iff (fun r _ => by simp)
    obtain ⟨on', M1, tn, st1, hon⟩ : ∃ on' M1, f_G_turn (b + 3) (nI j) k2 M = some ((), M1) ∧ (gSt M1 (b + 3) on' gv ∧ pFr (b + 3) (b + 5) M M1) ∧ (∀ r, r < 10 → on' r = if r = j then decide (k2 ≠ 0) else on r) := by
      by_cases c : k2 = 0
      · refine ⟨fun r => on r && !(r == j), wI M (b + 3) 2 (M.1 (b + 3) 2 &&& (((1 : Int32) <<< (nI j &&& 31)) ^^^ (-1))), ?_, ⟨⟨?_, g2, ?_, ?_, g5⟩, pFr.I (by omega)⟩, ?_⟩
        · unfold f_G_turn f_G_turn_26 xlet
          rw [if_pos c]
        · rw [mI_k (by decide)]; exact g1
        · rw [mI_s rfl rfl]
          exact (g3.diff one).iff (fun r _ => by simp)
        · exact g4
        · intro r _
          by_cases e : r = j
          · subst e; simp [c]
          · simp [e]
      · refine ⟨fun r => on r || (r == j), wI M (b + 3) 2 (M.1 (b + 3) 2 ||| ((1 : Int32) <<< (nI j &&& 31))), ?_, ⟨⟨?_, g2, ?_, ?_, g5⟩, pFr.I (by omega)⟩, ?_⟩
        · unfold f_G_turn f_G_turn_26 xlet
          rw [if_neg c]
        · rw [mI_k (by decide)]; exact g1
        · rw [mI_s rfl rfl]
          exact (g3.or j1).iff (fun r _ => by simp)
        · exact g4
        · intro r _
          by_cases e : r = j
          · subst e; simp [c]
          · simp [e]
    have out1 : outR b (b + 67) M M1 := st1.2.out (by omega)
    have hd1 : dA M1 b on' gv t w wp rd := hd.set st1.2 st1.1
    have hN1 := hN.fr out1 hn
    -- the reference
    have eN := eN M1
    rw [q, if_pos rfl] at eN
    have z0 : (wI M1 n 0 0).1 n 0 = 0 := mI_s rfl rfl
    obtain ⟨s1, s2, s3, s4, s5⟩ := id hN1.er.1.2
    have s4j := s4 j j1
    have e21 : f_N_rule_21 n (nI j) k2 0 (wI M1 n 0 0) = some (bI (on j), wI (wI M1 n 0 0) (n + 7) j (bI (!decide (k2 ≠ 0)))) := by
      unfold f_N_rule_21
      rw [r_fails0 z0, xb_some, if_pos rfl, if_pos (xin_nI (by omega) (by decide)), nI_clamp (by omega), s4j]
      unfold f_N_rule_44 f_N_rule_59 xlet
      have x10 : xin (nI j) 10 = true := xin_nI j1 (by decide)
      rw [x10, nI_clamp (by omega)]
      simp only [↓reduceIte]
      have vN1 : vp_nar .boolean 1 = 1 := vp_narB1
      have vN0 : vp_nar .boolean 0 = 0 := vp_narB0
      have xN1 : xnar .boolean 1 = true := xnarB1
      have xN0 : xnar .boolean 0 = true := xnarB0
      have bt : bI true = 1 := rfl
      have bf : bI false = 0 := rfl
      have h10 : ((1 : Int32) = 0) = False := eq_false (by decide)
      by_cases c : k2 = 0
      · have d : decide (k2 ≠ 0) = false := decide_eq_false (fun e => e c)
        rw [d]
        cases o : on j with
        | true => simp only [c, vN1, vN0, xN1, xN0, bt, bf, h10, Bool.not_true, Bool.not_false, ↓reduceIte]
        | false => simp only [c, vN1, vN0, xN1, xN0, bt, bf, h10, Bool.not_true, Bool.not_false, ↓reduceIte]
      · have d : decide (k2 ≠ 0) = true := decide_eq_true c
        rw [d]
        cases o : on j with
        | true => simp only [c, vN1, vN0, xN1, xN0, bt, bf, h10, Bool.not_true, Bool.not_false, ↓reduceIte]
        | false => simp only [c, vN1, vN0, xN1, xN0, bt, bf, h10, Bool.not_true, Bool.not_false, ↓reduceIte]
    have f2 : rF (rAll n) M1 (wI (wI M1 n 0 0) (n + 7) j (bI (!decide (k2 ≠ 0)))) := (rF.I (by unfold rAll; omega)).trans (rF.I (by unfold rAll; omega))
    have fs : rF (fun a k => (a = n ∧ (k = 0 ∨ k = 6)) ∨ (n + 5 ≤ a ∧ a ≤ n + 7)) M1 (wI (wI M1 n 0 0) (n + 7) j (bI (!decide (k2 ≠ 0)))) := (rF.I (by omega)).trans (rF.I (by omega))
    have st2 : nSt (wI (wI M1 n 0 0) (n + 7) j (bI (!decide (k2 ≠ 0)))) n on' gv := by
      refine ⟨by rw [mI_n (by omega)]; exact s1, s2, ?_, ?_, s5⟩
      · intro i hi
        have := s3 i hi
        exact ⟨by rw [mI_n (by omega)]; exact this.1, fun x hx => by rw [mI_n (by omega)]; exact this.2 x hx⟩
      · intro r hr
        rw [hon r hr]
        by_cases e : r = j
        · subst e
          rw [mI_s rfl rfl, if_pos rfl]
        · rw [mI_k e, if_neg e]; exact s4 r hr
    refine ⟨.inl (bI (on j)), M1, bI (on j), _, ?_, by rw [eN, e21], .inl ⟨_, rfl, rfl, ?_⟩, ⟨on', gv, t, w, wp, rd, hd1.fr f2 hn, hN1.set fs st2⟩, out1, f2⟩
    · unfold f_D_rule
      rw [if_neg (nI_pos (by omega)), if_pos (show nI j < 10 from nI_lt (b := 10) j1 (by omega)), isOn, xb_some, tn, xb_some, xnarB, if_pos rfl]
    · rw [mI_n (by omega)]; exact z0
