/-! PURE: the reference's looks(): USES and things -/
theorem pW_256 {t : List Nat} {p : Nat} (h : ∀ i, pc t i < 256) : ∀ i, pc (pW t p) i < 256 := by
  intro i
  by_cases c : i < pE (pLex t) p - pS (pLex t) p
  · rw [pW_at c]; exact h _
  · unfold pc
    rw [List.getD_eq_getElem?_getD, List.getElem?_eq_none (by rw [pW_len]; omega)]
    show 0 < 256
    omega
theorem r_isGivenT {M : xMem} {b p : Nat} {on : Nat → Bool} {gv : List (List Nat)} {t : List Nat} (hx : rLx M b t) (hs : nSt M b on gv) (hp : p < nT t) : f_N_isGiven b (nI p) M = some (bI (decide (pW t p ∈ gv)), M) := by
  have hT := nT_le t
  obtain ⟨a1, a2, a3⟩ := hx.2.2.1 p hp
  have l := pS_lt_E hp
  have le := (pS_le t p).2
  have t160 := hx.1.2.1
  refine r_isGiven hs (by omega) a2 a3 (by omega) (by omega) (pW_len t p) ?_ (pW_256 hx.1.2.2.2)
  intro i hi
  rw [pW_len] at hi
  rw [pW_at hi]
  exact hx.1.2.2.1 _ (by omega)
theorem kok_name {t : List Nat} {p r : Nat} (h : kT t p = 23) (hr : r ≤ 4) : kok t (10 * p + r) := by
  have e := code_mod (p := p) (r := r) (by omega)
  unfold kok
  rw [e.1, e.2]
  exact ⟨kT_real (by omega), .inl ⟨h, hr⟩⟩
theorem r_looks_12 {b : Nat} {on : Nat → Bool} {gv : List (List Nat)} {t : List Nat} {L : qL} (hP : qPg t L) : ∀ (m v fuel : Nat) (M : xMem), v + m = (L 2).length → m < fuel → nLk M b on gv t L (dU t L (fun _ => false) v) → ∃ M', f_N_looks_12 b fuel (nI v) M = f_N_looks_120 b xFuel 0 M' ∧ nLk M' b on gv t L (dU t L (fun _ => false) (L 2).length) ∧ rF (rFdS b) M M' := by
  obtain ⟨f1, f2, f3, f4, f5, f6⟩ := hP.2.1
  have ht := hP.1
  intro m
  induction m with
  | zero =>
    intro v fuel M hv hf h
    obtain ⟨f, rfl⟩ : ∃ f, fuel = f + 1 := ⟨fuel - 1, by omega⟩
    have e : v = (L 2).length := by omega
    subst e
    refine ⟨M, ?_, h, rF.rfl⟩
    rw [f_N_looks_12, if_pos (show M.1 b 41 ≤ nI (L 2).length by rw [h.1.1.2.2.2.2.1.1]; exact nI_le (Nat.le_refl _) (by omega))]
  | succ m ih =>
    intro v fuel M hv hf h
    obtain ⟨f, rfl⟩ : ∃ f, fuel = f + 1 := ⟨fuel - 1, by omega⟩
    have hvl : v < (L 2).length := by omega
    obtain ⟨u1, u2, u3⟩ := f6 v hvl
    have k60 := kT_60 u2
    have kr := kT_real (t := t) (i := (qg (L 2) v).1) (by omega)
    obtain ⟨hx, k0, k1, k22, k2, k26, _⟩ := h.1.1
    have e24 : M.1 (b + 24) v = nI (qg (L 2) v).1 := k2.at (c := (24, fun e => nI e.1)) (by simp [c2]) hvl
    have e27 : M.1 (b + 27) v = nI (qg (L 2) v).2.2.1 := k2.at (c := (27, fun e => nI e.2.2.1)) (by simp [c2]) hvl
    have e26 := k26 v hvl
    have e9 := (hx.2.2.1 _ kr).2.1
    have x64 : xin (nI v) 64 = true := xin_T (by omega) (by omega)
    have x24 : xin (nI (qg (L 2) v).1) 64 = true := xin_T (by omega) (by omega)
    have cv : (nI v).toNatClampNeg = v := nI_clampT (by omega)
    have cp : (nI (qg (L 2) v).1).toNatClampNeg = (qg (L 2) v).1 := nI_clampT (by omega)
    have top : ¬ M.1 b 41 ≤ nI v := by rw [k2.1]; exact nI_ge (by omega) (by omega)
    have fresh : ∀ r, dU t L (fun _ => false) v (10 * (qg (L 2) v).1 + r) = false ∨ ¬ r < 10 := by
      intro r
      by_cases hr : r < 10
      · left
        cases q : dU t L (fun _ => false) v (10 * (qg (L 2) v).1 + r) with
        | false => rfl
        | true =>
          rcases dU_mem q with q | ⟨u, a1, a2, _⟩
          · cases q
          · rw [(code_mod hr).2] at a2
            have := q_inc hP.2.2.2.1 (f := 2) (by decide) a1 hvl
            omega
      · exact .inr hr
    have fr : ∀ r, r < 10 → dU t L (fun _ => false) v (10 * (qg (L 2) v).1 + r) = false := fun r hr => (fresh r).resolve_right (fun h => h hr)
    have next : ∀ (M1 : xMem), nLk M1 b on gv t L (dU t L (fun _ => false) (v + 1)) → rF (rFdS b) M M1 → f_N_looks_12 b (f + 1) (nI v) M = f_N_looks_12 b f (nI (v + 1)) M1 → ∃ M', f_N_looks_12 b (f + 1) (nI v) M = f_N_looks_120 b xFuel 0 M' ∧ nLk M' b on gv t L (dU t L (fun _ => false) (L 2).length) ∧ rF (rFdS b) M M' := by
      intro M1 r1 fr1 o
      obtain ⟨M', o2, r2, fr2⟩ := ih (v + 1) f M1 (by omega) (by omega) r1
      exact ⟨M', o.trans o2, r2, fr1.trans fr2⟩
    by_cases c : qBd' t L (qg (L 2) v) < (L 1).length
    · obtain ⟨t1, t2, t3⟩ := f5 _ c
      rw [if_pos c] at e26
      obtain ⟨M1, o1, l1, fr1⟩ := h.find (p := (qg (L 2) v).1) (r := 2) (is := decide ((qg (L 2) v).2.2.1 ≠ 0 ∧ (qg (L 1) (qBd' t L (qg (L 2) v))).2.2.1 = 1)) hP (by omega) (kok_name u2 (by omega)) (fr 2 (by omega)) (fun _ e => absurd e.1 (by decide))
      have ie := r_isEarly ht l1.1.1 hP.2.1 hvl c
      obtain ⟨M2, o2, l2, fr2⟩ := l1.find (p := (qg (L 2) v).1) (r := 3) (is := qEarly L (qg (L 2) v) (qBd' t L (qg (L 2) v))) hP (by omega) (kok_name u2 (by omega)) (by rw [ad_ne (by omega)]; exact fr 3 (by omega)) (fun _ e => absurd e.1 (by decide))
      refine next M2 (by rw [dU]; unfold uD; rw [if_pos c]; exact l2) (fr1.trans fr2) ?_
      have e20 : M.1 (b + 20) (qBd' t L (qg (L 2) v)) = nI (qg (L 1) (qBd' t L (qg (L 2) v))).2.2.1 := k1.at (c := (20, fun e => nI e.2.2.1)) (by simp [c1s]) c
      generalize hn : qBd' t L (qg (L 2) v) = n at *
      have ge : 0 ≤ nI n := (nI_le (a := 0) (Nat.zero_le _) (by omega) : nI 0 ≤ nI n)
      have step : ∀ is : Bool, is = decide ((qg (L 2) v).2.2.1 ≠ 0 ∧ (qg (L 1) n).2.2.1 = 1) → f_N_looks_95 b (f_N_looks_12 b f) (nI v) (nI n) (nI (pS (pLex t) (qg (L 2) v).1)) (bI is) M = f_N_looks_12 b f (nI (v + 1)) M2 := by
        intro is his
        subst his
        have o1 : f_N_finds b (bI (decide ((qg (L 2) v).2.2.1 ≠ 0 ∧ (qg (L 1) n).2.2.1 = 1))) 2 (nI (pS (pLex t) (qg (L 2) v).1)) M = some ((), M1) := o1
        have o2 : f_N_finds b (bI (qEarly L (qg (L 2) v) n)) 3 (nI (pS (pLex t) (qg (L 2) v).1)) M1 = some ((), M2) := o2
        unfold f_N_looks_95 f_N_looks_112
        rw [o1, xb_some, ie, xb_some, o2, xb_some, nI_inc]
      rw [f_N_looks_12, if_neg top, if_pos x64, if_pos x64, cv, e24, if_pos x24, e26, if_pos ge, if_pos x64, e27, cp, e9]
      unfold f_N_looks_94
      by_cases cw : (qg (L 2) v).2.2.1 = 0
      · rw [if_pos (show nI (qg (L 2) v).2.2.1 = 0 by rw [cw]; rfl)]
        exact step false (decide_eq_false (fun e => e.1 cw)).symm
      · rw [if_neg (show ¬ nI (qg (L 2) v).2.2.1 = 0 by rw [show (qg (L 2) v).2.2.1 = 1 by omega]; decide), if_pos (xin_T (by omega) (by omega)), nI_clampT (by omega), e20]
        by_cases ck : (qg (L 1) n).2.2.1 = 1
        · rw [if_pos (show nI (qg (L 1) n).2.2.1 = 1 by rw [ck]; rfl)]
          exact step true (decide_eq_true ⟨cw, ck⟩).symm
        · rw [if_neg (show ¬ nI (qg (L 1) n).2.2.1 = 1 from fun e => ck ((nI_eq (b := 1) (by omega) (by omega)).mp e))]
          exact step false (decide_eq_false (fun e => ck e.2)).symm
    · rw [if_neg c] at e26
      have ig := r_isGivenT hx h.1.2 kr
      have un : f_N_looks_12 b (f + 1) (nI v) M = xbind (f_N_isGiven b (nI (qg (L 2) v).1) M) fun r142 M => if r142 = 0 then (f_N_looks_62 b (f_N_looks_12 b f) (nI v) (-1) (nI (pS (pLex t) (qg (L 2) v).1)) 1 M) else (f_N_looks_62 b (f_N_looks_12 b f) (nI v) (-1) (nI (pS (pLex t) (qg (L 2) v).1)) 0 M) := by
        rw [f_N_looks_12, if_neg top, if_pos x64, if_pos x64, cv, e24, if_pos x24, e26, if_neg (by decide), if_pos x64, cp, e9]
        simp only [xval]
      by_cases cg : pW t (qg (L 2) v).1 ∈ gv
      · refine next M ?_ rF.rfl ?_
        · rw [dU]; unfold uD; rw [if_neg c]
          refine ⟨h.1, h.2.skip (kok_name u2 (by omega)) ?_⟩
          cases q : sOn on gv t (10 * (qg (L 2) v).1 + 0) with
          | false => rfl
          | true => exact absurd ⟨rfl, cg⟩ ((sOn_iff (by omega)).mp q).2
        · rw [un, ig, xb_some, decide_eq_true cg, if_neg (by decide)]
          unfold f_N_looks_62 f_N_looks_112 f_N_finds
          rw [if_pos rfl, xb_some, nI_inc]
      · obtain ⟨M1, o1, l1, fr1⟩ := h.find (p := (qg (L 2) v).1) (r := 0) (is := true) hP (by omega) (kok_name u2 (by omega)) (fr 0 (by omega)) (fun _ e => cg e.2)
        refine next M1 (by rw [dU]; unfold uD; rw [if_neg c]; exact l1) fr1 ?_
        have o1 : f_N_finds b 1 0 (nI (pS (pLex t) (qg (L 2) v).1)) M = some ((), M1) := o1
        rw [un, ig, xb_some, decide_eq_false cg, if_pos (by decide)]
        unfold f_N_looks_62 f_N_looks_112
        rw [o1, xb_some, nI_inc]
theorem r_looks_120 {b : Nat} {on : Nat → Bool} {gv : List (List Nat)} {t : List Nat} {L : qL} {D : Nat → Bool} (hP : qPg t L) (hD : ∀ x, D x = true → x % 10 = 0 ∨ x % 10 = 2 ∨ x % 10 = 3) : ∀ (m v fuel : Nat) (M : xMem), v + m = (L 1).length → m < fuel → nLk M b on gv t L (dT2 t L D v) → ∃ M', f_N_looks_120 b fuel (nI v) M = f_N_looks_216 b xFuel 0 M' ∧ nLk M' b on gv t L (dT2 t L D (L 1).length) ∧ rF (rFdS b) M M' := by
  obtain ⟨f1, f2, f3, f4, f5, f6⟩ := hP.2.1
  have ht := hP.1
  intro m
  induction m with
  | zero =>
    intro v fuel M hv hf h
    obtain ⟨f, rfl⟩ : ∃ f, fuel = f + 1 := ⟨fuel - 1, by omega⟩
    have e : v = (L 1).length := by omega
    subst e
    refine ⟨M, ?_, h, rF.rfl⟩
    rw [f_N_looks_120, if_pos (show M.1 b 36 ≤ nI (L 1).length by rw [h.1.1.2.2.1.1]; exact nI_le (Nat.le_refl _) (by omega))]
  | succ m ih =>
    intro v fuel M hv hf h
    obtain ⟨f, rfl⟩ : ∃ f, fuel = f + 1 := ⟨fuel - 1, by omega⟩
    have hvl : v < (L 1).length := by omega
    obtain ⟨u1, u2, u3⟩ := f5 v hvl
    have k60 := kT_60 u2
    have kr := kT_real (t := t) (i := (qg (L 1) v).1) (by omega)
    obtain ⟨hx, k0, k1, k22, k2, k26, _⟩ := h.1.1
    have x64 : xin (nI v) 64 = true := xin_T (by omega) (by omega)
    have cv : (nI v).toNatClampNeg = v := nI_clampT (by omega)
    have xp : xin (nI (qg (L 1) v).1) 64 = true := xin_T (by omega) (by omega)
    have cp : (nI (qg (L 1) v).1).toNatClampNeg = (qg (L 1) v).1 := nI_clampT (by omega)
    have xs : xin (nI (qg (L 1) v).2.1) 64 = true := xin_T (by omega) (by omega)
    have cs : (nI (qg (L 1) v).2.1).toNatClampNeg = (qg (L 1) v).2.1 := nI_clampT (by omega)
    have top : ¬ M.1 b 36 ≤ nI v := by rw [k1.1]; exact nI_ge (by omega) (by omega)
    have fr : ∀ r, r = 1 ∨ r = 4 → dT2 t L D v (10 * (qg (L 1) v).1 + r) = false := by
      intro r hr
      cases q : dT2 t L D v (10 * (qg (L 1) v).1 + r) with
      | false => rfl
      | true =>
        rcases dT2_mem q with q | ⟨u, a1, a2, _⟩
        · have := hD _ q; omega
        · rw [(code_mod (by omega)).2] at a2
          have := q_inc hP.2.2.2.1 (f := 1) (by decide) a1 hvl
          omega
    have iu := r_isUnused h.1.1 hP.2.1 hvl
    obtain ⟨M1, o1, l1, fr1⟩ := h.find (p := (qg (L 1) v).1) (r := 1) (is := qUnused L (qRd t L) v) hP (by omega) (kok_name u2 (by omega)) (fr 1 (by omega)) (fun _ e => absurd e.1 (by decide))
    obtain ⟨M2, o2, l2, fr2⟩ := l1.find (p := (qg (L 1) v).1) (r := 4) (is := qShadow t L v) hP (by omega) (kok_name u2 (by omega)) (by rw [ad_ne (by omega)]; exact fr 4 (by omega)) (fun _ e => absurd e.1 (by decide))
    obtain ⟨M', o3, r3, fr3⟩ := ih (v + 1) f M2 (by omega) (by omega) (by rw [dT2]; exact l2)
    refine ⟨M', ?_, r3, (fr1.trans fr2).trans fr3⟩
    rw [← o3]
    have e18 : M.1 (b + 18) v = nI (qg (L 1) v).1 := k1.at (c := (18, fun e => nI e.1)) (by simp [c1s]) hvl
    have e9 := (hx.2.2.1 _ kr).2.1
    obtain ⟨hx1, j0, j1, _⟩ := l1.1.1
    have e18' : M1.1 (b + 18) v = nI (qg (L 1) v).1 := j1.at (c := (18, fun e => nI e.1)) (by simp [c1s]) hvl
    have e19' : M1.1 (b + 19) v = nI (qg (L 1) v).2.1 := j1.at (c := (19, fun e => nI e.2.1)) (by simp [c1s]) hvl
    have e9' := (hx1.2.2.1 _ kr).2.1
    have e15' : M1.1 (b + 15) (qg (L 1) v).2.1 = if (qg (L 0) (qg (L 1) v).2.1).2.2.2.1 = 0 then -1 else nI (qg (L 0) (qg (L 1) v).2.1).1 := j0.at (c := (15, fun e => if e.2.2.2.1 = 0 then -1 else nI e.1)) (by simp [c0]) u1
    have o1 : f_N_finds b (bI (qUnused L (qRd t L) v)) 1 (nI (pS (pLex t) (qg (L 1) v).1)) M = some ((), M1) := o1
    have last : ∀ is : Bool, is = qShadow t L v → f_N_looks_193 b (f_N_looks_120 b f) (nI v) (bI is) M1 = f_N_looks_120 b f (nI (v + 1)) M2 := by
      intro is his
      subst his
      have o2 : f_N_finds b (bI (qShadow t L v)) 4 (nI (pS (pLex t) (qg (L 1) v).1)) M1 = some ((), M2) := o2
      unfold f_N_looks_193
      rw [if_pos x64, cv, e18', if_pos xp, cp, e9']
      simp only [xval]
      rw [o2, xb_some, nI_inc]
    rw [f_N_looks_120, if_neg top, iu, xb_some, if_pos x64, cv, e18, if_pos xp, cp, e9]
    simp only [xval]
    rw [o1, xb_some, if_pos x64, e19', if_pos xs, cs, e15']
    unfold f_N_looks_192
    by_cases cl : (qg (L 0) (qg (L 1) v).2.1).2.2.2.1 = 0
    · rw [if_pos cl, if_pos (by decide)]
      exact last false (decide_eq_false (fun e => by omega)).symm
    · have s0 : (qg (L 1) v).2.1 ≠ 0 := fun e => cl ((f1.level u1).1.mpr e)
      obtain ⟨a1, a2⟩ := (f1.level u1).2 s0
      have ta := r_thingAround (s := (qg (L 0) (qg (L 1) v).2.1).1) (tok := (qg (L 1) v).1) hx1 j0 f1 f2 j1 (by omega) (fun i hi => ⟨by have := (f5 i hi).1; omega, (f5 i hi).2.1⟩) u2 (by omega)
      rw [if_neg cl, if_neg (show ¬ nI (qg (L 0) (qg (L 1) v).2.1).1 < 0 from nI_nlt (b := 0) (by omega) (by omega)), if_pos x64, if_pos xs, if_pos x64, e18', ta, xb_some]
      by_cases cq : qSeen (wT' t) (L 0) (L 1) (qg (L 0) (qg (L 1) v).2.1).1 (wT' t (qg (L 1) v).1) < (L 1).length
      · rw [if_pos cq, if_neg (show ¬ nI (qSeen (wT' t) (L 0) (L 1) (qg (L 0) (qg (L 1) v).2.1).1 (wT' t (qg (L 1) v).1)) < 0 from nI_nlt (b := 0) (by omega) (by omega))]
        exact last true (decide_eq_true ⟨by omega, cq⟩).symm
      · rw [if_neg cq, if_pos (by decide)]
        exact last false (decide_eq_false (fun e => cq e.2)).symm
