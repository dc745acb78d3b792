/-! PURE: the reference binds the USES -/
def c1s : List (Nat × (qE → Int32)) := [(18, fun e => nI e.1), (19, fun e => nI e.2.1), (20, fun e => nI e.2.2.1), (21, fun e => nI e.2.2.2.1)]
theorem r_thingIn2_2 {M : xMem} {b s tok : Nat} {t : List Nat} {l : List qE} (hx : rLx M b t) (h : nL M b 36 l c1s) (hl : l.length ≤ 63) (hs : s < 1000) (hb : ∀ i, i < l.length → (qg l i).2.1 < 1000 ∧ kT t (qg l i).1 = 23) (hk : kT t tok = 23) : ∀ (m v fuel : Nat), v + m = l.length → m < fuel → v ≤ qFind (wT' t) l s (wT' t tok) → f_N_thingIn_2 b (nI s) (nI tok) fuel (nI v) M = some (if qFind (wT' t) l s (wT' t tok) < l.length then nI (qFind (wT' t) l s (wT' t tok)) else -1, M) := by
  have sp := q_find_spec (wd := wT' t) (l := l) (s := s) (w := wT' t tok)
  have hle := q_find_le (wT' t) l s (wT' t tok)
  have hl0 := h.1
  intro m
  induction m with
  | zero =>
    intro v fuel hv hf hq
    obtain ⟨f, rfl⟩ : ∃ f, fuel = f + 1 := ⟨fuel - 1, by omega⟩
    have : v = l.length := by omega
    subst this
    rw [f_N_thingIn_2, if_neg (show ¬ qFind (wT' t) l s (wT' t tok) < l.length by omega)]
    simp (disch := omega) only [↓reduceIte, nI_leT, nI_leF, nI_ltT, nI_ltF, nI_eqT, nI_eqF, xin_T, nI_clampT, nI_add, nI_inc, pk_subT, xb_some, xval, xlet, mI_s, mI_n, mI_k, mI_2, mJ_1, mJ_s, mJ_n, mJ_k, mJ_2, mT_1, mT_2, mT_s, mT_n, mT_k, mT_3, mR_1, mR_2, mR_3, bI_0, bI_1, bI_n0, bI_n1, Bool.true_eq_false, Bool.false_eq_true, eq_self, i_0, i_1, i_2, i_3, i_4, i_5, i_6, i_7, i_8, i_9, i_10, i_11, i_12, i_13, i_14, i_15, i_16, i_17, i_18, i_19, i_20, i_21, i_22, i_23, i_24, i_25, i_26, i_27, i_28, i_29, i_30, i_31, i_32, i_33, i_34, i_35, i_36, i_37, i_38, i_39, i_40, i_41, i_42, i_43, i_44, i_45, i_48, i_49, i_57, i_59, i_60, i_61, i_62, i_64, i_97, i_110, i_122, i_123, i_125, i_126, i_127, i_160, i_255, i_300, i_400, hl0]
  | succ m ih =>
    intro v fuel hv hf hq
    obtain ⟨f, rfl⟩ : ∃ f, fuel = f + 1 := ⟨fuel - 1, by omega⟩
    have hv' : v < l.length := by omega
    have e18 : M.1 (b + 18) v = nI (qg l v).1 := h.2 (18, fun e => nI e.1) (by simp [c1s]) v hv'
    have e19 : M.1 (b + 19) v = nI (qg l v).2.1 := h.2 (19, fun e => nI e.2.1) (by simp [c1s]) v hv'
    obtain ⟨b1, b2⟩ := hb v hv'
    have r1 := kT_real (t := t) (i := (qg l v).1) (by omega)
    have r2 := kT_real (t := t) (i := tok) (by omega)
    have al := r_alike hx r1 r2
    have wi := wd_iff (isW_23 b2) (isW_23 hk)
    rw [f_N_thingIn_2]
    by_cases c : v = qFind (wT' t) l s (wT' t tok)
    · subst c
      obtain ⟨s1, s2⟩ := sp.2 hv'
      have ak := wi.mp s2
      rw [if_pos hv']
      simp (disch := omega) only [↓reduceIte, nI_leT, nI_leF, nI_ltT, nI_ltF, nI_eqT, nI_eqF, xin_T, nI_clampT, nI_add, nI_inc, pk_subT, xb_some, xval, xlet, mI_s, mI_n, mI_k, mI_2, mJ_1, mJ_s, mJ_n, mJ_k, mJ_2, mT_1, mT_2, mT_s, mT_n, mT_k, mT_3, mR_1, mR_2, mR_3, bI_0, bI_1, bI_n0, bI_n1, Bool.true_eq_false, Bool.false_eq_true, eq_self, i_0, i_1, i_2, i_3, i_4, i_5, i_6, i_7, i_8, i_9, i_10, i_11, i_12, i_13, i_14, i_15, i_16, i_17, i_18, i_19, i_20, i_21, i_22, i_23, i_24, i_25, i_26, i_27, i_28, i_29, i_30, i_31, i_32, i_33, i_34, i_35, i_36, i_37, i_38, i_39, i_40, i_41, i_42, i_43, i_44, i_45, i_48, i_49, i_57, i_59, i_60, i_61, i_62, i_64, i_97, i_110, i_122, i_123, i_125, i_126, i_127, i_160, i_255, i_300, i_400, hl0, e18, e19, s1, al, ak]
    · have n := sp.1 v (by omega)
      have ih' := ih (v + 1) f (by omega) (by omega) (by omega)
      by_cases c1 : (qg l v).2.1 = s
      · have c2 : ¬ pAlike t (pLex t) (qg l v).1 tok = true := fun e => n ⟨c1, wi.mpr e⟩
        have c2' : pAlike t (pLex t) (qg l v).1 tok = false := by simpa using c2
        simp (disch := omega) only [↓reduceIte, nI_leT, nI_leF, nI_ltT, nI_ltF, nI_eqT, nI_eqF, xin_T, nI_clampT, nI_add, nI_inc, pk_subT, xb_some, xval, xlet, mI_s, mI_n, mI_k, mI_2, mJ_1, mJ_s, mJ_n, mJ_k, mJ_2, mT_1, mT_2, mT_s, mT_n, mT_k, mT_3, mR_1, mR_2, mR_3, bI_0, bI_1, bI_n0, bI_n1, Bool.true_eq_false, Bool.false_eq_true, eq_self, i_0, i_1, i_2, i_3, i_4, i_5, i_6, i_7, i_8, i_9, i_10, i_11, i_12, i_13, i_14, i_15, i_16, i_17, i_18, i_19, i_20, i_21, i_22, i_23, i_24, i_25, i_26, i_27, i_28, i_29, i_30, i_31, i_32, i_33, i_34, i_35, i_36, i_37, i_38, i_39, i_40, i_41, i_42, i_43, i_44, i_45, i_48, i_49, i_57, i_59, i_60, i_61, i_62, i_64, i_97, i_110, i_122, i_123, i_125, i_126, i_127, i_160, i_255, i_300, i_400, hl0, e18, e19, c1, al, c2', f_N_thingIn_36]
        exact ih'
      · simp (disch := omega) only [↓reduceIte, nI_leT, nI_leF, nI_ltT, nI_ltF, nI_eqT, nI_eqF, xin_T, nI_clampT, nI_add, nI_inc, pk_subT, xb_some, xval, xlet, mI_s, mI_n, mI_k, mI_2, mJ_1, mJ_s, mJ_n, mJ_k, mJ_2, mT_1, mT_2, mT_s, mT_n, mT_k, mT_3, mR_1, mR_2, mR_3, bI_0, bI_1, bI_n0, bI_n1, Bool.true_eq_false, Bool.false_eq_true, eq_self, i_0, i_1, i_2, i_3, i_4, i_5, i_6, i_7, i_8, i_9, i_10, i_11, i_12, i_13, i_14, i_15, i_16, i_17, i_18, i_19, i_20, i_21, i_22, i_23, i_24, i_25, i_26, i_27, i_28, i_29, i_30, i_31, i_32, i_33, i_34, i_35, i_36, i_37, i_38, i_39, i_40, i_41, i_42, i_43, i_44, i_45, i_48, i_49, i_57, i_59, i_60, i_61, i_62, i_64, i_97, i_110, i_122, i_123, i_125, i_126, i_127, i_160, i_255, i_300, i_400, hl0, e18, e19, f_N_thingIn_36]
        exact ih'
theorem r_thingIn2 {M : xMem} {b s tok : Nat} {t : List Nat} {l : List qE} (hx : rLx M b t) (h : nL M b 36 l c1s) (hl : l.length ≤ 63) (hs : s < 1000) (hb : ∀ i, i < l.length → (qg l i).2.1 < 1000 ∧ kT t (qg l i).1 = 23) (hk : kT t tok = 23) : f_N_thingIn b (nI s) (nI tok) M = some (if qFind (wT' t) l s (wT' t tok) < l.length then nI (qFind (wT' t) l s (wT' t tok)) else -1, M) :=
  r_thingIn2_2 hx h hl hs hb hk l.length 0 xFuel (by omega) (by unfold xFuel; omega) (by omega)
theorem r_thingAround_2 {M : xMem} {b tok : Nat} {t : List Nat} {l0 l1 : List qE} {p1 : Int32} (hx : rLx M b t) (h0 : nL M b 27 l0 c0) (hs0 : qSc l0) (hl0 : l0.length ≤ 61) (h : nL M b 36 l1 c1s) (hl : l1.length ≤ 63) (hb : ∀ i, i < l1.length → (qg l1 i).2.1 < 1000 ∧ kT t (qg l1 i).1 = 23) (hk : kT t tok = 23) : ∀ (s fuel : Nat), s < l0.length → s + 2 ≤ fuel → f_N_thingAround_2 b p1 (nI tok) fuel (nI s) M = some (if qSeen (wT' t) l0 l1 s (wT' t tok) < l1.length then nI (qSeen (wT' t) l0 l1 s (wT' t tok)) else -1, M) := by
  intro s
  induction s using Nat.strongRecOn with
  | _ s ih =>
    intro fuel hs hf
    obtain ⟨f, rfl⟩ : ∃ f, fuel = f + 2 := ⟨fuel - 2, by omega⟩
    have ti := r_thingIn2 (s := s) hx h hl (by omega) hb hk
    rw [f_N_thingAround_2, if_neg (show ¬ nI s < 0 from (nI_nlt (a := s) (b := 0) (by omega) (by omega) : ¬ nI s < nI 0)), ti, xb_some]
    by_cases c : qFind (wT' t) l1 s (wT' t tok) < l1.length
    · rw [qSeen_here c, if_pos c, if_neg (show ¬ nI (qFind (wT' t) l1 s (wT' t tok)) < 0 from (nI_nlt (a := qFind (wT' t) l1 s (wT' t tok)) (b := 0) (by omega) (by omega) : ¬ nI (qFind (wT' t) l1 s (wT' t tok)) < nI 0)), ti, xb_some, if_pos c]
    · have e15 : M.1 (b + 15) s = if (qg l0 s).2.2.2.1 = 0 then -1 else nI (qg l0 s).1 := h0.2 (15, fun e => if e.2.2.2.1 = 0 then -1 else nI e.1) (by simp [c0]) s hs
      rw [if_neg c, if_pos (by decide), if_pos (xin_T (by omega) (by omega)), nI_clampT (by omega), e15]
      by_cases z : s = 0
      · subst z
        have lz : (qg l0 0).2.2.2.1 = 0 := (hs0.level hs).1.mpr rfl
        rw [if_pos lz, f_N_thingAround_2, if_pos (by decide), qSeen_root hs0, if_neg c]
      · obtain ⟨a1, a2⟩ := (hs0.level hs).2 z
        have lz : ¬ (qg l0 s).2.2.2.1 = 0 := fun e => z ((hs0.level hs).1.mp e)
        rw [if_neg lz, qSeen_up hs0 hs z c]
        exact ih (qg l0 s).1 a1 (f + 1) (by omega) (by omega)
theorem r_thingAround {M : xMem} {b s tok : Nat} {t : List Nat} {l0 l1 : List qE} (hx : rLx M b t) (h0 : nL M b 27 l0 c0) (hs0 : qSc l0) (hl0 : l0.length ≤ 61) (h : nL M b 36 l1 c1s) (hl : l1.length ≤ 63) (hb : ∀ i, i < l1.length → (qg l1 i).2.1 < 1000 ∧ kT t (qg l1 i).1 = 23) (hk : kT t tok = 23) (hs : s < l0.length) : f_N_thingAround b (nI s) (nI tok) M = some (if qSeen (wT' t) l0 l1 s (wT' t tok) < l1.length then nI (qSeen (wT' t) l0 l1 s (wT' t tok)) else -1, M) :=
  r_thingAround_2 hx h0 hs0 hl0 h hl hb hk s xFuel hs (by unfold xFuel; omega)
/-- the reference's lists of a PROGRAM, v USES bound -/
def nE (M : xMem) (b : Nat) (t : List Nat) (L : qL) (v : Nat) : Prop := rLx M b t ∧ nL M b 27 (L 0) c0 ∧ nL M b 36 (L 1) c1s ∧ (∀ i, i < (L 1).length → M.1 (b + 22) i = nI (cR t L v i) ∧ M.1 (b + 23) i = nI (cW t L v i)) ∧ nL M b 41 (L 2) c2 ∧ (∀ u, u < v → M.1 (b + 26) u = if qBd' t L (qg (L 2) u) < (L 1).length then nI (qBd' t L (qg (L 2) u)) else -1) ∧ nL M b 54 (L 14) (c14 t) ∧ nL M b 55 (L 15) (c15 t) ∧ nL M b 56 (L 16) (c16 t) ∧ nL M b 57 (L 6) (c6 t) ∧ nL M b 58 (L 18) (c18 t) ∧ nL M b 59 (L 19) (c19 t) ∧ nL M b 60 (L 4) (c4 t) ∧ nEx M b t (L 4)
theorem nQ.nE {M : xMem} {b tok sc : Nat} {t : List Nat} {L : qL} (h : nQ M b t [] tok sc L) : nE M b t L 0 := by
  obtain ⟨h1, h2, h3, h4, h5, k0, k5, k1, k2, k14, k15, k16, k6, k18, k19, k4, kx⟩ := h
  refine ⟨h1, k0, ⟨k1.1, ?_⟩, ?_, k2, fun u hu => absurd hu (by omega), k14, k15, k16, k6, k18, k19, k4, kx⟩
  · intro c hc
    refine k1.2 c ?_
    simp only [c1s, c1, List.mem_cons, List.not_mem_nil, or_false] at hc ⊢
    rcases hc with rfl | rfl | rfl | rfl <;> simp
  · intro i hi
    exact ⟨k1.at (c := (22, fun _ => nI 0)) (by simp [c1]) hi, k1.at (c := (23, fun e => nI e.2.2.2.2)) (by simp [c1]) hi⟩
/-- what belongs() may write -/
def rBeS (b : Nat) (a k : Nat) : Prop := a = b + 22 ∨ a = b + 23 ∨ a = b + 26
theorem nE.fr {M M' : xMem} {b v : Nat} {t : List Nat} {L : qL} (h : nE M b t L v) (f : rF (rBeS b) M M') (h22 : ∀ i, i < (L 1).length → M'.1 (b + 22) i = nI (cR t L (v + 1) i) ∧ M'.1 (b + 23) i = nI (cW t L (v + 1) i)) (h26 : ∀ u, u < v + 1 → M'.1 (b + 26) u = if qBd' t L (qg (L 2) u) < (L 1).length then nI (qBd' t L (qg (L 2) u)) else -1) : nE M' b t L (v + 1) := by
  obtain ⟨h1, k0, k1, _, k2, _, k14, k15, k16, k6, k18, k19, k4, kx⟩ := h
  refine ⟨h1.gr (f.mono (by intro a k; unfold rBeS rGrS; omega)), k0.fr f ?_ ?_, k1.fr f ?_ ?_, h22, k2.fr f ?_ ?_, h26, k14.fr f ?_ ?_, k15.fr f ?_ ?_, k16.fr f ?_ ?_, k6.fr f ?_ ?_, k18.fr f ?_ ?_, k19.fr f ?_ ?_, k4.fr f ?_ ?_, ?_⟩
  all_goals first
    | (unfold rBeS; omega)
    | (intro a h j; simp [c0, c1s, c2, c14, c15, c16, c6, c18, c19, c4] at h; unfold rBeS; omega)
    | (intro i hi hn; rw [f.2 _ _ (by unfold rBeS; omega)]; exact kx i hi hn)
theorem r_belongs_2 {b : Nat} {t : List Nat} {L : qL} (hF : qFin t L) : ∀ (m v fuel : Nat) (M : xMem), v + m = (L 2).length → m < fuel → nE M b t L v → ∃ M', f_N_belongs_2 b fuel (nI v) M = some ((), M') ∧ nE M' b t L (L 2).length ∧ rF (rBeS b) M M' := by
  obtain ⟨f1, f2, f3, f4, f5, f6⟩ := hF
  intro m
  induction m with
  | zero =>
    intro v fuel M hv hf h
    obtain ⟨f, rfl⟩ : ∃ f, fuel = f + 1 := ⟨fuel - 1, by omega⟩
    have e : v = (L 2).length := by omega
    subst e
    refine ⟨M, ?_, h, rF.rfl⟩
    rw [f_N_belongs_2, if_pos (show M.1 b 41 ≤ nI (L 2).length by rw [h.2.2.2.2.1.1]; exact nI_le (Nat.le_refl _) (by omega))]
  | succ m ih =>
    intro v fuel M hv hf h
    obtain ⟨f, rfl⟩ : ∃ f, fuel = f + 1 := ⟨fuel - 1, by omega⟩
    have hvl : v < (L 2).length := by omega
    obtain ⟨u1, u2, u3⟩ := f6 v hvl
    have h0 := h
    obtain ⟨h1, k0, k1, k22, k2, k26, _⟩ := h
    have k60 := kT_60 u2
    have e24 : M.1 (b + 24) v = nI (qg (L 2) v).1 := k2.at (c := (24, fun e => nI e.1)) (by simp [c2]) hvl
    have e25 : M.1 (b + 25) v = nI (qg (L 2) v).2.1 := k2.at (c := (25, fun e => nI e.2.1)) (by simp [c2]) hvl
    have e27 : M.1 (b + 27) v = nI (qg (L 2) v).2.2.1 := k2.at (c := (27, fun e => nI e.2.2.1)) (by simp [c2]) hvl
    have ta := r_thingAround (s := (qg (L 2) v).2.1) (tok := (qg (L 2) v).1) h1 k0 f1 f2 k1 (by omega) (fun i hi => ⟨by have := (f5 i hi).1; omega, (f5 i hi).2.1⟩) u2 u1
    have ta : f_N_thingAround b (nI (qg (L 2) v).2.1) (nI (qg (L 2) v).1) M = some (if qBd' t L (qg (L 2) v) < (L 1).length then nI (qBd' t L (qg (L 2) v)) else -1, M) := ta
    have top : ¬ M.1 b 41 ≤ nI v := by rw [k2.1]; exact nI_ge (by omega) (by omega)
    have x64 : xin (nI v) 64 = true := xin_T (by omega) (by omega)
    have cv : (nI v).toNatClampNeg = v := nI_clampT (by omega)
    generalize hn : qBd' t L (qg (L 2) v) = n at *
    have next : ∀ (M1 : xMem), nE M1 b t L (v + 1) → rF (rBeS b) M M1 → f_N_belongs_2 b (f + 1) (nI v) M = f_N_belongs_2 b f (nI (v + 1)) M1 → ∃ M', f_N_belongs_2 b (f + 1) (nI v) M = some ((), M') ∧ nE M' b t L (L 2).length ∧ rF (rBeS b) M M' := by
      intro M1 r1 fr1 o
      obtain ⟨M', o2, r2, fr2⟩ := ih (v + 1) f M1 (by omega) (by omega) r1
      exact ⟨M', o.trans o2, r2, fr1.trans fr2⟩
    have w26 : ∀ {M2 : xMem} {x : Int32}, (x = if n < (L 1).length then nI n else -1) → (∀ u, u < v → M2.1 (b + 26) u = M.1 (b + 26) u) → M2.1 (b + 26) v = x → ∀ u, u < v + 1 → M2.1 (b + 26) u = if qBd' t L (qg (L 2) u) < (L 1).length then nI (qBd' t L (qg (L 2) u)) else -1 := by
      intro M2 x hx hu hv2 u hu2
      by_cases c : u < v
      · rw [hu u c]; exact k26 u c
      · have : u = v := by omega
        subst this
        rw [hv2, hn]; exact hx
    by_cases c : n < (L 1).length
    · rw [if_pos c] at ta
      obtain ⟨r22, r23⟩ := k22 n c
      have ge : 0 ≤ nI n := (nI_le (a := 0) (Nat.zero_le _) (by omega) : nI 0 ≤ nI n)
      have xn : xin (nI n) 64 = true := xin_T (by omega) (by omega)
      have cn : (nI n).toNatClampNeg = n := nI_clampT (by omega)
      have fa : rF (rBeS b) M (wI M (b + 26) v (nI n)) := rF.I (by unfold rBeS; omega)
      by_cases cw : (qg (L 2) v).2.2.1 = 0
      · have fb : rF (rBeS b) M (wI (wI M (b + 26) v (nI n)) (b + 22) n (nI (cR t L v n + 1))) := fa.trans (rF.I (by unfold rBeS; omega))
        refine next _ (h0.fr fb ?_ ?_) fb ?_
        · intro i hi
          obtain ⟨a1, a2⟩ := k22 i hi
          rw [cR, cW, hn]
          refine ⟨?_, ?_⟩
          · by_cases e : i = n
            · subst e; rw [if_pos ⟨rfl, cw⟩]; simp (disch := omega) only [↓reduceIte, nI_leT, nI_leF, nI_ltT, nI_ltF, nI_eqT, nI_eqF, xin_T, nI_clampT, nI_add, nI_inc, pk_subT, xb_some, xval, xlet, mI_s, mI_n, mI_k, mI_2, mJ_1, mJ_s, mJ_n, mJ_k, mJ_2, mT_1, mT_2, mT_s, mT_n, mT_k, mT_3, mR_1, mR_2, mR_3, bI_0, bI_1, bI_n0, bI_n1, Bool.true_eq_false, Bool.false_eq_true, eq_self, i_0, i_1, i_2, i_3, i_4, i_5, i_6, i_7, i_8, i_9, i_10, i_11, i_12, i_13, i_14, i_15, i_16, i_17, i_18, i_19, i_20, i_21, i_22, i_23, i_24, i_25, i_26, i_27, i_28, i_29, i_30, i_31, i_32, i_33, i_34, i_35, i_36, i_37, i_38, i_39, i_40, i_41, i_42, i_43, i_44, i_45, i_48, i_49, i_57, i_59, i_60, i_61, i_62, i_64, i_97, i_110, i_122, i_123, i_125, i_126, i_127, i_160, i_255, i_300, i_400]
            · rw [if_neg (fun h => e h.1.symm), mI_k e, mI_n (by omega)]; exact a1
          · rw [if_neg (fun h => h.2 cw), mI_n (by omega), mI_n (by omega)]; exact a2
        · refine w26 (x := nI n) (by rw [if_pos c]) (fun u hu => ?_) ?_
          · rw [mI_n (by omega), mI_k (by omega)]
          · rw [mI_n (by omega), mI_s rfl rfl]
        · rw [f_N_belongs_2, if_neg top, if_pos x64, if_pos x64]
          simp only [xval, xlet]
          rw [cv, e25, e24, ta, xb_some, if_pos x64, if_pos ge, if_pos x64]
          rw [show (wI M (b + 26) v (nI n)).1 (b + 27) v = nI 0 by rw [mI_n (by omega), e27, cw], if_pos (show nI 0 = 0 from rfl), if_pos xn, if_pos xn, cn]
          rw [show (wI M (b + 26) v (nI n)).1 (b + 22) n = nI (cR t L v n) by rw [mI_n (by omega)]; exact r22, show nI (cR t L v n) + 1 = nI (cR t L v n + 1) from nI_1 _]
          unfold f_N_belongs_73
          rw [nI_inc]
      · have cw1 : (qg (L 2) v).2.2.1 = 1 := by omega
        have fb : rF (rBeS b) M (wI (wI M (b + 26) v (nI n)) (b + 23) n (nI (cW t L v n + 1))) := fa.trans (rF.I (by unfold rBeS; omega))
        refine next _ (h0.fr fb ?_ ?_) fb ?_
        · intro i hi
          obtain ⟨a1, a2⟩ := k22 i hi
          rw [cR, cW, hn]
          refine ⟨?_, ?_⟩
          · rw [if_neg (fun h => cw h.2), mI_n (by omega), mI_n (by omega)]; exact a1
          · by_cases e : i = n
            · subst e; rw [if_pos ⟨rfl, cw⟩]; simp (disch := omega) only [↓reduceIte, nI_leT, nI_leF, nI_ltT, nI_ltF, nI_eqT, nI_eqF, xin_T, nI_clampT, nI_add, nI_inc, pk_subT, xb_some, xval, xlet, mI_s, mI_n, mI_k, mI_2, mJ_1, mJ_s, mJ_n, mJ_k, mJ_2, mT_1, mT_2, mT_s, mT_n, mT_k, mT_3, mR_1, mR_2, mR_3, bI_0, bI_1, bI_n0, bI_n1, Bool.true_eq_false, Bool.false_eq_true, eq_self, i_0, i_1, i_2, i_3, i_4, i_5, i_6, i_7, i_8, i_9, i_10, i_11, i_12, i_13, i_14, i_15, i_16, i_17, i_18, i_19, i_20, i_21, i_22, i_23, i_24, i_25, i_26, i_27, i_28, i_29, i_30, i_31, i_32, i_33, i_34, i_35, i_36, i_37, i_38, i_39, i_40, i_41, i_42, i_43, i_44, i_45, i_48, i_49, i_57, i_59, i_60, i_61, i_62, i_64, i_97, i_110, i_122, i_123, i_125, i_126, i_127, i_160, i_255, i_300, i_400]
            · rw [if_neg (fun h => e h.1.symm), mI_k e, mI_n (by omega)]; exact a2
        · refine w26 (x := nI n) (by rw [if_pos c]) (fun u hu => ?_) ?_
          · rw [mI_n (by omega), mI_k (by omega)]
          · rw [mI_n (by omega), mI_s rfl rfl]
        · rw [f_N_belongs_2, if_neg top, if_pos x64, if_pos x64]
          simp only [xval, xlet]
          rw [cv, e25, e24, ta, xb_some, if_pos x64, if_pos ge, if_pos x64]
          rw [show (wI M (b + 26) v (nI n)).1 (b + 27) v = nI 1 by rw [mI_n (by omega), e27, cw1], if_neg (by decide), if_pos xn, if_pos xn, cn]
          rw [show (wI M (b + 26) v (nI n)).1 (b + 23) n = nI (cW t L v n) by rw [mI_n (by omega)]; exact r23, show nI (cW t L v n) + 1 = nI (cW t L v n + 1) from nI_1 _]
          unfold f_N_belongs_73
          rw [nI_inc]
    · rw [if_neg c] at ta
      have fa : rF (rBeS b) M (wI M (b + 26) v (-1)) := rF.I (by unfold rBeS; omega)
      refine next _ (h0.fr fa ?_ ?_) fa ?_
      · intro i hi
        obtain ⟨a1, a2⟩ := k22 i hi
        rw [cR, cW, hn, if_neg (by omega), if_neg (by omega), mI_n (by omega), mI_n (by omega)]
        exact ⟨a1, a2⟩
      · refine w26 (x := -1) (by rw [if_neg c]) (fun u hu => ?_) ?_
        · rw [mI_k (by omega)]
        · rw [mI_s rfl rfl]
      · rw [f_N_belongs_2, if_neg top, if_pos x64, if_pos x64]
        simp only [xval, xlet]
        rw [cv, e25, e24, ta, xb_some, if_pos x64, if_neg (by decide)]
        unfold f_N_belongs_73
        rw [nI_inc]
/-- the reference has read the PROGRAM t: its lists are L -/
def nEnd (M : xMem) (b : Nat) (t : List Nat) (L : qL) : Prop := nE M b t L (L 2).length
/-- the reference's scans() -/
theorem r_scan {M : xMem} {b : Nat} {t : List Nat} (h : rTx M b t) : (∃ e M', qRun (kT t) (wT' t) (dT t) = .inl e ∧ e ≤ nT t ∧ f_N_scans b M = some ((), M') ∧ M'.1 b 4 = nI (pS (pLex t) e) ∧ rF (rScS b) M M') ∨ (∃ tok sc L M', qRun (kT t) (wT' t) (dT t) = .inr ([], tok, sc, L) ∧ f_N_scans b M = some ((), M') ∧ M'.1 b 4 = -1 ∧ nEnd M' b t L ∧ rF (rScS b) M M') := by
  obtain ⟨M1, o1, f1, b1, b2⟩ := r_scans h
  rcases q_run_ends (wd := wT' t) (dg := dT t) (g_T t) (nT_le t) with ⟨e, a1, a2⟩ | ⟨tok, sc, L, a⟩
  · left
    have h4 := b1 e a2
    have le := pS_lt t e h.2.1
    refine ⟨e, M1, a2, a1, ?_, h4, f1⟩
    rw [o1]
    unfold f_N_scans_527
    rw [if_pos (show 0 ≤ M1.1 b 4 by rw [h4]; exact nI_le (Nat.zero_le _) (by omega))]
  · right
    obtain ⟨q1, h4⟩ := b2 tok sc L a
    obtain ⟨p1, p2, p3, p4, p5⟩ := q_prog a
    have l2 := p3.2.2.2.1
    obtain ⟨M2, o2, r2, f2⟩ := r_belongs_2 p3 (L 2).length 0 xFuel M1 (by omega) (by unfold xFuel; omega) q1.nE
    refine ⟨tok, sc, L, M2, a, ?_, ?_, r2, f1.trans (f2.mono (by intro a k; unfold rBeS rScS; omega))⟩
    · rw [o1]
      unfold f_N_scans_527 f_N_belongs
      rw [if_neg (show ¬ 0 ≤ M1.1 b 4 by rw [h4]; decide)]
      show xbind (f_N_belongs_2 b xFuel (nI 0) M1) _ = _
      rw [o2, xb_some]
    · rw [f2.2 _ _ (by unfold rBeS; omega)]; exact h4
