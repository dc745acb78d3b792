/-! PURE: the reference: isEarly(), isUnused() -/
theorem r_early_44 {M : xMem} {b i w : Nat} {wd : Nat → Nat} {l0 l1 : List qE} {p1 : Int32} (h0 : nL M b 27 l0 c0) (hs0 : qSc l0) (hl0 : l0.length ≤ 61) (h1 : nL M b 36 l1 c1s) (hl1 : l1.length ≤ 60) (hi : i < l1.length) (hW : (qg l1 i).2.1 < l0.length) : ∀ (s fuel : Nat), s < l0.length → s + 1 ≤ fuel → qSeen wd l0 l1 s w = i → f_N_isEarly_44 b p1 (nI i) fuel (nI s) M = some (bI (decide ((qg l0 s).2.2.1 = (qg l0 (qg l1 i).2.1).2.2.1)), M) := by
  have e19 : M.1 (b + 19) i = nI (qg l1 i).2.1 := h1.at (c := (19, fun e => nI e.2.1)) (by simp [c1s]) hi
  intro s
  induction s using Nat.strongRecOn with
  | _ s ih =>
    intro fuel hs hf hq
    obtain ⟨f, rfl⟩ : ∃ f, fuel = f + 1 := ⟨fuel - 1, by omega⟩
    rw [f_N_isEarly_44, if_pos (xin_T (by omega) (by omega)), nI_clampT (by omega), e19]
    by_cases c : s = (qg l1 i).2.1
    · rw [if_pos (by rw [c]), decide_eq_true (by rw [c])]; rfl
    · have nf : ¬ qFind wd l1 s w < l1.length := by
        intro hn
        rw [qSeen_here hn] at hq
        have := (q_find_spec (wd := wd) (l := l1) (s := s) (w := w)).2 hn
        rw [hq] at this
        exact c this.1.symm
      have s0 : s ≠ 0 := by
        intro e
        subst e
        rw [qSeen_root hs0] at hq
        exact nf (by omega)
      rw [qSeen_up hs0 hs s0 nf] at hq
      obtain ⟨a1, a2, a3, a4⟩ := hs0.2.2 s (by omega) hs
      have wle := qSeen_home (wd := wd) (l1 := l1) (w := w) hs0 (qg l0 s).1 (by omega) (by omega)
      rw [hq] at wle
      have e17 : M.1 (b + 17) s = nI (qg l0 s).2.1 := h0.at (c := (17, fun e => nI e.2.1)) (by simp [c0]) hs
      have e15 : M.1 (b + 15) s = if (qg l0 s).2.2.2.1 = 0 then -1 else nI (qg l0 s).1 := h0.at (c := (15, fun e => if e.2.2.2.1 = 0 then -1 else nI e.1)) (by simp [c0]) hs
      rw [if_neg (fun e => c ((nI_eq (by omega) (by omega)).mp e)), if_pos (xin_T (by omega) (by omega)), nI_clampT (by omega), e17]
      by_cases cf : (qg l0 s).2.1 = 1
      · rw [if_neg (show ¬ nI (qg l0 s).2.1 = 0 by rw [cf]; decide), decide_eq_false]
        · rfl
        · intro e
          rw [a3, if_pos cf] at e
          have := hs0.home _ hW
          omega
      · have cf0 : (qg l0 s).2.1 = 0 := by omega
        have lz : ¬ (qg l0 s).2.2.2.1 = 0 := by omega
        rw [if_pos (show nI (qg l0 s).2.1 = 0 by rw [cf0]; rfl), if_pos (xin_T (by omega) (by omega)), e15, if_neg lz]
        rw [a3, if_neg cf]
        exact ih (qg l0 s).1 a1 f (by omega) (by omega) hq
theorem r_isEarly {M : xMem} {b v : Nat} {t : List Nat} {L : qL} (ht : t.length ≤ 160) (h : nEnd M b t L) (hF : qFin t L) (hv : v < (L 2).length) (hi : qBd' t L (qg (L 2) v) < (L 1).length) : f_N_isEarly b (nI v) (nI (qBd' t L (qg (L 2) v))) M = some (bI (qEarly L (qg (L 2) v) (qBd' t L (qg (L 2) v))), M) := by
  obtain ⟨f1, f2, f3, f4, f5, f6⟩ := hF
  obtain ⟨hx, k0, k1, _, k2, _⟩ := h
  obtain ⟨u1, u2, u3⟩ := f6 v hv
  obtain ⟨t1, t2, t3⟩ := f5 _ hi
  have e20 : M.1 (b + 20) (qBd' t L (qg (L 2) v)) = nI (qg (L 1) (qBd' t L (qg (L 2) v))).2.2.1 := k1.at (c := (20, fun e => nI e.2.2.1)) (by simp [c1s]) hi
  have e18 : M.1 (b + 18) (qBd' t L (qg (L 2) v)) = nI (qg (L 1) (qBd' t L (qg (L 2) v))).1 := k1.at (c := (18, fun e => nI e.1)) (by simp [c1s]) hi
  have e24 : M.1 (b + 24) v = nI (qg (L 2) v).1 := k2.at (c := (24, fun e => nI e.1)) (by simp [c2]) hv
  have e25 : M.1 (b + 25) v = nI (qg (L 2) v).2.1 := k2.at (c := (25, fun e => nI e.2.1)) (by simp [c2]) hv
  have r1 := kT_real (t := t) (i := (qg (L 2) v).1) (by omega)
  have r2 := kT_real (t := t) (i := (qg (L 1) (qBd' t L (qg (L 2) v))).1) (by omega)
  have e9 := (hx.2.2.1 _ r1).2.1
  have e9' := (hx.2.2.1 _ r2).2.1
  have hT := nT_le t
  have b1 := pS_lt t (qg (L 2) v).1 ht
  have b2 := pS_lt t (qg (L 1) (qBd' t L (qg (L 2) v))).1 ht
  have lt := pS_ltI (t := t) (i := (qg (L 2) v).1) (j := (qg (L 1) (qBd' t L (qg (L 2) v))).1) (by omega) (by omega)
  have walk := r_early_44 (p1 := nI v) (wd := wT' t) (w := wT' t (qg (L 2) v).1) k0 f1 f2 k1 f3 hi t1 (qg (L 2) v).2.1 xFuel u1 (by unfold xFuel; omega) rfl
  generalize hn : qBd' t L (qg (L 2) v) = n at *
  unfold f_N_isEarly
  rw [if_pos (xin_T (by omega) (by omega)), nI_clampT (by omega), e20]
  by_cases c0 : (qg (L 1) n).2.2.1 ≤ 1
  · rw [if_neg (show ¬ 1 < nI (qg (L 1) n).2.2.1 from nI_nlt (b := (qg (L 1) n).2.2.1) (a := 1) (by omega) (by omega)), if_pos (xin_T (by omega) (by omega)), nI_clampT (by omega), e24, if_pos (xin_T (by omega) (by omega)), if_pos (xin_T (by omega) (by omega)), e18, if_pos (xin_T (by omega) (by omega)), nI_clampT (by omega), nI_clampT (by omega), e9, e9']
    by_cases c1 : (qg (L 2) v).1 < (qg (L 1) n).1
    · rw [if_pos (nI_lt (lt.mpr c1) (by omega)), if_pos (xin_T (by omega) (by omega)), e25, walk]
      congr 3
      unfold qEarly
      by_cases c2 : qHome L (qg (L 2) v).2.1 = qHome L (qg (L 1) n).2.1
      · exact (decide_eq_true c2).trans (decide_eq_true ⟨c0, c1, c2⟩).symm
      · exact (decide_eq_false c2).trans (decide_eq_false (fun e => c2 e.2.2)).symm
    · rw [if_neg (fun e => c1 (lt.mp ((nI_ltI (by omega) (by omega)).mp e)))]
      have : qEarly L (qg (L 2) v) n = false := decide_eq_false (fun e => c1 e.2.1)
      rw [this]; rfl
  · rw [if_pos (show 1 < nI (qg (L 1) n).2.2.1 from nI_lt (a := 1) (by omega) (by omega))]
    have : qEarly L (qg (L 2) v) n = false := decide_eq_false (fun e => c0 e.1)
    rw [this]; rfl
theorem r_unused_15 {M : xMem} {b i : Nat} {l : List qE} {R : Nat → Nat} (h1 : nL M b 36 l c1s) (hl : l.length ≤ 60) (hi : i < l.length) (hR : ∀ j, j < l.length → M.1 (b + 22) j = nI (R j) ∧ R j ≤ 1000) (hb : ∀ j, j < l.length → (qg l j).2.2.1 ≤ 4 ∧ (qg l j).2.1 < 1000) : ∀ (m v fuel : Nat), v + m = l.length → m < fuel → f_N_isUnused_15 b (nI i) fuel (nI v) M = some (bI (!(decide ((qg l i).2.2.1 = 4) && qHeldN l R i m v)), M) := by
  have h0 := h1.1
  have c20 : ∀ j, j < l.length → M.1 (b + 20) j = nI (qg l j).2.2.1 := fun j hj => h1.at (c := (20, fun e => nI e.2.2.1)) (by simp [c1s]) hj
  have c19 : ∀ j, j < l.length → M.1 (b + 19) j = nI (qg l j).2.1 := fun j hj => h1.at (c := (19, fun e => nI e.2.1)) (by simp [c1s]) hj
  obtain ⟨bi1, bi2⟩ := hb i hi
  intro m
  induction m with
  | zero =>
    intro v fuel hv hf
    obtain ⟨f, rfl⟩ : ∃ f, fuel = f + 1 := ⟨fuel - 1, by omega⟩
    rw [f_N_isUnused_15, if_pos (show M.1 b 36 ≤ nI v by rw [h0]; exact nI_le (by omega) (by omega)), qHeldN, Bool.and_false]
    rfl
  | succ m ih =>
    intro v fuel hv hf
    obtain ⟨f, rfl⟩ : ∃ f, fuel = f + 1 := ⟨fuel - 1, by omega⟩
    have hvl : v < l.length := by omega
    obtain ⟨b1, b2⟩ := hb v hvl
    obtain ⟨r1, r2⟩ := hR v hvl
    have ih' := ih (v + 1) f (by omega) (by omega)
    have xi : xin (nI i) 64 = true := xin_T (by omega) (by omega)
    have xv : xin (nI v) 64 = true := xin_T (by omega) (by omega)
    rw [f_N_isUnused_15, if_neg (show ¬ M.1 b 36 ≤ nI v by rw [h0]; exact nI_ge (by omega) (by omega)), if_pos xi, nI_clampT (by omega), nI_clampT (by omega), c20 i hi]
    unfold f_N_isUnused_69
    by_cases c4 : (qg l i).2.2.1 = 4
    · rw [if_pos (show nI (qg l i).2.2.1 = 4 by rw [c4]; rfl), if_pos xv, c20 v hvl, decide_eq_true c4, Bool.true_and, qHeldN]
      rw [decide_eq_true c4, Bool.true_and] at ih'
      by_cases d1 : (qg l v).2.2.1 = 4
      · rw [if_pos (show nI (qg l v).2.2.1 = 4 by rw [d1]; rfl), if_pos xv, if_pos xi, c19 v hvl, c19 i hi]
        by_cases d2 : (qg l v).2.1 = (qg l i).2.1
        · rw [if_pos (by rw [d2]), if_pos xv, r1]
          by_cases d3 : R v = 0
          · rw [if_pos (show nI (R v) ≤ 0 from nI_le (b := 0) (by omega) (by omega)), nI_inc, if_neg (fun e => e.2.2 d3)]; exact ih'
          · rw [if_neg (show ¬ nI (R v) ≤ 0 from nI_ge (a := 0) (by omega) (by omega)), if_pos ⟨d1, d2, d3⟩]; rfl
        · rw [if_neg (fun e => d2 ((nI_eq (by omega) (by omega)).mp e)), nI_inc, if_neg (fun e => d2 e.2.1)]; exact ih'
      · rw [if_neg (show ¬ nI (qg l v).2.2.1 = 4 from fun e => d1 ((nI_eq (b := 4) (by omega) (by omega)).mp e)), nI_inc, if_neg (fun e => d1 e.1)]; exact ih'
    · rw [if_neg (show ¬ nI (qg l i).2.2.1 = 4 from fun e => c4 ((nI_eq (b := 4) (by omega) (by omega)).mp e)), decide_eq_false c4, Bool.false_and]; rfl
theorem r_isUnused {M : xMem} {b i : Nat} {t : List Nat} {L : qL} (h : nEnd M b t L) (hF : qFin t L) (hi : i < (L 1).length) : f_N_isUnused b (nI i) M = some (bI (qUnused L (qRd t L) i), M) := by
  obtain ⟨f1, f2, f3, f4, f5, f6⟩ := hF
  obtain ⟨hx, k0, k1, k22, k2, _⟩ := h
  have hR : ∀ j, j < (L 1).length → M.1 (b + 22) j = nI (qRd t L j) ∧ qRd t L j ≤ 1000 := fun j hj => ⟨(k22 j hj).1, by have := cR_le (t := t) (L := L) (L 2).length j; unfold qRd; omega⟩
  have hb : ∀ j, j < (L 1).length → (qg (L 1) j).2.2.1 ≤ 4 ∧ (qg (L 1) j).2.1 < 1000 := fun j hj => ⟨(f5 j hj).2.2, by have := (f5 j hj).1; omega⟩
  have w := r_unused_15 k1 f3 hi hR hb ((L 1).length - (i + 1)) (i + 1) xFuel (by omega) (by unfold xFuel; omega)
  obtain ⟨r1, r2⟩ := hR i hi
  unfold f_N_isUnused qUnused qHeld
  rw [if_pos (xin_T (by omega) (by omega)), nI_clampT (by omega), r1]
  by_cases c : qRd t L i = 0
  · rw [if_pos (show nI (qRd t L i) ≤ 0 from nI_le (b := 0) (by omega) (by omega)), show nI i + 1 = nI (i + 1) from nI_1 i, w, decide_eq_true c, Bool.true_and]
  · rw [if_neg (show ¬ nI (qRd t L i) ≤ 0 from nI_ge (a := 0) (by omega) (by omega)), decide_eq_false c, Bool.false_and]; rfl
