/-! PURE: the reference's looks() -/
theorem ad_mem {is : Bool} {c x : Nat} {D : Nat → Bool} (h : ad is c D x = true) : D x = true ∨ (is = true ∧ x = c) := by
  unfold ad at h
  rw [Bool.or_eq_true, Bool.and_eq_true, decide_eq_true_eq] at h
  exact h
/-- what a USE adds -/
def uD (t : List Nat) (L : qL) (e : qE) (D : Nat → Bool) : Nat → Bool := if qBd' t L e < (L 1).length then ad (qEarly L e (qBd' t L e)) (10 * e.1 + 3) (ad (decide (e.2.2.1 ≠ 0 ∧ (qg (L 1) (qBd' t L e)).2.2.1 = 1)) (10 * e.1 + 2) D) else ad true (10 * e.1 + 0) D
def dU (t : List Nat) (L : qL) (D : Nat → Bool) : Nat → Nat → Bool
  | 0 => D
  | v + 1 => uD t L (qg (L 2) v) (dU t L D v)
/-- what a thing adds -/
def tD (t : List Nat) (L : qL) (i : Nat) (D : Nat → Bool) : Nat → Bool := ad (qShadow t L i) (10 * (qg (L 1) i).1 + 4) (ad (qUnused L (qRd t L) i) (10 * (qg (L 1) i).1 + 1) D)
def dT2 (t : List Nat) (L : qL) (D : Nat → Bool) : Nat → Nat → Bool
  | 0 => D
  | i + 1 => tD t L i (dT2 t L D i)
/-- what a list of marks adds -/
def dK (r : Nat) (is : Nat → Bool) (l : List qE) (D : Nat → Bool) : Nat → Nat → Bool
  | 0 => D
  | k + 1 => ad (is k) (10 * (qg l k).1 + r) (dK r is l D k)
theorem dU_mem {t : List Nat} {L : qL} {D : Nat → Bool} : ∀ {v x : Nat}, dU t L D v x = true → D x = true ∨ ∃ u, u < v ∧ x / 10 = (qg (L 2) u).1 ∧ (x % 10 = 0 ∨ x % 10 = 2 ∨ x % 10 = 3) := by
  intro v
  induction v with
  | zero => intro x h; exact .inl h
  | succ v ih =>
    intro x h
    have up : dU t L D v x = true → D x = true ∨ ∃ u, u < v + 1 ∧ x / 10 = (qg (L 2) u).1 ∧ (x % 10 = 0 ∨ x % 10 = 2 ∨ x % 10 = 3) := by
      intro h
      rcases ih h with h | ⟨u, h1, h2⟩
      · exact .inl h
      · exact .inr ⟨u, by omega, h2⟩
    rw [dU] at h
    unfold uD at h
    split at h
    · rcases ad_mem h with h | ⟨_, h⟩
      · rcases ad_mem h with h | ⟨_, h⟩
        · exact up h
        · exact .inr ⟨v, by omega, by omega, by omega⟩
      · exact .inr ⟨v, by omega, by omega, by omega⟩
    · rcases ad_mem h with h | ⟨_, h⟩
      · exact up h
      · exact .inr ⟨v, by omega, by omega, by omega⟩
theorem dT2_mem {t : List Nat} {L : qL} {D : Nat → Bool} : ∀ {v x : Nat}, dT2 t L D v x = true → D x = true ∨ ∃ u, u < v ∧ x / 10 = (qg (L 1) u).1 ∧ (x % 10 = 1 ∨ x % 10 = 4) := by
  intro v
  induction v with
  | zero => intro x h; exact .inl h
  | succ v ih =>
    intro x h
    rw [dT2] at h
    unfold tD at h
    rcases ad_mem h with h | ⟨_, h⟩
    · rcases ad_mem h with h | ⟨_, h⟩
      · rcases ih h with h | ⟨u, h1, h2⟩
        · exact .inl h
        · exact .inr ⟨u, by omega, h2⟩
      · exact .inr ⟨v, by omega, by omega, by omega⟩
    · exact .inr ⟨v, by omega, by omega, by omega⟩
theorem dK_mem {r : Nat} {is : Nat → Bool} {l : List qE} {D : Nat → Bool} (hr : r < 10) : ∀ {v x : Nat}, dK r is l D v x = true → D x = true ∨ ∃ u, u < v ∧ x / 10 = (qg l u).1 ∧ x % 10 = r ∧ is u = true := by
  intro v
  induction v with
  | zero => intro x h; exact .inl h
  | succ v ih =>
    intro x h
    rw [dK] at h
    rcases ad_mem h with h | ⟨h', h⟩
    · rcases ih h with h | ⟨u, h1, h2⟩
      · exact .inl h
      · exact .inr ⟨u, by omega, h2⟩
    · exact .inr ⟨v, by omega, by omega, by omega, h'⟩
/-- the reference with a PROGRAM read and its settings -/
def nCx (M : xMem) (b : Nat) (on : Nat → Bool) (gv : List (List Nat)) (t : List Nat) (L : qL) : Prop := nEnd M b t L ∧ nSt M b on gv
theorem nCx.fd {M M' : xMem} {b : Nat} {on : Nat → Bool} {gv : List (List Nat)} {t : List Nat} {L : qL} (h : nCx M b on gv t L) (f : rF (rFdS b) M M') : nCx M' b on gv t L := by
  obtain ⟨⟨h1, k0, k1, h22, k2, h26, k14, k15, k16, k6, k18, k19, k4, kx⟩, s1, s2, s3, s4, s5⟩ := h
  refine ⟨⟨?_, k0.fr f ?_ ?_, k1.fr f ?_ ?_, ?_, k2.fr f ?_ ?_, ?_, k14.fr f ?_ ?_, k15.fr f ?_ ?_, k16.fr f ?_ ?_, k6.fr f ?_ ?_, k18.fr f ?_ ?_, k19.fr f ?_ ?_, k4.fr f ?_ ?_, ?_⟩, ?_, s2, ?_, ?_, s5⟩
  all_goals first
    | (unfold rFdS; omega)
    | (intro a h j; simp [c0, c1s, c2, c14, c15, c16, c6, c18, c19, c4] at h; unfold rFdS; omega)
    | skip
  · obtain ⟨a1, a2, a3, a4, a5⟩ := h1
    refine ⟨a1.to (f.2 _ _ (by unfold rFdS; omega)) (f.at (by intro k; unfold rFdS; omega)), by rw [f.2 _ _ (by unfold rFdS; omega)]; exact a2, ?_, by rw [f.2 _ _ (by unfold rFdS; omega)]; exact a4, by rw [f.2 _ _ (by unfold rFdS; omega)]; exact a5⟩
    intro i hi
    obtain ⟨b1, b2, b3⟩ := a3 i hi
    exact ⟨by rw [f.2 _ _ (by unfold rFdS; omega)]; exact b1, by rw [f.2 _ _ (by unfold rFdS; omega)]; exact b2, by rw [f.2 _ _ (by unfold rFdS; omega)]; exact b3⟩
  · intro i hi
    rw [f.2 _ _ (by unfold rFdS; omega), f.2 _ _ (by unfold rFdS; omega)]
    exact h22 i hi
  · intro u hu
    rw [f.2 _ _ (by unfold rFdS; omega)]
    exact h26 u hu
  · intro i hi hn; rw [f.2 _ _ (by unfold rFdS; omega)]; exact kx i hi hn
  · rw [f.2 _ _ (by unfold rFdS; omega)]; exact s1
  · intro i hi
    obtain ⟨a1, a2⟩ := s3 i hi
    refine ⟨by rw [f.2 _ _ (by unfold rFdS; omega)]; exact a1, fun k hk => ?_⟩
    rw [f.2 _ _ (by unfold rFdS; omega)]; exact a2 k hk
  · intro r hr
    rw [f.2 _ _ (by unfold rFdS; omega)]; exact s4 r hr
/-- what is known of a PROGRAM -/
def qPg (t : List Nat) (L : qL) : Prop := t.length ≤ 160 ∧ qFin t L ∧ nXs t (L 4) ∧ qIv (fun _ => nT t) L ∧ qAg (L 1) (L 14) ∧ qMk (kT t) (L 6) (L 14) (L 16) (L 18) (L 19) ∧ qFx (L 1) (L 6)
theorem q_pg {t : List Nat} {tok sc : Nat} {L : qL} (ht : t.length ≤ 160) (h : qRun (kT t) (wT' t) (dT t) = .inr ([], tok, sc, L)) : qPg t L := by
  obtain ⟨p1, p2, p3, p4, p5⟩ := q_prog h
  have hT := nT_le t
  obtain ⟨o1, o2, o3, o4, o5, o6, o7, o8, o9⟩ := p2
  refine ⟨ht, p3, ⟨?_, ?_⟩, o1.mono (fun _ => p1), o7, o8, o6⟩
  · have := (o1 4).len (lo := 2) (fun x hx => (o9 x hx).2)
    by_cases c : 2 ≤ tok + 1
    · have : (L 4).length + 2 ≤ tok + 1 := this c
      omega
    · have : L 4 = [] := by
        cases hl : L 4 with
        | nil => rfl
        | cons x r =>
          have h1 := (o9 x (by rw [hl]; exact List.mem_cons_self ..)).2
          have h2 := (o1 4).2 x (by rw [hl]; exact List.mem_cons_self ..)
          have h2 : x.2.1 ≤ tok := h2
          omega
      rw [this]; exact Nat.zero_le _
  · intro i hi
    have a := p5 i hi
    have b := o9 _ (qg_mem hi)
    have d : (qg (L 4) i).2.1 ≤ tok := (o1 4).2 _ (qg_mem hi)
    exact ⟨b.1, by omega, by omega, a.2⟩
theorem q_inc {m : Nat → Nat} {L : qL} {f i j : Nat} (h : qIv m L) (hf : f ≠ 0 ∧ f ≠ 4 ∧ f ≠ 5) (hij : i < j) (hj : j < (L f).length) : (qg (L f) i).1 < (qg (L f) j).1 := by
  have p := (h f).1
  have := List.pairwise_iff_getElem.mp p i j (by rw [List.length_map]; omega) (by rw [List.length_map]; exact hj) hij
  rw [List.getElem_map, List.getElem_map] at this
  have kk : ∀ e, qKey f e = e.1 + 1 := fun e => by unfold qKey; rw [if_neg hf.1, if_neg (show ¬ (f = 4 ∨ f = 5) by omega)]
  rw [kk, kk] at this
  have e1 : qg (L f) i = (L f)[i] := by unfold qg; rw [List.getD_eq_getElem?_getD, List.getElem?_eq_getElem (by omega)]; rfl
  have e2 : qg (L f) j = (L f)[j] := by unfold qg; rw [List.getD_eq_getElem?_getD, List.getElem?_eq_getElem hj]; rfl
  rw [e1, e2]
  omega
theorem q_bnd {m : Nat → Nat} {L : qL} {f i : Nat} (h : qIv m L) (hf : f ≠ 0 ∧ f ≠ 4 ∧ f ≠ 5) (hi : i < (L f).length) : (qg (L f) i).1 < m f := by
  have := (h f).2 _ (qg_mem hi)
  unfold qKey at this
  rw [if_neg hf.1, if_neg (show ¬ (f = 4 ∨ f = 5) by omega)] at this
  omega
theorem q_len60 {t : List Nat} {L : qL} {f : Nat} (h : qIv (fun _ => nT t) L) (hf : f ≠ 0 ∧ f ≠ 4 ∧ f ≠ 5) : (L f).length ≤ 60 := by
  have hT := nT_le t
  have := (h f).len (lo := 1) (fun x hx => by unfold qKey; rw [if_neg hf.1, if_neg (show ¬ (f = 4 ∨ f = 5) by omega)]; omega) (by omega)
  have : (L f).length + 1 ≤ nT t + 1 := this
  omega
/-- the FINDINGS of D, and the reference as it was -/
def nLk (M : xMem) (b : Nat) (on : Nat → Bool) (gv : List (List Nat)) (t : List Nat) (L : qL) (D : Nat → Bool) : Prop := nCx M b on gv t L ∧ nFd M b on gv t (L 4) D
/-- one call of finds() -/
theorem nLk.find {M : xMem} {b p r : Nat} {is : Bool} {on : Nat → Bool} {gv : List (List Nat)} {t : List Nat} {L : qL} {D : Nat → Bool} (h : nLk M b on gv t L D) (hP : qPg t L) (hr : r < 10) (hc : kok t (10 * p + r)) (hD : D (10 * p + r) = false) (hg : is = true → ¬ (r = 0 ∧ pW t p ∈ gv)) : ∃ M', f_N_finds b (bI is) (nI r) (nI (pS (pLex t) p)) M = some ((), M') ∧ nLk M' b on gv t L (ad is (10 * p + r) D) ∧ rF (rFdS b) M M' := by
  have k := h.1.1
  have e := code_mod (p := p) hr
  obtain ⟨M', o, r1, r2⟩ := r_finds (is := is) hP.1 h.1.2 h.2 k.2.2.2.2.2.2.2.2.2.2.2.2.1 k.2.2.2.2.2.2.2.2.2.2.2.2.2 hP.2.2.1 hc hD (by rw [e.1, e.2]; exact hg)
  rw [e.1, e.2] at o
  exact ⟨M', o, ⟨h.1.fd r2, r1⟩, r2⟩
/-- a loop over a list of marks -/
theorem r_loop {b sz col r f : Nat} {on : Nat → Bool} {gv : List (List Nat)} {t : List Nat} {L : qL} {D : Nat → Bool} {F : Nat → Int32 → xMem → Option (Unit × xMem)} {K : xMem → Option (Unit × xMem)} (hP : qPg t L) (hr : r < 10) (hr0 : r ≠ 0) (hf : f ≠ 0 ∧ f ≠ 4 ∧ f ≠ 5) (hF : ∀ n v M, F (n + 1) v M = if M.1 b sz ≤ v then K M else (if xin v 64 = true then xval (M.1 (b + col) v.toNatClampNeg) fun x => xbind (f_N_finds b (bI true) (nI r) x M) fun _ M => F n (v + Int32.ofInt 1) M else none)) (hL : ∀ M, nCx M b on gv t L → M.1 b sz = nI (L f).length ∧ ∀ i, i < (L f).length → M.1 (b + col) i = nI (pS (pLex t) (qg (L f) i).1)) (hk : ∀ i, i < (L f).length → kok t (10 * (qg (L f) i).1 + r)) (hD : ∀ i, i < (L f).length → D (10 * (qg (L f) i).1 + r) = false) : ∀ (m v fuel : Nat) (M : xMem), v + m = (L f).length → m < fuel → nLk M b on gv t L (dK r (fun _ => true) (L f) D v) → ∃ M', F fuel (nI v) M = K M' ∧ nLk M' b on gv t L (dK r (fun _ => true) (L f) D (L f).length) ∧ rF (rFdS b) M M' := by
  have l60 := q_len60 hP.2.2.2.1 hf
  intro m
  induction m with
  | zero =>
    intro v fuel M hv hfu h
    obtain ⟨fu, rfl⟩ : ∃ fu, fuel = fu + 1 := ⟨fuel - 1, by omega⟩
    have e : v = (L f).length := by omega
    subst e
    refine ⟨M, ?_, h, rF.rfl⟩
    rw [hF, if_pos (show M.1 b sz ≤ nI (L f).length by rw [(hL M h.1).1]; exact nI_le (Nat.le_refl _) (by omega))]
  | succ m ih =>
    intro v fuel M hv hfu h
    obtain ⟨fu, rfl⟩ : ∃ fu, fuel = fu + 1 := ⟨fuel - 1, by omega⟩
    have hvl : v < (L f).length := by omega
    obtain ⟨M1, o1, r1, f1⟩ := h.find (is := true) hP hr (hk v hvl) (by
      cases q : dK r (fun _ => true) (L f) D v (10 * (qg (L f) v).1 + r) with
      | false => rfl
      | true =>
        rcases dK_mem hr q with q | ⟨u, u1, u2, _⟩
        · rw [hD v hvl] at q; cases q
        · rw [(code_mod hr).2] at u2
          have := q_inc hP.2.2.2.1 hf u1 hvl
          omega) (fun _ e => hr0 e.1)
    obtain ⟨M', o2, r2, f2⟩ := ih (v + 1) fu M1 (by omega) (by omega) r1
    refine ⟨M', ?_, r2, f1.trans f2⟩
    obtain ⟨a1, a2⟩ := hL M h.1
    rw [hF, if_neg (show ¬ M.1 b sz ≤ nI v by rw [a1]; exact nI_ge (by omega) (by omega)), if_pos (xin_T (by omega) (by omega)), nI_clampT (by omega), a2 v hvl]
    simp only [xval]
    rw [o1, xb_some, nI_inc]
    exact o2
