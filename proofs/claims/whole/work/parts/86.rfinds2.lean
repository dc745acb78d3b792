/-! PURE: the reference's finds() -/
def xHolds (l : List qE) (c i : Nat) : Prop := (qg l i).1 = c % 10 ∧ (qg l i).2.1 ≤ c / 10 ∧ c / 10 < (qg l i).2.2.1
theorem sEx_holds {l : List qE} {c : Nat} : sEx l c = true ↔ ∃ i, i < l.length ∧ xHolds l c i := by
  have := sEx_iff (l := l) (p := c / 10) (r := c % 10) (by omega)
  rw [show 10 * (c / 10) + c % 10 = c by omega] at this
  rw [this]
  constructor
  · intro ⟨e, h1, h2⟩
    obtain ⟨i, hi, hq⟩ := qg_of_mem h1
    exact ⟨i, hi, by unfold xHolds; rw [hq]; exact h2⟩
  · intro ⟨i, hi, h⟩; exact ⟨_, qg_mem hi, h⟩
theorem pE_pos {t : List Nat} {i : Nat} (h : i < nT t) : 1 ≤ pE (pLex t) i := by have := (pS_lt_E h).1; omega
/-- an excuse holds by places just if it holds by TOKENS -/
theorem x_places {t : List Nat} {p f e : Nat} (hp : p < nT t) (hf : f ≤ nT t) (he : e ≤ nT t) (h0 : e ≠ 0) : (pS (pLex t) f ≤ pS (pLex t) p ∧ pS (pLex t) p ≤ pE (pLex t) (e - 1) - 1) ↔ (f ≤ p ∧ p < e) := by
  have a := pS_ltI (t := t) (i := p) (j := f) (by omega) hf
  have b := pS_lt_E (t := t) (i := e - 1) (by omega)
  rw [show e - 1 + 1 = e by omega] at b
  have d := pS_ltI (t := t) (i := e - 1) (j := p) (by omega) (by omega)
  have g := pS_ltI (t := t) (i := p) (j := e) (by omega) (by omega)
  have m : e - 1 < p ∨ p ≤ e - 1 := by omega
  constructor
  · intro ⟨h1, h2⟩
    refine ⟨by omega, ?_⟩
    by_cases c : p < e
    · exact c
    · have : ¬ pS (pLex t) p < pS (pLex t) e := fun h => c (g.mp h)
      omega
  · intro ⟨h1, h2⟩
    refine ⟨by omega, ?_⟩
    have : ¬ pS (pLex t) (e - 1) < pS (pLex t) p := fun h => by have := d.mp h; omega
    omega
theorem r_finds_17 {M : xMem} {b c : Nat} {t : List Nat} {l : List qE} {p1 : Int32} (ht : t.length ≤ 160) (hl : nL M b 60 l (c4 t)) (hx : nEx M b t l) (hs : nXs t l) (hc : kok t c) : ∀ (m v fuel : Nat), v + m = l.length → m < fuel → (∀ i, i < v → ¬ xHolds l c i) → (sEx l c = true → f_N_finds_17 b p1 (nI (c % 10)) (nI (pS (pLex t) (c / 10))) fuel (nI v) M = some ((), wI M b 64 (M.1 b 64 + 1))) ∧ (sEx l c = false → f_N_finds_17 b p1 (nI (c % 10)) (nI (pS (pLex t) (c / 10))) fuel (nI v) M = f_N_finds_81 b p1 (nI (c % 10)) (nI (pS (pLex t) (c / 10))) xFuel (M.1 b 63) M) := by
  have hl0 := hl.1
  have h60 := hs.1
  intro m
  induction m with
  | zero =>
    intro v fuel hv hf hq
    obtain ⟨f, rfl⟩ : ∃ f, fuel = f + 1 := ⟨fuel - 1, by omega⟩
    refine ⟨fun h => ?_, fun _ => ?_⟩
    · obtain ⟨i, hi, h⟩ := sEx_holds.mp h
      exact absurd h (hq i (by omega))
    · rw [f_N_finds_17, if_pos (show M.1 b 60 ≤ nI v by rw [hl0]; exact nI_le (by omega) (by omega))]
  | succ m ih =>
    intro v fuel hv hf hq
    obtain ⟨f, rfl⟩ : ∃ f, fuel = f + 1 := ⟨fuel - 1, by omega⟩
    have hvl : v < l.length := by omega
    have e36 : M.1 (b + 36) v = nI (qg l v).1 := hl.at (c := (36, fun e => nI e.1)) (by simp [c4]) hvl
    have e37 : M.1 (b + 37) v = nI (pS (pLex t) (qg l v).2.1) := hl.at (c := (37, fun e => nI (pS (pLex t) e.2.1))) (by simp [c4]) hvl
    obtain ⟨s1, s2, s3, s4⟩ := hs.2 v hvl
    have e38 : M.1 (b + 38) v = nI (pE (pLex t) ((qg l v).2.2.1 - 1) - 1) := by
      rw [hx v hvl s4]
      exact pk_subT (b := 1) (pE_pos (by omega))
    have pl := x_places (t := t) (p := c / 10) (f := (qg l v).2.1) (e := (qg l v).2.2.1) hc.1 s2 s3 s4
    have b1 := pS_lt t (c / 10) ht
    have b2 := pS_lt t (qg l v).2.1 ht
    have b3 := (pS_le t ((qg l v).2.2.1 - 1)).2
    have step : (xHolds l c v → f_N_finds_17 b p1 (nI (c % 10)) (nI (pS (pLex t) (c / 10))) (f + 1) (nI v) M = some ((), wI M b 64 (M.1 b 64 + 1))) ∧ (¬ xHolds l c v → f_N_finds_17 b p1 (nI (c % 10)) (nI (pS (pLex t) (c / 10))) (f + 1) (nI v) M = f_N_finds_17 b p1 (nI (c % 10)) (nI (pS (pLex t) (c / 10))) f (nI (v + 1)) M) := by
      rw [f_N_finds_17, if_neg (show ¬ M.1 b 60 ≤ nI v by rw [hl0]; exact nI_ge (by omega) (by omega)), if_pos (xin_T (by omega) (by omega)), nI_clampT (by omega), e36]
      unfold f_N_finds_69
      by_cases cr : (qg l v).1 = c % 10
      · rw [if_pos (by rw [cr]), if_pos (xin_T (by omega) (by omega)), if_pos (xin_T (by omega) (by omega)), e37, e38]
        simp only [xval]
        rw [r_in, xb_some]
        have dn : (nI (pS (pLex t) (qg l v).2.1) ≤ nI (pS (pLex t) (c / 10)) ∧ nI (pS (pLex t) (c / 10)) ≤ nI (pE (pLex t) ((qg l v).2.2.1 - 1) - 1)) ↔ ((qg l v).2.1 ≤ c / 10 ∧ c / 10 < (qg l v).2.2.1) := by
          rw [← pl, nI_leI (by omega) (by omega), nI_leI (by omega) (by omega)]
        by_cases hh : (qg l v).2.1 ≤ c / 10 ∧ c / 10 < (qg l v).2.2.1
        · rw [decide_eq_true (dn.mpr hh), if_neg (by decide)]
          exact ⟨fun _ => rfl, fun h => absurd ⟨cr, hh⟩ h⟩
        · rw [decide_eq_false (fun h => hh (dn.mp h)), if_pos (by decide), nI_inc]
          exact ⟨fun h => absurd h.2 hh, fun _ => rfl⟩
      · rw [if_neg (fun e => cr ((nI_eq (by omega) (by omega)).mp e)), nI_inc]
        exact ⟨fun h => absurd h.1 cr, fun _ => rfl⟩
    by_cases ch : xHolds l c v
    · refine ⟨fun _ => step.1 ch, fun h => ?_⟩
      have := sEx_holds.mpr ⟨v, hvl, ch⟩
      rw [h] at this; cases this
    · rw [step.2 ch]
      refine ih (v + 1) f (by omega) (by omega) ?_
      intro i hi
      by_cases e : i = v
      · subst e; exact ch
      · exact hq i (by omega)
theorem nFd.cong {M : xMem} {b : Nat} {on : Nat → Bool} {gv : List (List Nat)} {t : List Nat} {l : List qE} {D D' : Nat → Bool} (h : nFd M b on gv t l D) (e1 : ∀ c, (D' c && sFd on gv t l c) = (D c && sFd on gv t l c)) (e2 : ∀ c, (D' c && sXd on gv t l c) = (D c && sXd on gv t l c)) (hk : ∀ c, D' c = true → kok t c) : nFd M b on gv t l D' := by
  have f1 : (fun c => D' c && sFd on gv t l c) = (fun c => D c && sFd on gv t l c) := funext e1
  have f2 : (fun c => D' c && sXd on gv t l c) = (fun c => D c && sXd on gv t l c) := funext e2
  obtain ⟨h1, h2, h3, h4⟩ := h
  refine ⟨by rw [f1]; exact h1, by rw [f2]; exact h2, hk, ?_⟩
  intro c hc
  rw [f1]
  exact h4 c (by rw [← e1 c]; exact hc)
theorem ad_kok {is : Bool} {c : Nat} {D : Nat → Bool} {t : List Nat} (h : ∀ c, D c = true → kok t c) (hc : kok t c) : ∀ x, ad is c D x = true → kok t x := by
  intro x hx
  unfold ad at hx
  rw [Bool.or_eq_true] at hx
  rcases hx with hx | hx
  · exact h x hx
  · have : x = c := by simp at hx; exact hx.2
    rw [this]; exact hc
theorem ad_ne {is : Bool} {c x : Nat} {D : Nat → Bool} (h : x ≠ c) : ad is c D x = D x := by unfold ad; simp [h]
theorem ad_false {c : Nat} {D : Nat → Bool} : ad false c D = D := by funext x; unfold ad; simp
theorem ad_self {c : Nat} {D : Nat → Bool} : ad true c D c = true := by unfold ad; simp
/-- a code that may not be found changes nothing -/
theorem nFd.skip {M : xMem} {b c : Nat} {is : Bool} {on : Nat → Bool} {gv : List (List Nat)} {t : List Nat} {l : List qE} {D : Nat → Bool} (h : nFd M b on gv t l D) (hc : kok t c) (hs : sOn on gv t c = false) : nFd M b on gv t l (ad is c D) := by
  refine h.cong ?_ ?_ (ad_kok h.2.2.1 hc)
  · intro x
    by_cases e : x = c
    · subst e; unfold sFd; rw [hs]; simp
    · rw [ad_ne e]
  · intro x
    by_cases e : x = c
    · subst e; unfold sXd; rw [hs]; simp
    · rw [ad_ne e]
theorem r_finds {M : xMem} {b c : Nat} {is : Bool} {on : Nat → Bool} {gv : List (List Nat)} {t : List Nat} {l : List qE} {D : Nat → Bool} (ht : t.length ≤ 160) (hS : nSt M b on gv) (h : nFd M b on gv t l D) (hl : nL M b 60 l (c4 t)) (hx : nEx M b t l) (hs : nXs t l) (hc : kok t c) (hD : D c = false) (hg : is = true → ¬ (c % 10 = 0 ∧ pW t (c / 10) ∈ gv)) : ∃ M', f_N_finds b (bI is) (nI (c % 10)) (nI (pS (pLex t) (c / 10))) M = some ((), M') ∧ nFd M' b on gv t l (ad is c D) ∧ rF (rFdS b) M M' := by
  have hT := nT_le t
  unfold f_N_finds
  cases is with
  | false => exact ⟨M, by rw [if_pos (by decide)], by rw [ad_false]; exact h, rF.rfl⟩
  | true =>
    have hg := hg rfl
    have r10 : c % 10 < 10 := by omega
    have so := sOn_iff (on := on) (gv := gv) (t := t) (p := c / 10) (r := c % 10) r10
    rw [show 10 * (c / 10) + c % 10 = c by omega] at so
    rw [if_neg (by decide), if_pos (xin_T r10 (by omega)), nI_clampT (by omega), hS.2.2.2.1 _ r10]
    cases ho : on (c % 10) with
    | false =>
      rw [if_neg (by decide)]
      have s0 : sOn on gv t c = false := by
        cases q : sOn on gv t c with
        | false => rfl
        | true => have := (so.mp q).1; rw [ho] at this; cases this
      exact ⟨M, rfl, h.skip hc s0, rF.rfl⟩
    | true =>
      rw [if_pos (by decide)]
      have s1 : sOn on gv t c = true := so.mpr ⟨ho, hg⟩
      have l60 := hs.1
      have key := r_finds_17 (p1 := bI true) ht hl hx hs hc l.length 0 xFuel (by omega) (by unfold xFuel; omega) (fun i hi => absurd hi (by omega))
      obtain ⟨h1, h2, h3, h4⟩ := h
      cases hX : sEx l c with
      | true =>
        have k1 := key.1 hX
        have fF : ∀ x, (ad true c D x && sFd on gv t l x) = (D x && sFd on gv t l x) := by
          intro x
          by_cases e : x = c
          · subst e; unfold sFd; rw [hX]; simp
          · rw [ad_ne e]
        have fX := cnt_ins (P := fun c => D c && sXd on gv t l c) (Q := fun x => ad true c D x && sXd on gv t l x) (c := c) (by show (D c && _) = false; rw [hD]; rfl) (by show (ad true c D c && sXd on gv t l c) = true; rw [ad_self]; unfold sXd; rw [s1, hX]; rfl) (by intro x e; show (ad true c D x && _) = _; rw [ad_ne e]) (10 * nT t)
        have lt : c < 10 * nT t := by have := hc.1; omega
        rw [if_pos lt] at fX
        have f1 : (fun c_1 => ad true c D c_1 && sFd on gv t l c_1) = (fun c => D c && sFd on gv t l c) := funext fF
        refine ⟨_, k1, ⟨?_, ?_, ad_kok h3 hc, ?_⟩, rF.I (by unfold rFdS; omega)⟩
        · rw [f1, mI_k (by omega)]; exact h1
        · rw [mI_s rfl rfl, fX, h2]; exact nI_1 _
        · intro x hx'
          rw [f1]
          have := h4 x (by rw [← fF x]; exact hx')
          refine ⟨?_, ?_⟩
          · rw [mI_n (by omega)]; exact this.1
          · rw [mI_n (by omega)]; exact this.2
      | false =>
        have k1 := key.2 hX
        have fX : ∀ x, (ad true c D x && sXd on gv t l x) = (D x && sXd on gv t l x) := by
          intro x
          by_cases e : x = c
          · subst e; unfold sXd; rw [hX]; simp
          · rw [ad_ne e]
        have P0 : (fun c => D c && sFd on gv t l c) c = false := by show (D c && _) = false; rw [hD]; rfl
        have Q1 : (fun x => ad true c D x && sFd on gv t l x) c = true := by show (ad true c D c && sFd on gv t l c) = true; rw [ad_self]; unfold sFd; rw [s1, hX]; rfl
        have PQ : ∀ x, x ≠ c → (fun x => ad true c D x && sFd on gv t l x) x = (fun c => D c && sFd on gv t l c) x := by intro x e; show (ad true c D x && _) = _; rw [ad_ne e]
        have fF := cnt_ins P0 Q1 PQ
        have lt : c < 10 * nT t := by have := hc.1; omega
        have f2 : (fun c_1 => ad true c D c_1 && sXd on gv t l c_1) = (fun c => D c && sXd on gv t l c) := funext fX
        have hP : ∀ x, (fun c => D c && sFd on gv t l c) x = true → kok t x := by
          intro x hx'
          have hx' : (D x && sFd on gv t l x) = true := hx'
          rw [Bool.and_eq_true] at hx'
          exact h3 x hx'.1
        have le : cnt (fun c => D c && sFd on gv t l c) c ≤ cnt (fun c => D c && sFd on gv t l c) (10 * nT t) := cnt_mono (by omega)
        have l360 := cnt_360 hP (nT t)
        obtain ⟨M', o, r1, r2, r3, r4, r5⟩ := r_finds_81 (b := b) (n := cnt (fun c => D c && sFd on gv t l c) (10 * nT t)) (p1 := bI true) ht hP hc P0 (cnt (fun c => D c && sFd on gv t l c) (10 * nT t) - cnt (fun c => D c && sFd on gv t l c) c) (cnt (fun c => D c && sFd on gv t l c) (10 * nT t)) xFuel M (by omega) (Nat.le_refl _) (by unfold xFuel; omega) h1 (by
          intro x hx'
          have a := h4 x hx'
          have xk := (hP x hx').1
          rw [if_pos (cnt_lt hx' (by omega))]
          exact a)
        refine ⟨M', by rw [← o, ← h1]; exact k1, ⟨?_, ?_, ad_kok h3 hc, ?_⟩, r5⟩
        · rw [fF, if_pos lt]; exact r1
        · rw [f2, r2]; exact h2
        · intro x hx'
          rw [fF]
          by_cases e : x = c
          · subst e; rw [if_neg (Nat.lt_irrefl x), Nat.add_zero]; exact r3
          · exact r4 x ((PQ x e).symm.trans hx')
