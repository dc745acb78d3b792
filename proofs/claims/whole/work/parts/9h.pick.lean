/-! PURE: the reference looks for what goes -/
theorem r_emptyAt_2 {M : xMem} {b p : Nat} {t : List Nat} {l : List qE} (ht : t.length ≤ 160) (hl : nL M b 58 l (c18 t)) (hlen : l.length ≤ 60) (hp : p ≤ nT t) (he : ∀ i, i < l.length → (qg l i).1 ≤ nT t ∧ (qg l i).2.1 ≤ 1) : ∀ (m v fuel : Nat), v + m = l.length → m < fuel → ∃ x, f_N_emptyAt_2 b (nI (pS (pLex t) p)) fuel (nI v) M = some (x, M) ∧ ((x = -1 ∧ ∀ i, v ≤ i → i < l.length → ¬ ((qg l i).1 = p ∧ (qg l i).2.1 = 1)) ∨ ∃ i, v ≤ i ∧ i < l.length ∧ (qg l i).1 = p ∧ (qg l i).2.1 = 1 ∧ x = nI i) := by
  have s160 : ∀ i, pS (pLex t) i ≤ 160 := fun i => pS_lt t i ht
  intro m
  induction m with
  | zero =>
    intro v fuel e hf
    obtain ⟨f, ef⟩ : ∃ g, fuel = g + 1 := ⟨fuel - 1, by omega⟩
    subst ef
    refine ⟨-1, ?_, .inl ⟨rfl, fun i h1 h2 => by omega⟩⟩
    rw [f_N_emptyAt_2, hl.1, if_pos (nI_le (by omega) (by omega))]
  | succ m ih =>
    intro v fuel e hf
    obtain ⟨f, ef⟩ : ∃ g, fuel = g + 1 := ⟨fuel - 1, by omega⟩
    subst ef
    obtain ⟨x, h1, h2⟩ := ih (v + 1) f (by omega) (by omega)
    have e33 : M.1 (b + 33) v = nI (pS (pLex t) (qg l v).1) := hl.2 (33, fun e => nI (pS (pLex t) e.1)) (by simp [c18]) v (by omega)
    have e39 : M.1 (b + 39) v = nI (qg l v).2.1 := hl.2 (39, fun e => nI e.2.1) (by simp [c18]) v (by omega)
    have hv := he v (by omega)
    have e1 : nI v + Int32.ofInt 1 = nI (v + 1) := nI_1 v
    have sE := pS_eqI (t := t) hv.1 hp
    have s1 := s160 (qg l v).1
    have s2 := s160 p
    rw [f_N_emptyAt_2, hl.1, if_neg (nI_ge (by omega) (by omega)), if_pos (xin_nI (by omega) (by decide)), nI_clamp (by omega), e33, e39]
    unfold f_N_emptyAt_31
    rw [e1]
    by_cases c : (qg l v).1 = p
    · rw [if_pos (show nI (pS (pLex t) (qg l v).1) = nI (pS (pLex t) p) by rw [c]), if_pos (xin_nI (by omega) (by decide))]
      by_cases c1 : (qg l v).2.1 = 0
      · rw [c1, if_pos (show nI 0 = 0 from rfl), h1]
        refine ⟨x, rfl, ?_⟩
        rcases h2 with ⟨h2, h3⟩ | ⟨i, h2, h3, h4⟩
        · left
          refine ⟨h2, fun i i1 i2 => ?_⟩
          by_cases q : i = v
          · subst q; omega
          · exact h3 i (by omega) i2
        · exact .inr ⟨i, by omega, h3, h4⟩
      · rw [if_neg (nI_nz (by omega) (by omega))]
        exact ⟨_, rfl, .inr ⟨v, Nat.le_refl _, by omega, c, by omega, rfl⟩⟩
    · rw [if_neg (show ¬ nI (pS (pLex t) (qg l v).1) = nI (pS (pLex t) p) from fun e => c (sE.mp ((nI_eq (by omega) (by omega)).mp e))), h1]
      refine ⟨x, rfl, ?_⟩
      rcases h2 with ⟨h2, h3⟩ | ⟨i, h2, h3, h4⟩
      · left
        refine ⟨h2, fun i i1 i2 => ?_⟩
        by_cases q : i = v
        · subst q; exact fun h => c h.1
        · exact h3 i (by omega) i2
      · exact .inr ⟨i, by omega, h3, h4⟩
/-- what the reference has looked up, as mended() uses it -/
def nMd (M : xMem) (b : Nat) (t : List Nat) (P : Nat → Bool) (l : List qE) : Prop := rTx M b t ∧ M.1 b 63 = nI (cnt P (10 * nT t)) ∧ (∀ c, P c = true → kok t c) ∧ (∀ c, P c = true → nAt M b t (cnt P c) c) ∧ nL M b 58 l (c18 t) ∧ l.length ≤ 60 ∧ ∀ i, i < l.length → (qg l i).1 < nT t ∧ (qg l i).2.1 ≤ 1
theorem nMd.N {M : xMem} {b : Nat} {t : List Nat} {P : Nat → Bool} {l : List qE} (h : nMd M b t P l) : cnt P (10 * nT t) ≤ 360 := by
  have := cnt_360 h.2.2.1 (nT t)
  have := nT_le t
  omega
theorem nMd.lt {M : xMem} {b c : Nat} {t : List Nat} {P : Nat → Bool} {l : List qE} (h : nMd M b t P l) (hc : P c = true) : cnt P c < cnt P (10 * nT t) ∧ c / 10 < nT t := by
  have k := (h.2.2.1 c hc).1
  exact ⟨cnt_lt hc (by omega), k⟩
theorem nMd.fr {M M' : xMem} {b : Nat} {t : List Nat} {P : Nat → Bool} {l : List qE} (h : nMd M b t P l) (f : rF (fun a _ => a = b + 4) M M') : nMd M' b t P l := by
  obtain ⟨⟨x1, x2, x3, x4⟩, h63, hk, hA, h58, hl, he⟩ := h
  refine ⟨⟨by rw [f.2 _ _ (by omega)]; exact x1, x2, fun i hi => by rw [f.2 _ _ (by omega)]; exact x3 i hi, x4⟩, by rw [f.2 _ _ (by omega)]; exact h63, hk, ?_, h58.fr f (by omega) ?_, hl, he⟩
  · intro c hc
    have := hA c hc
    exact ⟨by rw [f.2 _ _ (by omega)]; exact this.1, by rw [f.2 _ _ (by omega)]; exact this.2⟩
  · intro a ha j
    simp [c18] at ha
    omega
theorem r_emptyAt {M : xMem} {b p : Nat} {t : List Nat} {P : Nat → Bool} {l : List qE} (h : nMd M b t P l) (hp : p < nT t) : ∃ x, f_N_emptyAt b (nI (pS (pLex t) p)) M = some (x, M) ∧ ((x = -1 ∧ loB l p = false) ∨ ∃ i, i < l.length ∧ (qg l i).1 = p ∧ loB l p = true ∧ x = nI i) := by
  have hl := h.2.2.2.2.2.1
  obtain ⟨x, h1, h2⟩ := r_emptyAt_2 (p := p) h.1.2.1 h.2.2.2.2.1 hl (by omega) (fun i hi => ⟨by have := (h.2.2.2.2.2.2 i hi).1; omega, (h.2.2.2.2.2.2 i hi).2⟩) l.length 0 xFuel (by omega) (by unfold xFuel; omega)
  refine ⟨x, h1, ?_⟩
  rcases h2 with ⟨h2, h3⟩ | ⟨i, h2, h3, h4, h5, h6⟩
  · left
    refine ⟨h2, ?_⟩
    cases q : loB l p with
    | false => rfl
    | true =>
      obtain ⟨e, e1, e2, e3⟩ := loB_iff.mp q
      obtain ⟨k, hk, hq⟩ := qg_of_mem e1
      exact absurd ⟨by rw [hq]; exact e2, by rw [hq]; exact e3⟩ (h3 k (Nat.zero_le _) hk)
  · exact .inr ⟨i, h3, h4, loB_iff.mpr ⟨_, qg_mem h3, h4, h5⟩, h6⟩
def gC (lo : Nat → Bool) (c : Nat) : Bool := c % 10 == 6 || (c % 10 == 7 || (c % 10 == 9 || (c % 10 == 8 && lo (c / 10))))
theorem r_goes {M : xMem} {b c : Nat} {t : List Nat} {P : Nat → Bool} {l : List qE} (h : nMd M b t P l) (hc : P c = true) : f_N_goes b (nI (cnt P c)) M = some (bI (gC (loB l) c), M) := by
  have lt := h.lt hc
  have N := h.N
  obtain ⟨a1, a2⟩ := h.2.2.2.1 c hc
  have x4 : xin (nI (cnt P c)) 400 = true := xin_nI (by omega) (by decide)
  have m10 : c % 10 < 10 := by omega
  have nq : ∀ k, k < 10 → (nI (c % 10) = nI k ↔ c % 10 = k) := fun k hk => nI_eq (by omega) (by omega)
  unfold f_N_goes f_N_goes_57
  rw [x4, nI_clamp (by omega), a1, a2]
  simp only [↓reduceIte]
  by_cases c6 : c % 10 = 6
  · rw [c6, if_pos (show nI 6 = 6 from rfl)]
    have : gC (loB l) c = true := by unfold gC; rw [c6]; rfl
    rw [this]; rfl
  rw [if_neg (show ¬ nI (c % 10) = 6 from fun e => c6 ((nq 6 (by omega)).mp e))]
  by_cases c7 : c % 10 = 7
  · rw [c7, if_pos (show nI 7 = 7 from rfl)]
    have : gC (loB l) c = true := by unfold gC; rw [c7]; rfl
    rw [this]; rfl
  rw [if_neg (show ¬ nI (c % 10) = 7 from fun e => c7 ((nq 7 (by omega)).mp e))]
  by_cases c9 : c % 10 = 9
  · rw [c9, if_pos (show nI 9 = 9 from rfl)]
    have : gC (loB l) c = true := by unfold gC; rw [c9]; rfl
    rw [this]; rfl
  rw [if_neg (show ¬ nI (c % 10) = 9 from fun e => c9 ((nq 9 (by omega)).mp e))]
  by_cases c8 : c % 10 = 8
  · rw [if_pos (show nI (c % 10) = 8 by rw [c8]; rfl)]
    obtain ⟨x, h1, h2⟩ := r_emptyAt h lt.2
    have g : gC (loB l) c = loB l (c / 10) := by unfold gC; rw [c8]; rfl
    show xbind (f_N_emptyAt b (nI (pS (pLex t) (c / 10))) M) _ = _
    rw [h1, xb_some, g]
    rcases h2 with ⟨h2, h3⟩ | ⟨i, i1, i2, i3, i4⟩
    · rw [h2, h3, if_pos (by decide)]; rfl
    · have hl := h.2.2.2.2.2.1
      rw [i4, i3, if_neg (nI_pos (by omega))]; rfl
  · rw [if_neg (show ¬ nI (c % 10) = 8 from fun e => c8 ((nq 8 (by omega)).mp e))]
    have : gC (loB l) c = false := by unfold gC; simp [c6, c7, c8, c9]
    rw [this]; rfl
/-- what goes at a TOKEN is what is mended there -/
theorem md_of {t : List Nat} {P lo : Nat → Bool} (hk : ∀ c, P c = true → kok t c) {c : Nat} (hc : P c = true) (hg : gC lo c = true) : sMd P lo (c / 10) = c % 10 := by
  have ec : 10 * (c / 10) + c % 10 = c := by omega
  have key : ∀ r, r < 10 → P (10 * (c / 10) + r) = true → (kT t (c / 10) = 23 ∧ r ≤ 4) ∨ r = 5 ∨ (r = 6 ∧ kT t (c / 10) = 9) ∨ (r = 7 ∧ kT t (c / 10) = 0) ∨ (r = 8 ∧ kT t (c / 10) = 18) ∨ (r = 9 ∧ kT t (c / 10) = 20) := by
    intro r hr hp
    have := (hk _ hp).2
    rw [(code_mod hr).1, (code_mod hr).2] at this
    omega
  have k0 := key (c % 10) (by omega) (by rw [ec]; exact hc)
  unfold gC at hg
  simp at hg
  unfold sMd
  rcases hg with g | g | g | g
  · rw [if_pos (by rw [← g, ec]; exact hc), g]
  · have n6 : ¬ P (10 * (c / 10) + 6) = true := fun h => by have := key 6 (by omega) h; omega
    rw [if_neg n6, if_pos (by rw [← g, ec]; exact hc), g]
  · have n6 : ¬ P (10 * (c / 10) + 6) = true := fun h => by have := key 6 (by omega) h; omega
    have n7 : ¬ P (10 * (c / 10) + 7) = true := fun h => by have := key 7 (by omega) h; omega
    have n8 : ¬ (P (10 * (c / 10) + 8) && lo (c / 10)) = true := fun h => by have := key 8 (by omega) (Bool.and_eq_true_iff.mp h).1; omega
    rw [if_neg n6, if_neg n7, if_neg n8, if_pos (by rw [← g, ec]; exact hc), g]
  · have n6 : ¬ P (10 * (c / 10) + 6) = true := fun h => by have := key 6 (by omega) h; omega
    have n7 : ¬ P (10 * (c / 10) + 7) = true := fun h => by have := key 7 (by omega) h; omega
    rw [if_neg n6, if_neg n7, if_pos (Bool.and_eq_true_iff.mpr ⟨by rw [← g.1, ec]; exact hc, g.2⟩), g.1]
theorem of_md {P lo : Nat → Bool} {i : Nat} (h : sMd P lo i ≠ 10) : P (10 * i + sMd P lo i) = true ∧ gC lo (10 * i + sMd P lo i) = true ∧ sMd P lo i < 10 ∧ 6 ≤ sMd P lo i := by
  have e := fun r (hr : r < 10) => code_mod (p := i) hr
  unfold sMd at h ⊢
  split
  · rename_i q; refine ⟨q, ?_, by decide, by decide⟩; unfold gC; rw [(e 6 (by decide)).1]; rfl
  rename_i q1
  rw [if_neg q1] at h
  split
  · rename_i q; refine ⟨q, ?_, by decide, by decide⟩; unfold gC; rw [(e 7 (by decide)).1]; rfl
  rename_i q2
  rw [if_neg q2] at h
  split
  · rename_i q
    have q := Bool.and_eq_true_iff.mp q
    refine ⟨q.1, ?_, by decide, by decide⟩; unfold gC; rw [(e 8 (by decide)).1, (e 8 (by decide)).2, q.2]; rfl
  rename_i q3
  rw [if_neg q3] at h
  split
  · rename_i q; refine ⟨q, ?_, by decide, by decide⟩; unfold gC; rw [(e 9 (by decide)).1]; rfl
  rename_i q4
  rw [if_neg q4] at h
  exact absurd rfl h
/-- the pointer: what lies before it lies behind, or stays -/
def rJ (t : List Nat) (P lo : Nat → Bool) (f p : Nat) : Prop := ∀ c, P c = true → cnt P c < f → pS (pLex t) (c / 10) < p ∨ gC lo c = false
theorem rJ.mono {t : List Nat} {P lo : Nat → Bool} {f p p' : Nat} (h : rJ t P lo f p) (hp : p ≤ p') : rJ t P lo f p' := fun c h1 h2 => by
  rcases h c h1 h2 with h | h
  · exact .inl (by omega)
  · exact .inr h
theorem r_ptr {M : xMem} {b p : Nat} {t : List Nat} {P : Nat → Bool} {l : List qE} {k6 : Int32 → Int32 → Int32 → xMem → Option (Int32 × xMem)} {v1 : Int32} (h : nMd M b t P l) (hp : p ≤ 160) : ∀ (m f fuel : Nat), f + m = cnt P (10 * nT t) → m < fuel → rJ t P (loB l) f p → ∃ f', f_N_mended_14 b k6 fuel v1 (nI p) (nI f) M = f_N_mended_46 b k6 v1 (nI p) (nI f') M ∧ f' ≤ cnt P (10 * nT t) ∧ rJ t P (loB l) f' p ∧ (f' < cnt P (10 * nT t) → ∃ c, P c = true ∧ cnt P c = f' ∧ p ≤ pS (pLex t) (c / 10) ∧ gC (loB l) c = true) := by
  have N := h.N
  have s160 : ∀ i, pS (pLex t) i ≤ 160 := fun i => pS_lt t i h.1.2.1
  intro m
  induction m with
  | zero =>
    intro f fuel e hf hJ
    obtain ⟨g, ef⟩ : ∃ g, fuel = g + 1 := ⟨fuel - 1, by omega⟩
    subst ef
    refine ⟨f, ?_, by omega, hJ, fun hh => by omega⟩
    rw [f_N_mended_14, h.2.1, if_pos (nI_le (by omega) (by omega))]
  | succ m ih =>
    intro f fuel e hf hJ
    obtain ⟨g, ef⟩ : ∃ g, fuel = g + 1 := ⟨fuel - 1, by omega⟩
    subst ef
    obtain ⟨c, c1, c2, c3⟩ := cnt_ex (P := P) (10 * nT t) f (by omega)
    have a := h.2.2.2.1 c c2
    rw [c3] at a
    have go := r_goes h c2
    rw [c3] at go
    have e1 : nI f + Int32.ofInt 1 = nI (f + 1) := nI_1 f
    have sc := s160 (c / 10)
    have nx : (pS (pLex t) (c / 10) < p ∨ gC (loB l) c = false) → ∃ f', f_N_mended_14 b k6 g v1 (nI p) (nI (f + 1)) M = f_N_mended_46 b k6 v1 (nI p) (nI f') M ∧ f' ≤ cnt P (10 * nT t) ∧ rJ t P (loB l) f' p ∧ (f' < cnt P (10 * nT t) → ∃ c, P c = true ∧ cnt P c = f' ∧ p ≤ pS (pLex t) (c / 10) ∧ gC (loB l) c = true) := by
      intro hh
      refine ih (f + 1) g (by omega) (by omega) ?_
      intro c' h1 h2
      by_cases q : cnt P c' < f
      · exact hJ c' h1 q
      · have : cnt P c' = f := by omega
        have ec : c' = c := by
          by_cases q1 : c' < c
          · have := cnt_lt h1 q1; omega
          · by_cases q2 : c < c'
            · have := cnt_lt c2 q2; omega
            · omega
        subst ec; exact hh
    rw [f_N_mended_14, h.2.1, if_neg (nI_ge (by omega) (by omega)), if_pos (xin_nI (by omega) (by decide)), nI_clamp (by omega), a.2]
    unfold f_N_mended_40
    rw [e1]
    by_cases q1 : pS (pLex t) (c / 10) < p
    · rw [if_pos (nI_lt q1 (by omega))]
      exact nx (.inl q1)
    · rw [if_neg (nI_nlt (by omega) (by omega)), go, xb_some]
      by_cases q2 : gC (loB l) c = true
      · rw [q2, if_neg (by decide)]
        exact ⟨f, rfl, by omega, hJ, fun _ => ⟨c, c2, c3, by omega, q2⟩⟩
      · have q2 : gC (loB l) c = false := by simpa using q2
        rw [q2, if_pos (show bI false = 0 from rfl)]
        exact nx (.inr q2)
/-- what is mended at place p -/
theorem r_pick {M : xMem} {b p f : Nat} {t : List Nat} {P : Nat → Bool} {l : List qE} {k6 : Int32 → Int32 → Int32 → xMem → Option (Int32 × xMem)} {v1 : Int32} (h : nMd M b t P l) (hp : p ≤ 160) (hf : f ≤ cnt P (10 * nT t)) (hJ : rJ t P (loB l) f p) : ∃ f' w, f_N_mended_14 b k6 xFuel v1 (nI p) (nI f) M = f_N_mended_74 b k6 v1 (nI p) (nI f') w M ∧ f' ≤ cnt P (10 * nT t) ∧ rJ t P (loB l) f' p ∧ ((∃ i, i < nT t ∧ pS (pLex t) i = p ∧ sMd P (loB l) i ≠ 10 ∧ w = nI (sMd P (loB l) i)) ∨ (w = -1 ∧ ∀ i, i < nT t → pS (pLex t) i = p → sMd P (loB l) i = 10)) := by
  have N := h.N
  have s160 : ∀ i, pS (pLex t) i ≤ 160 := fun i => pS_lt t i h.1.2.1
  obtain ⟨f', o1, o2, o3, o4⟩ := r_ptr (k6 := k6) (v1 := v1) h hp (cnt P (10 * nT t) - f) f xFuel (by omega) (by unfold xFuel; omega) hJ
  -- where something is mended, the pointer stands on it
  have key : ∀ i, i < nT t → pS (pLex t) i = p → sMd P (loB l) i ≠ 10 → f' < cnt P (10 * nT t) ∧ ∀ c, P c = true → cnt P c = f' → p ≤ pS (pLex t) (c / 10) → c / 10 = i := by
    intro i hi hpi hmd
    obtain ⟨m1, m2, m3, _⟩ := of_md hmd
    have lt := h.lt m1
    have e10 := code_mod (p := i) m3
    have nlt : ¬ cnt P (10 * i + sMd P (loB l) i) < f' := by
      intro q
      rcases o3 _ m1 q with q | q
      · rw [e10.2, hpi] at q; omega
      · rw [m2] at q; cases q
    refine ⟨by omega, ?_⟩
    intro c c1 c2 c3
    have ci : ¬ 10 * i + sMd P (loB l) i < c := fun q => by have := cnt_lt m1 q; omega
    have ck := (h.2.2.1 c c1).1
    have : ¬ c / 10 < i := fun q => by
      have := (pS_ltI (t := t) (i := c / 10) (j := i) (by omega) (by omega)).mpr q
      omega
    omega
  by_cases q : f' < cnt P (10 * nT t)
  · obtain ⟨c, c1, c2, c3, c4⟩ := o4 q
    have a := h.2.2.2.1 c c1
    rw [c2] at a
    have sc := s160 (c / 10)
    have ck := (h.2.2.1 c c1).1
    have mdc := md_of h.2.2.1 c1 c4
    by_cases q1 : pS (pLex t) (c / 10) = p
    · refine ⟨f', nI (c % 10), ?_, o2, o3, .inl ⟨c / 10, ck, q1, ?_, by rw [mdc]⟩⟩
      · rw [o1, f_N_mended_46, h.2.1, if_neg (nI_ge (by omega) (by omega)), if_pos (xin_nI (by omega) (by decide)), nI_clamp (by omega), a.2, if_pos (by rw [q1]), if_pos (xin_nI (by omega) (by decide)), a.1]
      · rw [mdc]; omega
    · refine ⟨f', -1, ?_, o2, o3, .inr ⟨rfl, ?_⟩⟩
      · rw [o1, f_N_mended_46, h.2.1, if_neg (nI_ge (by omega) (by omega)), if_pos (xin_nI (by omega) (by decide)), nI_clamp (by omega), a.2, if_neg (fun e => q1 ((nI_eq (by omega) (by omega)).mp e))]
        rfl
      · intro i hi hpi
        by_cases hm : sMd P (loB l) i = 10
        · exact hm
        · have := (key i hi hpi hm).2 c c1 c2 c3
          rw [this] at q1
          exact absurd hpi q1
  · refine ⟨f', -1, ?_, o2, o3, .inr ⟨rfl, ?_⟩⟩
    · rw [o1, f_N_mended_46, h.2.1, if_pos (nI_le (by omega) (by omega))]
      rfl
    · intro i hi hpi
      by_cases hm : sMd P (loB l) i = 10
      · exact hm
      · exact absurd (key i hi hpi hm).1 q
