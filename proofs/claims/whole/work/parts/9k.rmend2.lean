/-! PURE: the rounds of the reference -/
theorem lt_mem {u : List Nat} (h : ∀ i, pc u i < 256) : ∀ c, c ∈ u → c < 256 := by
  intro c hc
  obtain ⟨i, hi, e⟩ := List.getElem_of_mem hc
  have := h i
  unfold pc at this
  rw [List.getD_eq_getElem?_getD, List.getElem?_eq_getElem hi] at this
  rw [← e]; exact this
theorem mem_lt {u : List Nat} (h : ∀ c, c ∈ u → c < 256) : ∀ i, pc u i < 256 := by
  intro i
  by_cases q : i < u.length
  · unfold pc
    rw [List.getD_eq_getElem?_getD, List.getElem?_eq_getElem q]
    exact h _ (List.getElem_mem q)
  · rw [pc_end (by omega)]; decide
theorem sl_mem {t : List Nat} {a b c : Nat} (h : c ∈ sl t a b) : c ∈ t := List.mem_of_mem_drop (List.mem_of_mem_take h)
theorem mW_mem {t : List Nat} {md : Nat → Nat} {j : Nat} (h : ∀ c, c ∈ t → c < 256) : ∀ c, c ∈ mW t md j → c < 256 := by
  intro c hc
  unfold mW at hc
  split at hc
  · exact absurd hc (by simp)
  split at hc
  · simp at hc; omega
  split at hc
  · simp at hc; omega
  · exact h c (sl_mem hc)
theorem mG_mem {t : List Nat} {md : Nat → Nat} {j : Nat} (h : ∀ c, c ∈ t → c < 256) : ∀ c, c ∈ mG t md j → c < 256 := by
  intro c hc
  unfold mG at hc
  split at hc
  · exact absurd hc (by simp)
  · exact h c (sl_mem hc)
theorem mZ_mem {t : List Nat} {md : Nat → Nat} (h : ∀ c, c ∈ t → c < 256) : ∀ (k j c : Nat), c ∈ mZ t md k j → c < 256 := by
  intro k
  induction k with
  | zero => intro j c hc; exact h c (sl_mem hc)
  | succ k ih =>
    intro j c hc
    rcases List.mem_append.mp hc with hc | hc
    · exact mG_mem h c hc
    · rcases List.mem_append.mp hc with hc | hc
      · exact mW_mem h c hc
      · exact ih (j + 1) c hc
theorem mTx_256 {t : List Nat} {md : Nat → Nat} (h : ∀ i, pc t i < 256) : ∀ i, pc (mTx t md) i < 256 := mem_lt (mZ_mem (lt_mem h) (nT t) 0)
theorem r_mended_f {M : xMem} {b f : Nat} {t : List Nat} {P : Nat → Bool} {l : List qE} (hf : 200 < f) (hm : mOk t (sMd P (loB l))) (h : nMd M b t P l) : ∃ M', f_N_mended_6 b f 0 0 0 M = some (nI (mTx t (sMd P (loB l))).length, M') ∧ nNx M' b (mTx t (sMd P (loB l))) ∧ rF (fun a _ => a = b + 4) M M' := by
  have h160 := h.1.2.1
  have i0 : rInv t (sMd P (loB l)) 0 0 [] := by
    refine ⟨Nat.zero_le _, rfl, Nat.zero_le _, fun q => ?_, Nat.zero_le _, fun _ _ => Nat.zero_le _, ?_⟩
    · have := pS_lt_E q; omega
    · rw [show eT t 0 = 0 from rfl, sl_nil (Nat.le_refl _)]; rfl
  exact r_mended_6 hm t.length 0 0 0 f [] M (by omega) (by omega) i0 (Nat.zero_le _) (fun c _ h => absurd h (by omega)) (Nat.zero_le _) h (fun k hk => absurd hk (by simp))
theorem xFuel_200 : 200 < xFuel := by unfold xFuel; omega
theorem xFuel_400 : 400 < xFuel := by unfold xFuel; omega
theorem r_mended {M : xMem} {b : Nat} {t : List Nat} {P : Nat → Bool} {l : List qE} (hm : mOk t (sMd P (loB l))) (h : nMd M b t P l) : ∃ M', f_N_mended b M = some (nI (mTx t (sMd P (loB l))).length, M') ∧ nNx M' b (mTx t (sMd P (loB l))) ∧ rF (fun a _ => a = b + 4) M M' := by
  unfold f_N_mended
  exact r_mended_f xFuel_200 hm h
theorem nCx.nx {M M' : xMem} {b : Nat} {on : Nat → Bool} {gv : List (List Nat)} {t : List Nat} {L : qL} (h : nCx M b on gv t L) {S : Nat → Nat → Prop} (hS : ∀ a k, S a k → (a = b ∧ (k = 0 ∨ k = 1 ∨ k = 3 ∨ k = 5)) ∨ a = b + 1 ∨ a = b + 3 ∨ a = b + 4) (f : rF S M M') : nCx M' b on gv t L := by
  have nS : ∀ a k, ¬ ((a = b ∧ (k = 0 ∨ k = 1 ∨ k = 3 ∨ k = 5)) ∨ a = b + 1 ∨ a = b + 3 ∨ a = b + 4) → ¬ S a k := fun a k h q => h (hS a k q)
  obtain ⟨⟨h1, k0, k1, h22, k2, h26, k14, k15, k16, k6, k18, k19, k4, kx⟩, s1, s2, s3, s4, s5⟩ := h
  have f2 : ∀ a k, ¬ ((a = b ∧ (k = 0 ∨ k = 1 ∨ k = 3 ∨ k = 5)) ∨ a = b + 1 ∨ a = b + 3 ∨ a = b + 4) → M'.1 a k = M.1 a k := fun a k hh => f.2 a k (nS a k hh)
  refine ⟨⟨?_, k0.fr f ?_ ?_, k1.fr f ?_ ?_, ?_, k2.fr f ?_ ?_, ?_, k14.fr f ?_ ?_, k15.fr f ?_ ?_, k16.fr f ?_ ?_, k6.fr f ?_ ?_, k18.fr f ?_ ?_, k19.fr f ?_ ?_, k4.fr f ?_ ?_, ?_⟩, ?_, s2, ?_, ?_, s5⟩
  · obtain ⟨⟨x1, x2, x3, x4⟩, x5, x6, x7, x8⟩ := h1
    refine ⟨⟨by rw [f2 _ _ (by omega)]; exact x1, x2, fun i hi => by rw [f2 _ _ (by omega)]; exact x3 i hi, x4⟩, by rw [f2 _ _ (by omega)]; exact x5, ?_, by rw [f2 _ _ (by omega)]; exact x7, by rw [f2 _ _ (by omega)]; exact x8⟩
    intro i hi
    have := x6 i hi
    unfold rEn at this ⊢
    rw [f2 _ _ (by omega), f2 _ _ (by omega), f2 _ _ (by omega)]
    exact this
  all_goals first
    | (exact nS _ _ (by omega))
    | (intro a ha j; refine nS _ _ ?_; simp [c0, c1s, c2, c14, c15, c16, c6, c18, c19, c4] at ha; omega)
    | (rw [f2 _ _ (by omega)]; assumption)
    | skip
  · intro i hi
    have := h22 i hi
    exact ⟨by rw [f2 _ _ (by omega)]; exact this.1, by rw [f2 _ _ (by omega)]; exact this.2⟩
  · intro u hu
    rw [f2 _ _ (by omega)]; exact h26 u hu
  · intro i hi hne
    rw [f2 _ _ (by omega)]; exact kx i hi hne
  · intro i hi
    have := s3 i hi
    exact ⟨by rw [f2 _ _ (by omega)]; exact this.1, fun k hk => by rw [f2 _ _ (by omega)]; exact this.2 k hk⟩
  · intro r hr
    rw [f2 _ _ (by omega)]; exact s4 r hr
