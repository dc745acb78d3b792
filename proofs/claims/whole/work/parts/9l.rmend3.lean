/-! PURE: mend() of the reference: all rounds -/
theorem rF.to {S S' : Nat → Nat → Prop} {M M' : xMem} (h : rF S M M') (hs : ∀ a k, S a k → S' a k) : rF S' M M' := h.mono hs
theorem r_step {b : Nat} {on : Nat → Bool} {gv : List (List Nat)} {t : List Nat} {M : xMem} {g f35 x v : Nat} (hp : prog t) (h : nCx M b on gv t (Lof t)) (h5 : M.1 b 5 = nI v) (hv : v < 4) (hf : 400 < f35) : (mStep on gv t = none ∧ ∃ M1 M', f_N_looks b M = some ((), M1) ∧ f_N_mend_35 b (f_N_mend_14 b g) f35 (nI x) 1 0 0 M1 = some (nI x, M') ∧ nCx M' b on gv t (Lof t) ∧ M'.1 b 5 = nI v ∧ rF (rMdS b) M M') ∨ (∃ n u M1 M', mStep on gv t = some (n, u) ∧ prog u ∧ f_N_looks b M = some ((), M1) ∧ f_N_mend_35 b (f_N_mend_14 b g) f35 (nI x) 1 0 0 M1 = f_N_mend_14 b g (nI (x + n)) 1 M' ∧ nCx M' b on gv u (Lof u) ∧ M'.1 b 5 = nI (v + 1) ∧ rF (rMdS b) M M') := by
  obtain ⟨tok, sc, hq⟩ := hp.run
  have ht := hp.1
  obtain ⟨M1, l1, l2, l3⟩ := r_looks ht hq h
  have hM := l2.md ht hq
  have hm : mOk t (sMd (sP on gv t (qEnd t (Lof t)) ((Lof t) 4)) (loB ((Lof t) 18))) := (mdF_ok (on := on) (gv := gv) ht hq).1
  have N := hM.N
  have hT := nT_le t
  obtain ⟨g', e35⟩ := r_many (k14 := f_N_mend_14 b g) (v1 := nI x) (v2 := 1) hM (cnt (sP on gv t (qEnd t (Lof t)) ((Lof t) 4)) (10 * nT t)) 0 f35 0 (by omega) (by omega) rfl (Nat.zero_le _)
  have e35 : f_N_mend_35 b (f_N_mend_14 b g) f35 (nI x) 1 0 0 M1 = _ := e35
  obtain ⟨M2, d1, d2, d3⟩ := r_mended hm hM
  rw [f_N_mend_35, hM.2.1, if_pos (nI_le (Nat.le_refl _) (by omega)), d1, xb_some] at e35
  have lt3 := mTx_crude (md := sMd (sP on gv t (qEnd t (Lof t)) ((Lof t) 4)) (loB ((Lof t) 18))) ht
  have cle : mCt (sMd (sP on gv t (qEnd t (Lof t)) ((Lof t) 4)) (loB ((Lof t) 18))) (nT t) ≤ nT t := cnt_le (P := fun p => sMd (sP on gv t (qEnd t (Lof t)) ((Lof t) 4)) (loB ((Lof t) 18)) p != 10) (nT t)
  have f12 : rF (rMdS b) M M2 := (l3.to (by intro a k; unfold rFdS rMdS; omega)).trans (d3.to (by intro a k; unfold rMdS; omega))
  have h2 : nCx M2 b on gv t (Lof t) := l2.1.nx (by intro a k; omega) d3
  have h52 : M2.1 b 5 = nI v := by
    rw [d3.2 _ _ (by omega), l3.2 _ _ (by unfold rFdS; omega)]; exact h5
  have stay : (mCt (sMd (sP on gv t (qEnd t (Lof t)) ((Lof t) 4)) (loB ((Lof t) 18))) (nT t) = 0 ∨ 160 < (mTx t (sMd (sP on gv t (qEnd t (Lof t)) ((Lof t) 4)) (loB ((Lof t) 18)))).length) → mStep on gv t = none := fun c => by unfold mStep; exact if_pos c
  unfold f_N_mend_84 f_N_mend_85 at e35
  by_cases c0 : mCt (sMd (sP on gv t (qEnd t (Lof t)) ((Lof t) 4)) (loB ((Lof t) 18))) (nT t) = 0
  · left
    refine ⟨stay (.inl c0), M1, M2, l1, ?_, h2, h52, f12⟩
    rw [e35, c0, if_pos (show nI 0 ≤ 0 by decide), if_pos rfl]
  have n0 : ¬ nI (mCt (sMd (sP on gv t (qEnd t (Lof t)) ((Lof t) 4)) (loB ((Lof t) 18))) (nT t)) ≤ 0 := nI_ge (a := 0) (by omega) (by omega)
  by_cases c1 : 160 < (mTx t (sMd (sP on gv t (qEnd t (Lof t)) ((Lof t) 4)) (loB ((Lof t) 18)))).length
  · left
    refine ⟨stay (.inr c1), M1, M2, l1, ?_, h2, h52, f12⟩
    rw [e35, if_neg n0, if_pos (show (160 : Int32) < nI (mTx t (sMd (sP on gv t (qEnd t (Lof t)) ((Lof t) 4)) (loB ((Lof t) 18)))).length from nI_lt (a := 160) c1 (by omega)), if_pos rfl]
  · right
    have est : mStep on gv t = some (mCt (sMd (sP on gv t (qEnd t (Lof t)) ((Lof t) 4)) (loB ((Lof t) 18))) (nT t), mTx t (sMd (sP on gv t (qEnd t (Lof t)) ((Lof t) 4)) (loB ((Lof t) 18)))) := by
      unfold mStep
      exact if_neg (by intro h; rcases h with h | h; exact c0 h; exact c1 h)
    have u256 := mTx_256 (md := sMd (sP on gv t (qEnd t (Lof t)) ((Lof t) 4)) (loB ((Lof t) 18))) hp.2.1
    have hpu := mStep_prog hp u256 est
    generalize mTx t (sMd (sP on gv t (qEnd t (Lof t)) ((Lof t) 4)) (loB ((Lof t) 18))) = u at *
    generalize mCt (sMd (sP on gv t (qEnd t (Lof t)) ((Lof t) 4)) (loB ((Lof t) 18))) (nT t) = n at *
    obtain ⟨M3, b1, b2, b3⟩ := r_becomes (p1 := b + 4) (p1n := 400) (by omega) (by omega) (Nat.le_refl _) ⟨by show b + 4 ≠ b; omega, by show b + 4 ≠ b + 2; omega⟩ u256 d2
    obtain ⟨tok', sc', hq'⟩ := hpu.run
    rcases r_scan b2 with ⟨e, M4, s1, _⟩ | ⟨tok2, sc2, L2, M4, s1, s2, s3, s4, s5⟩
    · rw [hq'] at s1; cases s1
    have eL := Lof_eq s1
    subst eL
    have f24 : rF (rMdS b) M2 M4 := (b3.to (by intro a k; unfold rMdS; omega)).trans (s5.to (by intro a k; unfold rScS rMdS; omega))
    have h54 : M4.1 b 5 = nI v := by
      rw [s5.2 _ _ (by unfold rScS; omega), b3.2 _ _ (by omega)]; exact h52
    have e5 : nI v + 1 = nI (v + 1) := nI_1 v
    have fI : rF (rMdS b) M4 (wI M4 b 5 (nI (v + 1))) := rF.I (by unfold rMdS; omega)
    have st4 : nSt M4 b on gv := h2.2.to f24
    have c4 : nCx M4 b on gv u (Lof u) := ⟨s4, st4⟩
    refine ⟨n, u, M1, wI M4 b 5 (nI (v + 1)), est, hpu, l1, ?_, c4.nx (S := fun a k => a = b ∧ k = 5) (by intro a k; omega) (rF.I ⟨rfl, rfl⟩), mI_s rfl rfl, (f12.trans f24).trans fI⟩
    rw [e35, if_neg n0, if_neg (show ¬ (160 : Int32) < nI u.length from nI_nlt (a := 160) (b := u.length) (by omega) (by omega)), if_neg (by decide), b1, s2, xb_some, xb_some]
    unfold xval xlet
    dsimp only
    rw [h54, e5, nI_add]
theorem r_mend_14 {b : Nat} {on : Nat → Bool} {gv : List (List Nat)} : ∀ (k v f x : Nat) (t : List Nat) (M : xMem), v + k = 4 → prog t → nCx M b on gv t (Lof t) → M.1 b 5 = nI v → k < f → ∃ M', f_N_mend_14 b f (nI x) 1 M = some (nI (x + (mAll on gv k t).1), M') ∧ nCx M' b on gv (mAll on gv k t).2.2 (Lof (mAll on gv k t).2.2) ∧ M'.1 b 5 = nI (v + (mAll on gv k t).2.1) ∧ rF (rMdS b) M M' := by
  intro k
  induction k with
  | zero =>
    intro v f x t M hv hp h h5 hf
    obtain ⟨f, ef⟩ : ∃ g, f = g + 1 := ⟨f - 1, by omega⟩
    subst ef
    have : v = 4 := by omega
    subst this
    refine ⟨M, ?_, h, h5, .rfl⟩
    rw [f_N_mend_14, if_neg (by decide), h5, if_pos (show (4 : Int32) ≤ nI 4 by decide)]
    rfl
  | succ k ih =>
    intro v f x t M hv hp h h5 hf
    obtain ⟨f, ef⟩ : ∃ g, f = g + 1 := ⟨f - 1, by omega⟩
    subst ef
    rw [f_N_mend_14, if_neg (by decide), h5, if_neg (show ¬ (4 : Int32) ≤ nI v from nI_ge (a := v) (b := 4) (by omega) (by omega))]
    rcases r_step (g := f) (x := x) hp h h5 (by omega) xFuel_400 with ⟨e0, M1, M', o1, o2, o3, o4, o5⟩ | ⟨n, u, M1, M', e0, o0, o1, o2, o3, o4, o5⟩
    · rw [o1, xb_some, o2]
      unfold mAll
      rw [e0]
      exact ⟨M', rfl, o3, o4, o5⟩
    · rw [o1, xb_some, o2]
      obtain ⟨M2, w1, w2, w3, w4⟩ := ih (v + 1) f (x + n) u M' (by omega) o0 o3 o4 (by omega)
      unfold mAll
      rw [e0]
      dsimp only
      refine ⟨M2, ?_, w2, ?_, o5.trans w4⟩
      · rw [w1, Nat.add_assoc]
      · rw [w3]; congr 1; omega
theorem r_mend0 {M : xMem} {b f : Nat} {on : Nat → Bool} {gv : List (List Nat)} {t : List Nat} (hf : 4 < f) (hp : prog t) (h : nCx M b on gv t (Lof t)) : ∃ M', f_N_mend_14 b f 0 1 (wI (wI M b 0 0) b 5 0) = some (nI (mAll on gv 4 t).1, M') ∧ nCx M' b on gv (mAll on gv 4 t).2.2 (Lof (mAll on gv 4 t).2.2) ∧ M'.1 b 5 = nI (mAll on gv 4 t).2.1 ∧ M'.1 b 0 = 0 ∧ rF (fun a k => rMdS b a k ∨ (a = b ∧ k = 0)) M M' := by
  have f0 : rF (fun a k => a = b ∧ (k = 0 ∨ k = 5)) M (wI (wI M b 0 0) b 5 0) := (rF.I ⟨rfl, .inl rfl⟩).trans (rF.I ⟨rfl, .inr rfl⟩)
  have h0 : nCx (wI (wI M b 0 0) b 5 0) b on gv t (Lof t) := h.nx (by intro a k; omega) f0
  obtain ⟨M2, w1, w2, w3, w4⟩ := r_mend_14 (b := b) 4 0 f 0 t (wI (wI M b 0 0) b 5 0) (by omega) hp h0 (mI_s rfl rfl) hf
  rw [Nat.zero_add] at w1 w3
  refine ⟨M2, w1, w2, w3, ?_, (f0.to (by intro a k; unfold rMdS; omega)).trans (w4.to (by intro a k h; exact .inl h))⟩
  rw [w4.2 _ _ (by unfold rMdS; omega), mI_k (by decide), mI_s rfl rfl]
theorem r_mend {M : xMem} {b : Nat} {on : Nat → Bool} {gv : List (List Nat)} {t : List Nat} (hp : prog t) (h : nCx M b on gv t (Lof t)) : ∃ M', f_N_mend b M = some (nI (mAll on gv 4 t).1, M') ∧ nCx M' b on gv (mAll on gv 4 t).2.2 (Lof (mAll on gv 4 t).2.2) ∧ M'.1 b 5 = nI (mAll on gv 4 t).2.1 ∧ M'.1 b 0 = 0 ∧ rF (fun a k => rMdS b a k ∨ (a = b ∧ k = 0)) M M' := by
  have e : f_N_mend b M = f_N_mend_14 b xFuel 0 1 (wI (wI M b 0 0) b 5 0) := by unfold f_N_mend xlet; rfl
  rw [e]
  exact r_mend0 xFuel_4 hp h
