/-! PURE: a round of mending in the class -/
section
variable {b r0 r1 : Nat} {on : Nat → Bool} {gv : List (List Nat)} {t : List Nat} {L : qL} {tok sc : Nat}
theorem p_wm (ht : t.length ≤ 160) (hq : qRun (kT t) (wT' t) (dT t) = .inr ([], tok, sc, L)) (h160 : (mTx t (mdF on gv t L)).length ≤ 160) : ∀ (m i fuel c : Nat) (o : List Nat) (M : xMem), i + m = nT t → m < fuel → dS M b r0 r1 on gv t L → pTx M r1 o → wInv t (mdF on gv t L) i c o → ∃ M', f_D_writeMended_16 b fuel r1 (nI c) (nI i) M = some ((), M') ∧ pTx M' r1 (mTx t (mdF on gv t L)) ∧ pFr r1 (r1 + 31) M M' := by
  have hm := (mdF_ok (on := on) (gv := gv) ht hq).1
  have h26 := (prog_end hq).1
  have hT := nT_le t
  intro m
  induction m with
  | zero =>
    intro i fuel c o M e hf hS hx hv
    obtain ⟨f, ef⟩ : ∃ f, fuel = f + 1 := ⟨fuel - 1, by omega⟩
    subst ef
    have ei : i = nT t := by omega
    subst ei
    have r05 : r1 = b + 5 ∨ r1 = b + 36 := by have := hS.1.2.2; omega
    obtain ⟨v1, v2, _⟩ := hv.fin hm h26
    have hl : o.length + (t.length - c) ≤ 160 := by
      have := congrArg List.length v2
      rw [List.length_append, sl_len (Nat.le_refl _)] at this
      omega
    obtain ⟨M1, o1, o2, o3⟩ := p_addPart hx hS.lx.1 (by have := hS.1.2.2; omega) v1 (Nat.le_refl _) hl
    refine ⟨M1, ?_, by rw [← v2]; exact o2, o3.mono (by omega) (by omega)⟩
    have n6 : M.1 (r0 + 2) 6 = nI (nT t) := hS.lx.2.1
    have n1 : M.1 r0 1 = nI t.length := hS.lx.1.1
    rw [f_D_writeMended_16, if_pos r05, hS.srcU, n6, if_pos (show nI (nT t) ≤ nI (nT t) from nI_le (Nat.le_refl _) (by omega)), hS.srcU, hS.srcU, n1]
    show xbind (f_L_addPart r1 r0 (nI c) (nI t.length) M) _ = _
    rw [o1, xb_some]
  | succ m ih =>
    intro i fuel c o M e hf hS hx hv
    obtain ⟨f, ef⟩ : ∃ f, fuel = f + 1 := ⟨fuel - 1, by omega⟩
    subst ef
    have r05 : r1 = b + 5 ∨ r1 = b + 36 := by have := hS.1.2.2; omega
    have n6 : M.1 (r0 + 2) 6 = nI (nT t) := hS.lx.2.1
    have e1 : nI i + Int32.ofInt 1 = nI (i + 1) := nI_1 i
    rw [f_D_writeMended_16, if_pos r05, hS.srcU, n6, if_neg (show ¬ nI (nT t) ≤ nI i from nI_ge (by omega) (by omega)), hS.srcU, p_md ht hq hS (by omega), xb_some]
    rcases mdF_5 on gv t L i with hd | hd
    · have r10 : mdF on gv t L i < 10 := by omega
      rw [sMdI_n (by omega), if_neg (nI_pos (by omega)), hS.srcU, p_mendedFrom hS r10 (by omega), xb_some]
      obtain ⟨v1, v2, v3, v4, v5⟩ := hv.act hm (by omega) hd
      have lU := mU_le (t := t) (md := mdF on gv t L) (j := i + 1) (by omega)
      have l4 := congrArg List.length v4
      rw [List.length_append, List.length_append, sl_len v2] at l4
      obtain ⟨M1, o1, o2, o3⟩ := p_addPart hx hS.lx.1 (by have := hS.1.2.2; omega) v1 v2 (by omega)
      have o1 : f_L_addPart r1 r0 (nI c) (nI (if mdF on gv t L i = 6 then pE (pLex t) i else pS (pLex t) i)) M = some ((), M1) := o1
      rw [o1, xb_some, p_mendedText r10, xb_some]
      have k28 : mTk (mdF on gv t L i) < 28 := by unfold mTk; split <;> (try split) <;> omega
      rw [if_pos k28]
      obtain ⟨M2, q1, q2, q3⟩ := p_addText k28 o2 (by rw [List.length_append, sl_len v2]; omega)
      rw [q1, xb_some]
      have f12 : pFr r1 (r1 + 31) M M2 := (o3.trans q3).mono (by omega) (by omega)
      have hS2 := hS.fr f12
      rw [p_mendedTo hS2 r10 (by omega), xb_some]
      rw [v4] at q2
      obtain ⟨M3, w1, w2, w3⟩ := ih (i + 1) f (mTo t (mdF on gv t L) i) (mU t (mdF on gv t L) (i + 1)) M2 (by omega) (by omega) hS2 q2 v5
      refine ⟨M3, ?_, w2, f12.trans w3⟩
      unfold f_D_writeMended_85
      rw [if_pos r05, e1]
      exact w1
    · rw [hd, sMdI_10, if_pos (by decide)]
      obtain ⟨M3, w1, w2, w3⟩ := ih (i + 1) f c o M (by omega) (by omega) hS hx (hv.skip hm (by omega) hd)
      refine ⟨M3, ?_, w2, w3⟩
      unfold f_D_writeMended_85
      rw [if_pos r05, e1]
      exact w1
theorem p_writeMended {M : xMem} (ht : t.length ≤ 160) (hq : qRun (kT t) (wT' t) (dT t) = .inr ([], tok, sc, L)) (h160 : (mTx t (mdF on gv t L)).length ≤ 160) (hS : dS M b r0 r1 on gv t L) : ∃ M', f_D_writeMended b M = some ((), M') ∧ pTx M' r1 (mTx t (mdF on gv t L)) ∧ pFr r1 (r1 + 31) M M' := by
  have r05 : r1 = b + 5 ∨ r1 = b + 36 := by have := hS.1.2.2; omega
  have f0 : pFr r1 (r1 + 31) M (wI M r1 1 0) := pFr.I (by omega)
  have hT := nT_le t
  have w0 : wInv t (mdF on gv t L) 0 0 [] := by
    left
    refine ⟨rfl, Nat.zero_le _, ?_⟩
    rw [show eT t 0 = 0 from rfl, sl_nil (Nat.le_refl _)]; rfl
  obtain ⟨M', o1, o2, o3⟩ := p_wm ht hq h160 (nT t) 0 xFuel 0 [] (wI M r1 1 0) (by omega) (by unfold xFuel; omega) (hS.fr f0) (pTx_nil (mI_s rfl rfl)) w0
  refine ⟨M', ?_, o2, f0.trans o3⟩
  unfold f_D_writeMended xsrc
  rw [hS.1.2.1, if_pos r05]
  unfold f_L_clear xlet
  show xbind (some ((), wI M r1 1 0)) _ = _
  rw [xb_some]
  exact o1
/-- its size, as the class reckons it -/
def mSz (t : List Nat) (md : Nat → Nat) (i : Nat) : Nat := (mU t md i).length + t.length - (if mSec md i then eT t (i + 1) else eT t i)
theorem nI_size {a x y z a' : Nat} (h : a' + y = a + x + z) : nI a + ((nI x - nI y) + nI z) = nI a' := by
  have e : nI a' + nI y = nI a + nI x + nI z := by rw [nI_add, nI_add, nI_add, h]
  generalize nI a' = u at *
  generalize nI a = p at *
  generalize nI x = q at *
  generalize nI y = r at *
  generalize nI z = s at *
  grind
theorem mSz_skip {md : Nat → Nat} (hm : mOk t md) {i : Nat} (hi : i < nT t) (h10 : md i = 10) : mSz t md (i + 1) = mSz t md i := by
  have lt := pS_lt_E hi
  have le := (pS_le t i).2
  have ge := eT_le (t := t) (j := i) (by omega)
  unfold mSz
  rw [mSec_s, h10, if_neg (by decide), eT_s]
  show (mU t md i ++ (mG t md i ++ mW t md i)).length + _ - _ = _
  rw [List.length_append, List.length_append]
  cases h1 : mSec md i with
  | true =>
    have x1 : mX t md i = true := (mX_iff hm).mpr (.inr (.inr h1))
    have g : mG t md i = [] := by unfold mG; rw [h1, if_pos rfl]
    have w : mW t md i = [] := by unfold mW; rw [x1, if_pos rfl]
    rw [g, w, if_pos rfl]; rfl
  | false =>
    have x0 : mX t md i = false := by
      cases q : mX t md i with
      | false => rfl
      | true =>
        rw [mX_iff hm] at q
        rcases q with q | q | q
        · omega
        · omega
        · rw [h1] at q; cases q
    have g : mG t md i = sl t (eT t i) (pS (pLex t) i) := by unfold mG; rw [h1, if_neg (by decide)]
    have w : mW t md i = sl t (pS (pLex t) i) (pE (pLex t) i) := by unfold mW; rw [x0, if_neg (by decide), if_neg (by omega), if_neg (by omega)]
    rw [g, w, sl_len (by omega), sl_len (by omega), if_neg (by decide)]
    omega
theorem mSz_act {md : Nat → Nat} (hm : mOk t md) {i : Nat} (hi : i < nT t) (hd : md i = 6 ∨ md i = 7 ∨ md i = 8 ∨ md i = 9) : mSz t md (i + 1) + mTo t md i = mSz t md i + (pT (mTk (md i))).length + mFr t md i := by
  have lt := pS_lt_E hi
  have le := (pS_le t i).2
  have ge := eT_le (t := t) (j := i) (by omega)
  have le1 := (pS_le t (i + 1)).2
  have hm' := hm i
  have s0 : mSec md i = false := by
    cases q : mSec md i with
    | false => rfl
    | true =>
      rw [mSec_iff] at q
      have k := ((hm (i - 1)).2.2.1 q.2).2
      rw [show i - 1 + 1 = i by omega] at k
      omega
  have x0 : mX t md i = true ↔ (md i = 8 ∨ md i = 9) := by rw [mX_iff hm, s0]; simp
  have g : mG t md i = sl t (eT t i) (pS (pLex t) i) := by unfold mG; rw [s0, if_neg (by decide)]
  have u1 : (mU t md (i + 1)).length = (mU t md i).length + ((pS (pLex t) i - eT t i) + (mW t md i).length) := by
    show (mU t md i ++ (mG t md i ++ mW t md i)).length = _
    rw [List.length_append, List.length_append, g, sl_len (by omega)]
  unfold mSz
  have eS := eT_s t i
  have eS2 := eT_s t (i + 1)
  rw [u1, mSec_s, s0, if_neg (show ¬ (false = true) by decide)]
  unfold mTo mFr mTk mW
  rcases hd with d | d | d | d
  · have xf : mX t md i = false := by
      cases q : mX t md i with
      | false => rfl
      | true => have := x0.mp q; omega
    obtain ⟨w1, w2, w3⟩ := eq_word hi (hm'.1 d)
    rw [xf, if_neg (show ¬ (false = true) by decide), if_pos d, if_neg (show ¬ ((md i == 8) = true) by simp; omega), if_neg (show ¬ md i = 8 by omega), if_pos d, if_pos d]
    show _ + (_ + 3) + _ - _ + _ = _ + 1 + _
    omega
  · have xf : mX t md i = false := by
      cases q : mX t md i with
      | false => rfl
      | true => have := x0.mp q; omega
    rw [xf, if_neg (show ¬ (false = true) by decide), if_neg (show ¬ md i = 6 by omega), if_pos d, if_neg (show ¬ ((md i == 8) = true) by simp; omega), if_neg (show ¬ md i = 8 by omega), if_neg (show ¬ md i = 6 by omega), if_pos d, if_neg (show ¬ md i = 6 by omega)]
    show _ + (_ + 5) + _ - _ + _ = _ + 5 + _
    omega
  · have k19 := (hm'.2.2.1 d).2
    have i1 := kT_real (t := t) (i := i + 1) (by omega)
    have lt1 := pS_lt_E i1
    rw [x0.mpr (.inl d), if_pos rfl, if_pos (show (md i == 8) = true by simp [d]), if_pos d, if_neg (show ¬ md i = 6 by omega), if_neg (show ¬ md i = 7 by omega), if_neg (show ¬ md i = 6 by omega)]
    show _ + (_ + 0) + _ - _ + _ = _ + 0 + _
    omega
  · rw [x0.mpr (.inr d), if_pos rfl, if_neg (show ¬ ((md i == 8) = true) by simp; omega), if_neg (show ¬ md i = 8 by omega), if_neg (show ¬ md i = 6 by omega), if_neg (show ¬ md i = 7 by omega), if_neg (show ¬ md i = 6 by omega)]
    show _ + (_ + 0) + _ - _ + _ = _ + 0 + _
    omega
end
