/-! PURE: mended() of the reference -/
theorem stop_word {t : List Nat} {j : Nat} (hj : j < nT t) (hk : kT t j = 20) : pE (pLex t) j = pS (pLex t) j + 1 := by
  obtain ⟨e1, e2⟩ := pLex_tok hj
  rw [hk] at e1
  unfold pTok at e1 e2
  split at e1
  · cases e1
  rename_i c1
  rw [if_neg c1] at e2
  split at e1
  · have := pKwOf_lt (pOct t (pS (pLex t) j) (pScan pWordC t (pS (pLex t) j)))
    have e1 : 20 = pKwOf (pOct t (pS (pLex t) j) (pScan pWordC t (pS (pLex t) j))) := e1
    omega
  rename_i c2
  rw [if_neg c2] at e2
  split at e1
  · cases e1
  rename_i c3
  rw [if_neg c3] at e2
  split at e1
  · exfalso
    have e1 : 20 = if pS (pLex t) j < pTextEnd t (pS (pLex t) j) then 25 else 27 := e1
    split at e1 <;> cases e1
  rename_i c4
  rw [if_neg c4] at e2
  have e1 : 20 = pSign t (pS (pLex t) j) := e1
  have e2 : pE (pLex t) j = pS (pLex t) j + (pT (pSign t (pS (pLex t) j))).length := e2
  rw [← e1] at e2
  exact e2
def rInv (t : List Nat) (md : Nat → Nat) (i p : Nat) (o : List Nat) : Prop := i ≤ nT t ∧ mSec md i = false ∧ eT t i ≤ p ∧ (i < nT t → p < pE (pLex t) i) ∧ p ≤ t.length ∧ (i < nT t → md i ≠ 10 → p ≤ pS (pLex t) i) ∧ o = mU t md i ++ sl t (eT t i) p
theorem rInv.next {t : List Nat} {md : Nat → Nat} (hm : mOk t md) {i p : Nat} {o : List Nat} (h : rInv t md i p o) (hp : p < t.length) (hn : ∀ i, i < nT t → pS (pLex t) i = p → md i = 10) : ∃ i', rInv t md i' (p + 1) (o ++ [pc t p]) := by
  obtain ⟨h1, h2, h3, h4, h5, h6, h7⟩ := h
  have eo : o ++ [pc t p] = mU t md i ++ sl t (eT t i) (p + 1) := by
    rw [h7, List.append_assoc, ← sl_cat (p := eT t i) (q := p) (r := p + 1) h3 (by omega) (by omega), sl_step (p := p) (q := p + 1) (by omega) (by omega), sl_nil (Nat.le_refl _)]
  by_cases c : i < nT t ∧ p + 1 = pE (pLex t) i
  · have lt := pS_lt_E c.1
    have md10 : md i = 10 := by
      by_cases q : md i = 10
      · exact q
      · have := h6 c.1 q
        by_cases e : pS (pLex t) i = p
        · exact hn i c.1 e
        · omega
    have w0 : wInv t md i (eT t i) (mU t md i) := .inl ⟨h2, Nat.le_refl _, by rw [sl_nil (Nat.le_refl _), List.append_nil]⟩
    have s1 : mSec md (i + 1) = false := by rw [mSec_s, md10]; rfl
    have u1 : mU t md i ++ sl t (eT t i) (eT t (i + 1)) = mU t md (i + 1) := by
      rcases w0.skip hm c.1 md10 with w | w
      · exact w.2.2
      · rw [s1] at w; exact absurd w.1 (by decide)
    have eS := eT_s t i
    refine ⟨i + 1, by omega, s1, by omega, ?_, by omega, ?_, ?_⟩
    · intro q
      have := pS_lt_E q
      omega
    · intro q _
      have := pS_lt_E q
      omega
    · rw [eo, ← u1, eS, ← c.2, sl_nil (Nat.le_refl _), List.append_nil]
  · refine ⟨i, h1, h2, by omega, ?_, by omega, ?_, eo⟩
    · intro q
      have := h4 q
      omega
    · intro q q2
      have := h6 q q2
      by_cases e : pS (pLex t) i = p
      · exact absurd (hn i q e) q2
      · omega
theorem rInv.act {t : List Nat} {md : Nat → Nat} (hm : mOk t md) {i j p : Nat} {o : List Nat} (h : rInv t md i p o) (hi : j < nT t) (hp : pS (pLex t) j = p) (hd : md j = 6 ∨ md j = 7 ∨ md j = 8 ∨ md j = 9) : o ++ mW t md j = mU t md (j + 1) ∧ (md j ≠ 8 → rInv t md (j + 1) (pE (pLex t) j) (mU t md (j + 1))) ∧ (md j = 8 → rInv t md (j + 2) (pE (pLex t) (j + 1)) (mU t md (j + 1))) := by
  obtain ⟨h1, h2, h3, h4, h5, h6, h7⟩ := h
  have lt := pS_lt_E hi
  have le := (pS_le t j).2
  -- the TOKEN is the one that we are before
  have eij : i = j := by
    by_cases q : i = nT t
    · subst q
      have := eT_le (t := t) (j := nT t) (Nat.le_refl _)
      obtain ⟨k, ek⟩ : ∃ k, nT t = k + 1 := ⟨nT t - 1, by omega⟩
      have e1 := eT_s t k
      rw [← ek] at e1
      by_cases q1 : j = k
      · subst q1; omega
      · have := pS_mono (t := t) (i := j) (j := k) (by omega) (by omega)
        have := pS_lt_E (t := t) (i := k) (by omega)
        omega
    · have a := h4 (by omega)
      by_cases q1 : i < j
      · have := pS_mono (t := t) (i := i) (j := j) q1 (by omega)
        omega
      · by_cases q2 : j < i
        · obtain ⟨k, ek⟩ : ∃ k, i = k + 1 := ⟨i - 1, by omega⟩
          have e1 := eT_s t k
          rw [← ek] at e1
          by_cases q3 : j = k
          · subst q3; omega
          · have := pS_mono (t := t) (i := j) (j := k) (by omega) (by omega)
            have := pS_lt_E (t := t) (i := k) (by omega)
            omega
        · omega
  subst eij
  have g : mG t md i = sl t (eT t i) (pS (pLex t) i) := by unfold mG; rw [h2, if_neg (by decide)]
  refine ⟨?_, ?_, ?_⟩
  · show _ = mU t md i ++ (mG t md i ++ mW t md i)
    rw [h7, g, hp, List.append_assoc]
  · intro n8
    have eS := eT_s t i
    refine ⟨by omega, by rw [mSec_s]; simp [n8], by omega, ?_, le, ?_, ?_⟩
    · intro q
      have := pS_lt_E q
      omega
    · intro q _
      have := pS_lt_E q
      omega
    · rw [eS, sl_nil (Nat.le_refl _), List.append_nil]
  · intro d8
    have k19 := ((hm i).2.2.1 d8).2
    have i1 := kT_real (t := t) (i := i + 1) (by omega)
    have hm1 := hm (i + 1)
    have eS := eT_s t (i + 1)
    have s1 : mSec md (i + 1) = true := by rw [mSec_s, d8]; rfl
    have x1 : mX t md (i + 1) = true := (mX_iff hm).mpr (.inr (.inr s1))
    refine ⟨by omega, ?_, by rw [show i + 2 = i + 1 + 1 by omega]; omega, ?_, (pS_le t (i + 1)).2, ?_, ?_⟩
    · rw [show i + 2 = i + 1 + 1 by omega, mSec_s]
      have : md (i + 1) ≠ 8 := fun q => by have := hm1.2.2.1 q; omega
      simp [this]
    · intro q
      have := pS_lt_E (t := t) (i := i + 2) q
      have := pS_lt_E i1
      have : pE (pLex t) (i + 1) ≤ pS (pLex t) (i + 2) := this.2
      omega
    · intro q _
      have := pS_lt_E i1
      exact this.2
    · rw [show i + 2 = i + 1 + 1 by omega, eS, sl_nil (Nat.le_refl _), List.append_nil]
      show _ = mU t md (i + 1) ++ (mG t md (i + 1) ++ mW t md (i + 1))
      have g1 : mG t md (i + 1) = [] := by unfold mG; rw [s1, if_pos rfl]
      have w1 : mW t md (i + 1) = [] := by unfold mW; rw [x1, if_pos rfl]
      rw [g1, w1]; simp
theorem rInv.fin {t : List Nat} {md : Nat → Nat} {i : Nat} {o : List Nat} (h : rInv t md i t.length o) : o = mTx t md := by
  obtain ⟨h1, h2, h3, h4, h5, h6, h7⟩ := h
  have ei : i = nT t := by
    by_cases q : i < nT t
    · have := h4 q
      have := (pS_le t i).2
      omega
    · omega
  subst ei
  rw [h7, ← mU_Z (nT t) 0 (by omega)]; rfl
/-- next[] holds o -/
def nNx (M : xMem) (b : Nat) (o : List Nat) : Prop := ∀ k, k < o.length → M.1 (b + 4) k = nI (pc o k)
theorem nNx.put {M : xMem} {b c : Nat} {o : List Nat} (h : nNx M b o) : nNx (wI M (b + 4) o.length (nI c)) b (o ++ [c]) := by
  intro k hk
  rw [List.length_append] at hk
  have hk : k < o.length + 1 := hk
  by_cases q : k = o.length
  · subst q
    rw [mI_s rfl rfl, pc_r (i := o.length) (j := 0) rfl]; rfl
  · rw [mI_k q, pc_l (by omega)]
    exact h k (by omega)
theorem nNx.put' {M : xMem} {b c n : Nat} {o : List Nat} (h : nNx M b o) (hn : n = o.length) : nNx (wI M (b + 4) n (nI c)) b (o ++ [c]) := by subst hn; exact h.put
theorem nx_fr {M : xMem} {b k : Nat} {v : Int32} : rF (fun a _ => a = b + 4) M (wI M (b + 4) k v) := rF.I rfl
theorem app1 (o : List Nat) (c : Nat) : (o ++ [c]).length = o.length + 1 := by simp
theorem r_mended_6 {b : Nat} {t : List Nat} {P : Nat → Bool} {l : List qE} (hm : mOk t (sMd P (loB l))) : ∀ (m p f i fuel : Nat) (o : List Nat) (M : xMem), t.length - p ≤ m → m < fuel → rInv t (sMd P (loB l)) i p o → o.length ≤ 2 * p → rJ t P (loB l) f p → f ≤ cnt P (10 * nT t) → nMd M b t P l → nNx M b o → ∃ M', f_N_mended_6 b fuel (nI o.length) (nI p) (nI f) M = some (nI (mTx t (sMd P (loB l))).length, M') ∧ nNx M' b (mTx t (sMd P (loB l))) ∧ rF (fun a _ => a = b + 4) M M' := by
  intro m
  induction m with
  | zero =>
    intro p f i fuel o M e hf hI hl hJ hfN h hx
    obtain ⟨g, ef⟩ : ∃ g, fuel = g + 1 := ⟨fuel - 1, by omega⟩
    subst ef
    have h160 := h.1.2.1
    have hp : p = t.length := by have := hI.2.2.2.2.1; omega
    subst hp
    have eo := hI.fin
    subst eo
    refine ⟨M, ?_, hx, .rfl⟩
    rw [f_N_mended_6, h.1.1, if_pos (nI_le (Nat.le_refl _) (by omega))]
  | succ m ih =>
    intro p f i fuel o M e hf hI hl hJ hfN h hx
    obtain ⟨g, ef⟩ : ∃ g, fuel = g + 1 := ⟨fuel - 1, by omega⟩
    subst ef
    have h160 := h.1.2.1
    have hpl := hI.2.2.2.2.1
    by_cases cp : p = t.length
    · subst cp
      have eo := hI.fin
      subst eo
      refine ⟨M, ?_, hx, .rfl⟩
      rw [f_N_mended_6, h.1.1, if_pos (nI_le (Nat.le_refl _) (by omega))]
    · have hp : p < t.length := by omega
      rw [f_N_mended_6, h.1.1, if_neg (nI_ge hp (by omega))]
      obtain ⟨f', w, o1, o2, o3, o4⟩ := r_pick (k6 := f_N_mended_6 b g) (v1 := nI o.length) h (by omega) hfN hJ
      rw [o1]
      unfold f_N_mended_74 f_N_mended_236
      have ln : ∀ j, j ≤ 5 → o.length + j < 400 := fun j hj => by omega
      have xi : ∀ j, j ≤ 5 → xin (nI (o.length + j)) 400 = true := fun j hj => xin_nI (ln j hj) (by decide)
      have xi0 : xin (nI o.length) 400 = true := xi 0 (by omega)
      have cl : ∀ j, j ≤ 5 → (nI (o.length + j)).toNatClampNeg = o.length + j := fun j hj => nI_clamp (by have := ln j hj; omega)
      have cl0 : (nI o.length).toNatClampNeg = o.length := cl 0 (by omega)
      rcases o4 with ⟨j, j1, j2, j3, j4⟩ | ⟨j1, j2⟩
      · subst j4
        obtain ⟨m1, m2, m3, m4⟩ := of_md j3
        have act := hI.act hm j1 j2 (by omega)
        have lt := pS_lt_E j1
        have lej := (pS_le t j).2
        have nq : ∀ k, k < 10 → (nI (sMd P (loB l) j) = nI k ↔ sMd P (loB l) j = k) := fun k hk => nI_eq (by omega) (by omega)
        have d4 : sMd P (loB l) j = 7 ∨ sMd P (loB l) j = 6 ∨ sMd P (loB l) j = 9 ∨ sMd P (loB l) j = 8 := by omega
        have xf : sMd P (loB l) j ≠ 8 → sMd P (loB l) j ≠ 9 → mX t (sMd P (loB l)) j = false := by
          intro n8 n9
          cases q : mX t (sMd P (loB l)) j with
          | false => rfl
          | true =>
            rw [mX_iff hm] at q
            rcases q with q | q | q
            · exact absurd q n8
            · exact absurd q n9
            · rw [mSec_iff] at q
              have k := ((hm (j - 1)).2.2.1 q.2).2
              rw [show j - 1 + 1 = j by omega] at k
              have hmj := hm j
              omega
        rcases d4 with d | d | d | d
        · have hW : mW t (sMd P (loB l)) j = [99, 111, 110, 115, 116] := by unfold mW; rw [xf (by omega) (by omega), if_neg (by decide), if_neg (by omega), if_pos d]
          have ew := (let_word h.1.2.2.2 j1 ((hm j).2.1 d)).1
          have hI2 := act.2.1 (by omega)
          rw [← act.1, hW] at hI2
          rw [d, if_pos (show nI 7 = 7 from rfl)]
          have e1 : nI o.length + 1 = nI (o.length + 1) := nI_1 _
          have e2 : nI o.length + 2 = nI (o.length + 2) := nI_add _ 2
          have e3 : nI o.length + 3 = nI (o.length + 3) := nI_add _ 3
          have e4 : nI o.length + 4 = nI (o.length + 4) := nI_add _ 4
          have e5 : nI o.length + Int32.ofInt 5 = nI (o.length + 5) := nI_add _ 5
          have e6 : nI p + Int32.ofInt 3 = nI (p + 3) := nI_add _ 3
          simp only [xlet, e1, e2, e3, e4, e5, e6, xi0, xi 1 (by omega), xi 2 (by omega), xi 3 (by omega), xi 4 (by omega), cl0, cl 1 (by omega), cl 2 (by omega), cl 3 (by omega), cl 4 (by omega), ↓reduceIte]
          have x1 := (nNx.put (c := 99) hx)
          have x2 := nNx.put' (c := 111) (n := o.length + 1) x1 (by simp)
          have x3 := nNx.put' (c := 110) (n := o.length + 2) x2 (by simp)
          have x4 := nNx.put' (c := 115) (n := o.length + 3) x3 (by simp)
          have x5 := nNx.put' (c := 116) (n := o.length + 4) x4 (by simp)
          have fr := ((((nx_fr (M := M) (b := b) (k := o.length) (v := nI 99)).trans (nx_fr (k := o.length + 1) (v := nI 111))).trans (nx_fr (k := o.length + 2) (v := nI 110))).trans (nx_fr (k := o.length + 3) (v := nI 115))).trans (nx_fr (k := o.length + 4) (v := nI 116))
          have el : (o ++ [99, 111, 110, 115, 116]).length = o.length + 5 := by simp
          rw [List.append_assoc, List.append_assoc, List.append_assoc, List.append_assoc] at x5
          obtain ⟨M2, q1, q2, q3⟩ := ih (p + 3) f' (j + 1) g (o ++ [99, 111, 110, 115, 116]) _ (by omega) (by omega) (by rw [ew, j2] at hI2; exact hI2) (by rw [el]; omega) (o3.mono (by omega)) o2 (h.fr fr) x5
          rw [el] at q1
          exact ⟨M2, q1, q2, fr.trans q3⟩
        · have hW : mW t (sMd P (loB l)) j = [61, 61, 61] := by unfold mW; rw [xf (by omega) (by omega), if_neg (by decide), if_pos d]
          have ew := (eq_word j1 ((hm j).1 d)).1
          have hI2 := act.2.1 (by omega)
          rw [← act.1, hW] at hI2
          rw [d, if_neg (show ¬ nI 6 = 7 by decide), if_pos (show nI 6 = 6 from rfl)]
          have e1 : nI o.length + 1 = nI (o.length + 1) := nI_1 _
          have e2 : nI o.length + 2 = nI (o.length + 2) := nI_add _ 2
          have e5 : nI o.length + Int32.ofInt 3 = nI (o.length + 3) := nI_add _ 3
          have e6 : nI p + Int32.ofInt 2 = nI (p + 2) := nI_add _ 2
          simp only [xlet, e1, e2, e5, e6, xi0, xi 1 (by omega), xi 2 (by omega), cl0, cl 1 (by omega), cl 2 (by omega), ↓reduceIte]
          have x1 := (nNx.put (c := 61) hx)
          have x2 := nNx.put' (c := 61) (n := o.length + 1) x1 (by simp)
          have x3 := nNx.put' (c := 61) (n := o.length + 2) x2 (by simp)
          have fr := ((nx_fr (M := M) (b := b) (k := o.length) (v := nI 61)).trans (nx_fr (k := o.length + 1) (v := nI 61))).trans (nx_fr (k := o.length + 2) (v := nI 61))
          have el : (o ++ [61, 61, 61]).length = o.length + 3 := by simp
          rw [List.append_assoc, List.append_assoc] at x3
          obtain ⟨M2, q1, q2, q3⟩ := ih (p + 2) f' (j + 1) g (o ++ [61, 61, 61]) _ (by omega) (by omega) (by rw [ew, j2] at hI2; exact hI2) (by rw [el]; omega) (o3.mono (by omega)) o2 (h.fr fr) x3
          rw [el] at q1
          exact ⟨M2, q1, q2, fr.trans q3⟩
        · have hW : mW t (sMd P (loB l)) j = [] := by unfold mW; rw [(mX_iff hm).mpr (.inr (.inl d)), if_pos rfl]
          have ew := stop_word j1 ((hm j).2.2.2 d)
          have hI2 := act.2.1 (by omega)
          rw [← act.1, hW, List.append_nil] at hI2
          rw [d, if_neg (show ¬ nI 9 = 7 by decide), if_neg (show ¬ nI 9 = 6 by decide), if_pos (show nI 9 = 9 from rfl)]
          have e6 : nI p + Int32.ofInt 1 = nI (p + 1) := nI_add _ 1
          rw [e6]
          exact ih (p + 1) f' (j + 1) g o M (by omega) (by omega) (by rw [ew, j2] at hI2; exact hI2) (by omega) (o3.mono (by omega)) o2 h hx
        · have hW : mW t (sMd P (loB l)) j = [] := by unfold mW; rw [(mX_iff hm).mpr (.inl d), if_pos rfl]
          have hI2 := act.2.2 d
          rw [← act.1, hW, List.append_nil] at hI2
          rw [d, if_neg (show ¬ nI 8 = 7 by decide), if_neg (show ¬ nI 8 = 6 by decide), if_neg (show ¬ nI 8 = 9 by decide), if_pos (show nI 8 = 8 from rfl)]
          have k19 := ((hm j).2.2.1 d).2
          have i1 := kT_real (t := t) (i := j + 1) (by omega)
          have lt1 := pS_lt_E i1
          obtain ⟨x, y1, y2⟩ := r_emptyAt h j1
          rw [j2] at y1
          rw [y1, xb_some]
          have g8 : loB l j = true := by
            have := m2
            rw [d] at this
            unfold gC at this
            rw [(code_mod (by omega)).1, (code_mod (by omega)).2] at this
            exact this
          rcases y2 with ⟨_, y2⟩ | ⟨k, k1, k2, k3, k4⟩
          · rw [g8] at y2; cases y2
          · have hl60 := h.2.2.2.2.2.1
            have e34 : M.1 (b + 34) k = nI (pE (pLex t) ((qg l k).1 + 1)) := h.2.2.2.2.1.2 (34, fun e => nI (pE (pLex t) (e.1 + 1))) (by simp [c18]) k k1
            rw [k4, if_pos (xin_nI (by omega) (by decide)), nI_clamp (by omega), e34, k2]
            exact ih (pE (pLex t) (j + 1)) f' (j + 2) g o M (by omega) (by omega) hI2 (by omega) (o3.mono (by omega)) o2 h hx
      · subst j1
        obtain ⟨i', hI2⟩ := hI.next hm hp j2
        rw [if_neg (show ¬ (-1 : Int32) = 7 by decide), if_neg (show ¬ (-1 : Int32) = 6 by decide), if_neg (show ¬ (-1 : Int32) = 9 by decide), if_neg (show ¬ (-1 : Int32) = 8 by decide)]
        have e5 : nI o.length + Int32.ofInt 1 = nI (o.length + 1) := nI_1 _
        have e6 : nI p + Int32.ofInt 1 = nI (p + 1) := nI_1 _
        rw [if_pos (xin_nI (by omega) (by decide)), nI_clamp (by omega), h.1.2.2.1 p hp, e5, e6]
        have x1 := nNx.put (c := pc t p) hx
        have el := app1 o (pc t p)
        obtain ⟨M2, q1, q2, q3⟩ := ih (p + 1) f' i' g (o ++ [pc t p]) _ (by omega) (by omega) hI2 (by rw [el]; omega) (o3.mono (by omega)) o2 (h.fr nx_fr) x1
        rw [el] at q1
        refine ⟨M2, ?_, q2, nx_fr.trans q3⟩
        unfold xval xlet
        dsimp only
        rw [if_pos xi0, cl0]
        exact q1
