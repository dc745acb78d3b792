/-! PURE: mend() of the class -/
theorem nI_nz {n : Nat} (h0 : 0 < n) (h : n < 2 ^ 31) : ¬ nI n = 0 := fun e => by
  have := (nI_eq (b := 0) h (by omega)).mp e
  omega
def mCt (md : Nat → Nat) (i : Nat) : Nat := cnt (fun p => md p != 10) i
theorem mU_crude {t : List Nat} {md : Nat → Nat} (ht : t.length ≤ 160) : ∀ j, (mU t md j).length ≤ j * 400 := by
  intro j
  induction j with
  | zero => exact Nat.le_refl _
  | succ j ih =>
    show (mU t md j ++ (mG t md j ++ mW t md j)).length ≤ _
    rw [List.length_append, List.length_append]
    have g : (mG t md j).length ≤ 160 := by
      unfold mG
      split
      · exact Nat.zero_le _
      · rw [sl_len (pS_le t j).1]; have := (pS_le t j).1; omega
    have w : (mW t md j).length ≤ 165 := by
      unfold mW
      split
      · exact Nat.zero_le _
      split
      · exact (by decide)
      split
      · exact (by decide)
      · rw [sl_len (pS_le t j).2]; have := (pS_le t j).2; omega
    omega
theorem mTx_crude {t : List Nat} {md : Nat → Nat} (ht : t.length ≤ 160) : (mTx t md).length ≤ 30000 := by
  have hT := nT_le t
  rw [← mU_Z (nT t) 0 (by omega), List.length_append]
  have := mU_crude (md := md) ht (nT t)
  have : (mZ t md 0 (nT t)).length ≤ 160 := by
    show (sl t (eT t (nT t)) t.length).length ≤ 160
    rw [sl_len (Nat.le_refl _)]; omega
  omega
theorem mSz_fin {t : List Nat} {md : Nat → Nat} (hm : mOk t md) (h26 : kT t (nT t) = 26) : mSz t md (nT t) = (mTx t md).length := by
  have s0 : mSec md (nT t) = false := by
    cases q : mSec md (nT t) with
    | false => rfl
    | true =>
      rw [mSec_iff] at q
      have k := ((hm (nT t - 1)).2.2.1 q.2).2
      rw [show nT t - 1 + 1 = nT t by omega] at k
      omega
  have ge := eT_le (t := t) (j := nT t) (Nat.le_refl _)
  have le := (pS_le t (nT t)).1
  rw [← mU_Z (nT t) 0 (by omega), List.length_append]
  show _ = _ + (sl t (eT t (nT t)) t.length).length
  rw [sl_len (Nat.le_refl _)]
  unfold mSz
  rw [s0, if_neg (by decide)]
  omega
section
variable {b r0 r1 : Nat} {on : Nat → Bool} {gv : List (List Nat)} {t : List Nat} {L : qL} {tok sc : Nat}
theorem p_cn4 (ht : t.length ≤ 160) (hq : qRun (kT t) (wT' t) (dT t) = .inr ([], tok, sc, L)) {M : xMem} (hS : dS M b r0 r1 on gv t L) : ∀ (m i fuel : Nat), i + m = nT t → m < fuel → f_G_mendablesIn_4 (b + 3) r0 fuel (nI (mCt (mdF on gv t L) i)) (nI i) M = some (nI (mCt (mdF on gv t L) (nT t)), M) := by
  have hT := nT_le t
  have n6 : M.1 (r0 + 2) 6 = nI (nT t) := hS.lx.2.1
  intro m
  induction m with
  | zero =>
    intro i fuel e hf
    obtain ⟨f, ef⟩ : ∃ f, fuel = f + 1 := ⟨fuel - 1, by omega⟩
    subst ef
    have ei : i = nT t := by omega
    subst ei
    rw [f_G_mendablesIn_4, n6, if_pos (show nI (nT t) ≤ nI (nT t) from nI_le (Nat.le_refl _) (by omega))]
  | succ m ih =>
    intro i fuel e hf
    obtain ⟨f, ef⟩ : ∃ f, fuel = f + 1 := ⟨fuel - 1, by omega⟩
    subst ef
    have e1 : nI i + Int32.ofInt 1 = nI (i + 1) := nI_1 i
    have i1 := ih (i + 1) f (by omega) (by omega)
    rw [← i1]
    rw [f_G_mendablesIn_4, n6, if_neg (show ¬ nI (nT t) ≤ nI i from nI_ge (by omega) (by omega)), p_md ht hq hS (by omega), xb_some]
    rcases mdF_5 on gv t L i with hd | hd
    · rw [sMdI_n (by omega), if_neg (nI_pos (by omega))]
      unfold f_G_mendablesIn_27
      have c1 : mCt (mdF on gv t L) (i + 1) = mCt (mdF on gv t L) i + 1 := by
        unfold mCt
        rw [cnt, if_pos (by simp; omega)]
      have e2 : nI (mCt (mdF on gv t L) i) + Int32.ofInt 1 = nI (mCt (mdF on gv t L) i + 1) := nI_1 _
      rw [e1, e2, c1]
    · rw [hd, sMdI_10, if_pos (by decide)]
      unfold f_G_mendablesIn_27
      have c1 : mCt (mdF on gv t L) (i + 1) = mCt (mdF on gv t L) i := by
        unfold mCt
        rw [cnt, if_neg (by simp; omega)]; rfl
      rw [e1, c1]
/-- how many things a round mends -/
theorem p_cn (ht : t.length ≤ 160) (hq : qRun (kT t) (wT' t) (dT t) = .inr ([], tok, sc, L)) {M : xMem} (hS : dS M b r0 r1 on gv t L) : f_G_mendablesIn (b + 3) r0 M = some (nI (mCt (mdF on gv t L) (nT t)), M) := by
  have hT := nT_le t
  unfold f_G_mendablesIn
  exact p_cn4 ht hq hS (nT t) 0 xFuel (by omega) (by unfold xFuel; omega)
theorem p_sz13 (ht : t.length ≤ 160) (hq : qRun (kT t) (wT' t) (dT t) = .inr ([], tok, sc, L)) {M : xMem} (hS : dS M b r0 r1 on gv t L) : ∀ (m i fuel : Nat), i + m = nT t → m < fuel → f_D_mendedSize_13 b fuel (nI (mSz t (mdF on gv t L) i)) (nI i) M = some (nI (mSz t (mdF on gv t L) (nT t)), M) := by
  have hm := (mdF_ok (on := on) (gv := gv) ht hq).1
  have hT := nT_le t
  have n6 : M.1 (r0 + 2) 6 = nI (nT t) := hS.lx.2.1
  intro m
  induction m with
  | zero =>
    intro i fuel e hf
    obtain ⟨f, ef⟩ : ∃ f, fuel = f + 1 := ⟨fuel - 1, by omega⟩
    subst ef
    have ei : i = nT t := by omega
    subst ei
    rw [f_D_mendedSize_13, hS.src, n6, if_pos (show nI (nT t) ≤ nI (nT t) from nI_le (Nat.le_refl _) (by omega))]
  | succ m ih =>
    intro i fuel e hf
    obtain ⟨f, ef⟩ : ∃ f, fuel = f + 1 := ⟨fuel - 1, by omega⟩
    subst ef
    have e1 : nI i + Int32.ofInt 1 = nI (i + 1) := nI_1 i
    have i1 := ih (i + 1) f (by omega) (by omega)
    rw [← i1]
    rw [f_D_mendedSize_13, hS.src, n6, if_neg (show ¬ nI (nT t) ≤ nI i from nI_ge (by omega) (by omega)), hS.src, p_md ht hq hS (by omega), xb_some]
    rcases mdF_5 on gv t L i with hd | hd
    · have r10 : mdF on gv t L i < 10 := by omega
      rw [sMdI_n (by omega), if_neg (nI_pos (by omega)), p_mendedText r10, xb_some]
      have k28 : mTk (mdF on gv t L i) < 28 := by unfold mTk; split <;> (try split) <;> omega
      rw [if_pos k28, p_JS_length k28, xb_some, p_mendedTo hS r10 (by omega), xb_some, p_mendedFrom hS r10 (by omega), xb_some]
      unfold f_D_mendedSize_68
      have sz := mSz_act hm (show i < nT t by omega) hd
      unfold mTo mFr at sz
      rw [e1, nI_size sz]
    · rw [hd, sMdI_10, if_pos (by decide)]
      unfold f_D_mendedSize_68
      rw [e1, mSz_skip hm (by omega) hd]
/-- how long the text would be -/
theorem p_sz (ht : t.length ≤ 160) (hq : qRun (kT t) (wT' t) (dT t) = .inr ([], tok, sc, L)) {M : xMem} (hS : dS M b r0 r1 on gv t L) : f_D_mendedSize b M = some (nI (mTx t (mdF on gv t L)).length, M) := by
  have hm := (mdF_ok (on := on) (gv := gv) ht hq).1
  have hT := nT_le t
  have z0 : mSz t (mdF on gv t L) 0 = t.length := by unfold mSz; show 0 + t.length - 0 = _; omega
  have a := p_sz13 ht hq hS (nT t) 0 xFuel (by omega) (by unfold xFuel; omega)
  rw [z0, mSz_fin hm (prog_end hq).1] at a
  have n1 : M.1 r0 1 = nI t.length := hS.lx.1.1
  unfold f_D_mendedSize
  rw [hS.src, n1]
  exact a
/-- a round that mends -/
theorem p_round1 (ht : t.length ≤ 160) (hc : ∀ i, pc t i < 256) (hq : qRun (kT t) (wT' t) (dT t) = .inr ([], tok, sc, L)) {M : xMem} (hS : dS M b r0 r1 on gv t L) (h160 : (mTx t (mdF on gv t L)).length ≤ 160) : ∃ tok' sc' L' M', qRun (kT (mTx t (mdF on gv t L))) (wT' (mTx t (mdF on gv t L))) (dT (mTx t (mdF on gv t L))) = .inr ([], tok', sc', L') ∧ (∀ k z : xMem → Option (Int32 × xMem), (xbind (f_D_writeMended b M) fun _ M => xsrc b (M.2.2.2 1) fun z23 => xbind (f_R_study z23 M) fun r24 M => if r24 < 0 then (xbind (f_D_takeSpare b M) fun _ M => k M) else z M) = k M') ∧ dS M' b r1 r0 on gv (mTx t (mdF on gv t L)) L' ∧ (∀ i, pc (mTx t (mdF on gv t L)) i < 256) ∧ onR b (b + 5) M M' ∧ (∀ a, (a < b ∨ b + 67 ≤ a) → M'.1 a = M.1 a ∧ M'.2.1 a = M.2.1 a ∧ M'.2.2.1 a = M.2.2.1 a) := by
  obtain ⟨M1, o1, o2, o3⟩ := p_writeMended ht hq h160 hS
  have hS1 := hS.fr o3
  obtain ⟨tok', sc', L', hq'⟩ := mend_prog (on := on) (gv := gv) ht hc hq
  rcases p_study o2 with ⟨e, M2, s1, _⟩ | ⟨tok2, sc2, L2, M2, s1, s2, s3, s4⟩
  · rw [hq'] at s1; cases s1
  rw [hq'] at s1
  injection s1 with s1
  injection s1 with _ s1
  injection s1 with s1a s1
  injection s1 with s1b s1c
  subst s1a s1b s1c
  have f2 : pFr r1 (r1 + 31) M M2 := o3.trans (s4.mono (by omega) (by omega))
  have hS2 := hS.fr f2
  have hr := hS.1.2.2
  refine ⟨tok', sc', L', wR (wR M2 0 r1) 1 r0, hq', ?_, ⟨⟨?_, ?_, by omega⟩, ?_, ?_⟩, o2.2.2.2, ?_, ?_⟩
  · intro k z
    rw [o1, xb_some]
    unfold xsrc
    rw [hS1.1.2.1, if_pos (show r1 = b + 5 ∨ r1 = b + 36 by omega)]
    dsimp only
    rw [s2, xb_some, if_pos (by decide)]
    unfold f_D_takeSpare xsrc
    dsimp only
    rw [hS2.1.1, hS2.1.2.1, if_pos (show r0 = b + 5 ∨ r0 = b + 36 by omega), if_pos (show r1 = b + 5 ∨ r1 = b + 36 by omega)]
    rfl
  · rfl
  · rfl
  · exact hS2.2.1.on (fun a _ _ => ⟨rfl, rfl, rfl⟩)
  · exact rEnd.on s3 (fun a _ _ => ⟨rfl, rfl, rfl⟩)
  · intro a h1 h2
    exact f2.1 a (by omega)
  · intro a ha
    exact f2.1 a (by omega)
end
/-- the lists of a PROGRAM -/
def Lof (t : List Nat) : qL := match qRun (kT t) (wT' t) (dT t) with
  | .inr c => c.2.2.2
  | .inl _ => fun _ => []
def prog (t : List Nat) : Prop := t.length ≤ 160 ∧ (∀ i, pc t i < 256) ∧ ∃ tok sc L, qRun (kT t) (wT' t) (dT t) = .inr ([], tok, sc, L)
theorem Lof_eq {t : List Nat} {tok sc : Nat} {L : qL} (h : qRun (kT t) (wT' t) (dT t) = .inr ([], tok, sc, L)) : Lof t = L := by unfold Lof; rw [h]
theorem prog.run {t : List Nat} (h : prog t) : ∃ tok sc, qRun (kT t) (wT' t) (dT t) = .inr ([], tok, sc, Lof t) := by
  obtain ⟨_, _, tok, sc, L, e⟩ := h
  exact ⟨tok, sc, by rw [Lof_eq e]; exact e⟩
/-- a round: how much it mends, and what comes out -/
def mStep (on : Nat → Bool) (gv : List (List Nat)) (t : List Nat) : Option (Nat × List Nat) :=
  if mCt (mdF on gv t (Lof t)) (nT t) = 0 ∨ 160 < (mTx t (mdF on gv t (Lof t))).length then none else some (mCt (mdF on gv t (Lof t)) (nT t), mTx t (mdF on gv t (Lof t)))
/-- at most k rounds: all that is mended, the rounds, the text -/
def mAll (on : Nat → Bool) (gv : List (List Nat)) : Nat → List Nat → Nat × Nat × List Nat
  | 0, t => (0, 0, t)
  | k + 1, t => match mStep on gv t with
    | none => (0, 0, t)
    | some (n, u) => (n + (mAll on gv k u).1, (mAll on gv k u).2.1 + 1, (mAll on gv k u).2.2)
theorem mStep_prog {on : Nat → Bool} {gv : List (List Nat)} {t u : List Nat} {n : Nat} (h : prog t) (hb : ∀ i, pc u i < 256) (e : mStep on gv t = some (n, u)) : prog u := by
  obtain ⟨tok, sc, hq⟩ := h.run
  unfold mStep at e
  split at e
  · cases e
  · rename_i c
    injection e with e
    injection e with e1 e2
    subst e2
    exact ⟨by omega, hb, mend_prog h.1 h.2.1 hq⟩
theorem p_mend_9 {b : Nat} {on : Nat → Bool} {gv : List (List Nat)} : ∀ (k v f r0 r1 x : Nat) (t : List Nat) (M : xMem), v + k = 4 → prog t → dS M b r0 r1 on gv t (Lof t) → M.1 b 5 = nI v → k < f → ∃ M' s0 s1, f_D_mend_9 b f (nI x) (nI v) M = some (nI (x + (mAll on gv k t).1), M') ∧ prog (mAll on gv k t).2.2 ∧ dS M' b s0 s1 on gv (mAll on gv k t).2.2 (Lof (mAll on gv k t).2.2) ∧ M'.1 b 5 = nI (v + (mAll on gv k t).2.1) ∧ onR (b + 1) (b + 5) M M' ∧ (∀ j, j ≠ 5 → M'.1 b j = M.1 b j) ∧ (∀ a, (a < b ∨ b + 67 ≤ a) → M'.1 a = M.1 a ∧ M'.2.1 a = M.2.1 a ∧ M'.2.2.1 a = M.2.2.1 a) := by
  intro k
  induction k with
  | zero =>
    intro v f r0 r1 x t M hv hp hS h5 hf
    obtain ⟨f, ef⟩ : ∃ g, f = g + 1 := ⟨f - 1, by omega⟩
    subst ef
    have : v = 4 := by omega
    subst this
    refine ⟨M, r0, r1, ?_, hp, hS, h5, fun a _ _ => ⟨rfl, rfl, rfl⟩, fun _ _ => rfl, fun _ _ => ⟨rfl, rfl, rfl⟩⟩
    rw [f_D_mend_9, if_pos (show (4 : Int32) ≤ nI 4 by decide)]
    rfl
  | succ k ih =>
    intro v f r0 r1 x t M hv hp hS h5 hf
    obtain ⟨f, ef⟩ : ∃ g, f = g + 1 := ⟨f - 1, by omega⟩
    subst ef
    obtain ⟨tok, sc, hq⟩ := hp.run
    have c60 : mCt (mdF on gv t (Lof t)) (nT t) ≤ nT t := cnt_le (P := fun p => mdF on gv t (Lof t) p != 10) (nT t)
    have hT := nT_le t
    have l3 := mTx_crude (md := mdF on gv t (Lof t)) hp.1
    rw [f_D_mend_9, if_neg (show ¬ (4 : Int32) ≤ nI v from nI_ge (a := v) (b := 4) (by omega) (by omega)), hS.src, p_cn hp.1 hq hS, xb_some]
    by_cases c : mCt (mdF on gv t (Lof t)) (nT t) = 0 ∨ 160 < (mTx t (mdF on gv t (Lof t))).length
    · have e0 : mStep on gv t = none := by unfold mStep; rw [if_pos c]
      unfold mAll
      rw [e0]
      refine ⟨M, r0, r1, ?_, hp, hS, h5, fun a _ _ => ⟨rfl, rfl, rfl⟩, fun _ _ => rfl, fun _ _ => ⟨rfl, rfl, rfl⟩⟩
      by_cases cz : mCt (mdF on gv t (Lof t)) (nT t) = 0
      · rw [cz, if_pos (show nI 0 = 0 from rfl)]
        rfl
      · rw [if_neg (nI_nz (by omega) (by omega)), p_sz hp.1 hq hS, xb_some, if_neg (show ¬ nI (mTx t (mdF on gv t (Lof t))).length ≤ 160 from nI_ge (b := (mTx t (mdF on gv t (Lof t))).length) (a := 160) (by omega) (by omega))]
        rfl
    · have e0 : mStep on gv t = some (mCt (mdF on gv t (Lof t)) (nT t), mTx t (mdF on gv t (Lof t))) := by unfold mStep; rw [if_neg c]
      obtain ⟨tok', sc', L', M1, q1, q2, q3, q4, q5, q6⟩ := p_round1 hp.1 hp.2.1 hq hS (by omega)
      have hp' := mStep_prog hp q4 e0
      rw [← Lof_eq q1] at q3
      have h51 : M1.1 b 5 = nI v := by rw [(q5 b (by omega) (by omega)).1]; exact h5
      have e5 : nI v + 1 = nI (v + 1) := nI_1 v
      have e6 : nI v + Int32.ofInt 1 = nI (v + 1) := nI_1 v
      have on1 : ∀ a, b + 1 ≤ a → (wI M1 b 5 (nI (v + 1))).1 a = M1.1 a := fun a ha => wI_ne _ _ _ (by omega)
      have hS1 : dS (wI M1 b 5 (nI (v + 1))) b r1 r0 on gv (mTx t (mdF on gv t (Lof t))) (Lof (mTx t (mdF on gv t (Lof t)))) := by
        have hr := q3.1.2.2
        exact ⟨q3.1, q3.2.1.on (fun a ha _ => ⟨on1 a (by omega), rfl, rfl⟩), q3.2.2.on (fun a ha _ => ⟨on1 a (by omega), rfl, rfl⟩)⟩
      obtain ⟨M2, s0, s1, w1, w2, w3, w4, w5, w6, w7⟩ := ih (v + 1) f r1 r0 (x + mCt (mdF on gv t (Lof t)) (nT t)) _ (wI M1 b 5 (nI (v + 1))) (by omega) hp' hS1 (mI_s rfl rfl) (by omega)
      rw [if_neg (nI_nz (by omega) (by omega)), p_sz hp.1 hq hS, xb_some, if_pos (show nI (mTx t (mdF on gv t (Lof t))).length ≤ 160 from nI_le (a := (mTx t (mdF on gv t (Lof t))).length) (b := 160) (by omega) (by omega)), q2, h51]
      show ∃ M' s0 s1, f_D_mend_9 b f (nI x + nI (mCt (mdF on gv t (Lof t)) (nT t))) (nI v + Int32.ofInt 1) (wI M1 b 5 (nI v + 1)) = _ ∧ _
      rw [e5, e6, nI_add]
      unfold mAll
      rw [e0]
      dsimp only
      refine ⟨M2, s0, s1, ?_, w2, w3, ?_, ?_, ?_, ?_⟩
      · rw [w1, Nat.add_assoc]
      · rw [w4]; congr 1; omega
      · intro a h1 h2
        have := w5 a h1 h2
        rw [this.1, this.2.1, this.2.2, on1 a h1]
        exact q5 a (by omega) h2
      · intro j hj
        rw [w6 j hj, mI_k hj, (q5 b (by omega) (by omega)).1]
      · intro a ha
        have := w7 a ha
        rw [this.1, this.2.1, this.2.2, wI_ne _ _ _ (show a ≠ b by omega)]
        exact q6 a ha
/-- mend() of the class -/
theorem p_mend0 {M : xMem} {b r0 r1 f : Nat} {on : Nat → Bool} {gv : List (List Nat)} {t : List Nat} (hf : 4 < f) (hp : prog t) (hS : dS M b r0 r1 on gv t (Lof t)) : ∃ M' s0 s1, f_D_mend_9 b f 0 0 (wI M b 5 0) = some (nI (mAll on gv 4 t).1, M') ∧ prog (mAll on gv 4 t).2.2 ∧ dS M' b s0 s1 on gv (mAll on gv 4 t).2.2 (Lof (mAll on gv 4 t).2.2) ∧ M'.1 b 5 = nI (mAll on gv 4 t).2.1 ∧ onR (b + 1) (b + 5) M M' ∧ (∀ j, j ≠ 5 → M'.1 b j = M.1 b j) ∧ (∀ a, (a < b ∨ b + 67 ≤ a) → M'.1 a = M.1 a ∧ M'.2.1 a = M.2.1 a ∧ M'.2.2.1 a = M.2.2.1 a) := by
  have on1 : ∀ a, b + 1 ≤ a → (wI M b 5 0).1 a = M.1 a := fun a ha => wI_ne _ _ _ (by omega)
  have hr := hS.1.2.2
  have hS1 : dS (wI M b 5 0) b r0 r1 on gv t (Lof t) := ⟨hS.1, hS.2.1.on (fun a ha _ => ⟨on1 a (by omega), rfl, rfl⟩), hS.2.2.on (fun a ha _ => ⟨on1 a (by omega), rfl, rfl⟩)⟩
  obtain ⟨M2, s0, s1, w1, w2, w3, w4, w5, w6, w7⟩ := p_mend_9 (b := b) 4 0 f r0 r1 0 t (wI M b 5 0) (by omega) hp hS1 (mI_s rfl rfl) hf
  rw [Nat.zero_add] at w1 w4
  refine ⟨M2, s0, s1, w1, w2, w3, w4, ?_, ?_, ?_⟩
  · intro a h1 h2
    have := w5 a h1 h2
    rw [this.1, this.2.1, this.2.2, on1 a h1]
    exact ⟨rfl, rfl, rfl⟩
  · intro j hj
    rw [w6 j hj, mI_k hj]
  · intro a ha
    have := w7 a ha
    rw [this.1, this.2.1, this.2.2, wI_ne _ _ _ (show a ≠ b by omega)]
    exact ⟨rfl, rfl, rfl⟩
theorem xFuel_4 : 4 < xFuel := by unfold xFuel; omega
theorem p_mend_u (b : Nat) (M : xMem) : f_D_mend b M = f_D_mend_9 b xFuel 0 0 (wI M b 5 0) := by unfold f_D_mend xlet; rfl
theorem p_mend {M : xMem} {b r0 r1 : Nat} {on : Nat → Bool} {gv : List (List Nat)} {t : List Nat} (hp : prog t) (hS : dS M b r0 r1 on gv t (Lof t)) : ∃ M' s0 s1, f_D_mend b M = some (nI (mAll on gv 4 t).1, M') ∧ prog (mAll on gv 4 t).2.2 ∧ dS M' b s0 s1 on gv (mAll on gv 4 t).2.2 (Lof (mAll on gv 4 t).2.2) ∧ M'.1 b 5 = nI (mAll on gv 4 t).2.1 ∧ onR (b + 1) (b + 5) M M' ∧ (∀ j, j ≠ 5 → M'.1 b j = M.1 b j) ∧ (∀ a, (a < b ∨ b + 67 ≤ a) → M'.1 a = M.1 a ∧ M'.2.1 a = M.2.1 a ∧ M'.2.2.1 a = M.2.2.1 a) := by
  rw [p_mend_u]
  exact p_mend0 xFuel_4 hp hS
