/-! PURE: the machine on the text that is left goes with the machine on the old one -/
/-- what became of a TOKEN's kind -/
def kR (k k' : Nat) : Prop := k' = k ∨ (k = 9 ∧ k' = 8) ∨ (k = 0 ∧ k' = 1)
theorem mRl.kr {t t' : List Nat} {dr : Nat → Bool} {F : qL} (h : mRl t t' dr F) {p : Nat} (hp : p ≤ nT t) (hx : xD t dr p = false) : kR (kT t p) (kT t' (nu t dr p)) := by
  rcases h.2.1 p hp hx with h | h | h
  · exact .inl h
  · exact .inr (.inl h)
  · exact .inr (.inr ⟨h.1, h.2.1⟩)
/-- what a step must lead to -/
def sTo (t t' : List Nat) (dr : Nat → Bool) (st1 : List qI) (tok1 sc1 : Nat) (l1 : List qE) (c' : Nat ⊕ qC) : Prop := ∃ st' tok' sc' L', c' = .inr (st', tok', sc', L') ∧ stS st1 st' ∧ tok' = nu t dr tok1 ∧ upS (nOuts st1) l1 sc1 (L' 0) sc'
theorem nOuts_9 {d a b : Nat} {r : List qI} : nOuts ((9, d, a, b) :: r) = nOuts r + 1 := by show 1 + nOuts r = _; omega
theorem nOuts_n {w d a b : Nat} {r : List qI} (h : w ≠ 9) : nOuts ((w, d, a, b) :: r) = nOuts r := by show (if w = 9 then 1 else 0) + nOuts r = _; rw [if_neg h]; omega
section
variable {t t' : List Nat} {dr : Nat → Bool} {F : qL} {d a b tok sc n sc' : Nat} {r r' : List qI} {L L' : qL}
theorem sim_exc {ya yb : Nat} (hM : mRl t t' dr F) (hr : stS r r') (hn : n = nu t dr tok) (hu : upS (nOuts r) (L 0) sc (L' 0) sc') (hb : yb % 2 = b % 2) (x0 : xD t dr tok = false) (hk : kT t tok = 22) (hT : tok + 1 ≤ nT t) {st1 : List qI} {tok1 sc1 : Nat} {L1 : qL} (e : qsExc (kT t) (dT t) d a b r tok sc L = .inr (st1, tok1, sc1, L1)) (hX : ∀ p, tok ≤ p → p < tok1 → xD t dr p = false) : sTo t t' dr st1 tok1 sc1 (L1 0) (qsExc (kT t') (dT t') d ya yb r' n sc' L') := by
  unfold qsExc at e
  split at e
  · rename_i hc
    cases e
    have x1 := hX (tok + 1) (by omega) (by omega)
    have k1 := hM.kr hT x1
    have d1 := hM.2.2 (tok + 1) hT x1 hc.1
    rw [nu_keep x0, ← hn] at k1 d1
    unfold qsExc
    rw [if_pos ⟨by unfold kR at k1; omega, by rw [d1]; exact hc.2⟩]
    refine ⟨_, _, _, _, rfl, ⟨itS_2 (by omega), itS_w (by decide) (by decide) (by decide) (by decide), hr⟩, ?_, ?_⟩
    · rw [nu_run 2 (fun p h1 h2 => hX p h1 h2), hn]
    · rw [qA_n _ _ (by decide), qA_n _ _ (by decide), nOuts_n (by decide), nOuts_n (by decide)]; exact hu
  · cases e
theorem sim_var {k' : Nat} (hM : mRl t t' dr F) (hr : stS r r') (hn : n = nu t dr tok) (hu : upS (nOuts r) (L 0) sc (L' 0) sc') (x0 : xD t dr tok = false) (hk : kT t tok ≤ 2) (hk' : kR (kT t tok) k') (h6 : k' = kT t tok ∨ (kT t tok = 0 ∧ k' = 1 ∧ kT t (tok + 2) = 10)) {st1 : List qI} {tok1 sc1 : Nat} {L1 : qL} (e : qsVar (kT t) (wT' t) d (kT t tok) r tok sc L = .inr (st1, tok1, sc1, L1)) (hX : ∀ p, tok ≤ p → p < tok1 → xD t dr p = false) : sTo t t' dr st1 tok1 sc1 (L1 0) (qsVar (kT t') (wT' t') d k' r' n sc' L') := by
  have g := g_T t
  have i0 : tok + 1 ≤ nT t := by have := kT_real (t := t) (i := tok) (by omega); omega
  unfold qsVar at e
  split at e
  · cases e
  rename_i c1
  have i1 : tok + 2 ≤ nT t := by have := kT_real (t := t) (i := tok + 1) (by omega); omega
  have n1 : nu t dr (tok + 1) = n + 1 := by rw [nu_keep x0, hn]
  split at e
  · rename_i c2
    cases e
    have x1 := hX (tok + 1) (by omega) (by omega)
    have x2 := hX (tok + 2) (by omega) (by omega)
    have k1 := hM.kr i0 x1
    have k2 := hM.kr i1 x2
    have n2 : nu t dr (tok + 2) = n + 2 := by rw [nu_run 2 (fun p h1 h2 => hX p h1 (by omega)), hn]
    rw [n1] at k1
    rw [n2] at k2
    unfold kR at k1 k2
    unfold qsVar
    rw [if_neg (by omega), if_pos ⟨by omega, by omega⟩]
    refine ⟨_, _, _, _, rfl, hr, ?_, ?_⟩
    · rw [nu_run 3 (fun p h1 h2 => hX p h1 h2), hn]
    · rw [q_dec_at (by decide) (by decide), q_dec_at (by decide) (by decide)]; exact hu
  split at e
  · cases e
  · rename_i c2 c3
    cases e
    have x1 := hX (tok + 1) (by omega) (by omega)
    have x2 := hX (tok + 2) (by omega) (by omega)
    have k1 := hM.kr i0 x1
    have k2 := hM.kr i1 x2
    have n2 : nu t dr (tok + 2) = n + 2 := by rw [nu_run 2 (fun p h1 h2 => hX p h1 (by omega)), hn]
    rw [n1] at k1
    rw [n2] at k2
    unfold kR at k1 k2
    unfold qsVar
    rw [if_neg (by omega), if_neg (by omega), if_neg (by omega)]
    refine ⟨_, _, _, _, rfl, ⟨itS.rfl, itS.rfl, hr⟩, ?_, ?_⟩
    · rw [nu_run 3 (fun p h1 h2 => hX p h1 h2), hn]
    · rw [q_let_at (by decide) (by decide), q_dec_at (by decide) (by decide), q_let_at (by decide) (by decide), q_dec_at (by decide) (by decide), nOuts_n (by decide), nOuts_n (by decide)]; exact hu
/-- PARAMETERS -/
theorem sim_par (hM : mRl t t' dr F) {s s' : Nat} : ∀ (m tok n p : Nat) (L L4 L' : qL), n = nu t dr tok → qPar (kT t) (wT' t) s m tok L = .inr (p, L4) → p ≤ nT t → (∀ q, tok ≤ q → q ≤ p → xD t dr q = false) → ∃ L4', qPar (kT t') (wT' t') s' m n L' = .inr (nu t dr p, L4') := by
  intro m
  induction m with
  | zero => intro tok n p L L4 L' _ h; rw [qPar] at h; cases h
  | succ m ih =>
    intro tok n p L L4 L' hn h hpT hX
    rw [qPar] at h
    split at h
    · cases h
    rename_i c1
    have mono : ∀ (m tok p : Nat) (L L4 : qL), qPar (kT t) (wT' t) s m tok L = .inr (p, L4) → tok + 1 ≤ p := by
      intro m
      induction m with
      | zero => intro tok p L L4 h; rw [qPar] at h; cases h
      | succ m ih =>
        intro tok p L L4 h
        rw [qPar] at h
        split at h
        · cases h
        split at h
        · have := ih _ _ _ _ h; omega
        · cases h; omega
    split at h
    · rename_i c2
      have le := mono _ _ _ _ _ h
      have x0 := hX tok (by omega) (by omega)
      have x1 := hX (tok + 1) (by omega) (by omega)
      have k0 := hM.kr (p := tok) (by omega) x0
      have k1 := hM.kr (p := tok + 1) (by omega) x1
      rw [nu_keep x0] at k1
      rw [← hn] at k0 k1
      unfold kR at k0 k1
      have n2 : nu t dr (tok + 2) = n + 2 := by rw [nu_run 2 (fun q h1 h2 => hX q h1 (by omega)), hn]
      obtain ⟨L4', o⟩ := ih (tok + 2) (n + 2) p _ L4 (qDecL (wT' t') n 4 s' L') n2.symm h hpT (fun q h1 h2 => hX q (by omega) h2)
      refine ⟨L4', ?_⟩
      rw [qPar, if_neg (by omega), if_pos ⟨c2.1, by omega⟩]
      exact o
    · rename_i c2
      cases h
      have x0 := hX tok (by omega) (by omega)
      have x1 := hX (tok + 1) (by omega) (by omega)
      have k0 := hM.kr (p := tok) (by omega) x0
      have k1 := hM.kr (p := tok + 1) (by omega) x1
      rw [nu_keep x0] at k1
      rw [← hn] at k0 k1
      unfold kR at k0 k1
      refine ⟨qDecL (wT' t') n 4 s' L', ?_⟩
      rw [qPar, if_neg (by omega), if_neg (by omega), nu_keep x0, ← hn]
theorem sim_fn (hM : mRl t t' dr F) (hr : stS r r') (hn : n = nu t dr tok) (hs : qSc (L 0)) (hs' : qSc (L' 0)) (hsc : sc < (L 0).length) (hsc' : sc' < (L' 0).length) (hu : upS (nOuts r) (L 0) sc (L' 0) sc') (hk : kT t tok = 3) {st1 : List qI} {tok1 sc1 : Nat} {L1 : qL} (e : qsFn (kT t) (wT' t) d r tok sc L = .inr (st1, tok1, sc1, L1)) (hT1 : tok1 ≤ nT t) (hX : ∀ p, tok ≤ p → p < tok1 → xD t dr p = false) : sTo t t' dr st1 tok1 sc1 (L1 0) (qsFn (kT t') (wT' t') d r' n sc' L') := by
  unfold qsFn at e
  split at e
  · cases e
  split at e
  · cases e
  rename_i c1 c2
  cases hp : qPars (kT t) (wT' t) ((qDecL (wT' t) (tok + 1) 3 sc L) 0).length (tok + 3) (qOpen 1 (tok + 1) sc (qDecL (wT' t) (tok + 1) 3 sc L)) with
  | inl x => rw [hp] at e; cases e
  | inr y =>
    obtain ⟨p, L4⟩ := y
    have l40 := q_pars_45 (g := 0) (by decide) (by decide) hp
    rw [hp] at e
    unfold qsBody at e
    dsimp only at e
    split at e
    · cases e
    split at e
    · cases e
    rename_i c3 c4
    unfold qList at e
    cases e
    have le : tok + 3 ≤ p := by
      unfold qPars at hp
      split at hp
      · cases hp; exact Nat.le_refl _
      · have mono : ∀ (m tok p s : Nat) (L L4 : qL), qPar (kT t) (wT' t) s m tok L = .inr (p, L4) → tok + 1 ≤ p := by
          intro m
          induction m with
          | zero => intro tok p s L L4 h; rw [qPar] at h; cases h
          | succ m ih =>
            intro tok p s L L4 h
            rw [qPar] at h
            split at h
            · cases h
            split at h
            · have := ih _ _ _ _ _ h; omega
            · cases h; omega
        have := mono _ _ _ _ _ _ hp; omega
    have nn : ∀ j, tok + j ≤ p + 2 → nu t dr (tok + j) = n + j := by
      intro j hj
      rw [nu_run j (fun q h1 h2 => hX q h1 (by omega)), hn]
    have kk : ∀ j, tok + j < p + 2 → kR (kT t (tok + j)) (kT t' (n + j)) := by
      intro j hj
      have := hM.kr (p := tok + j) (by omega) (hX (tok + j) (by omega) (by omega))
      rw [nn j (by omega)] at this
      exact this
    have k1 := kk 1 (by omega)
    have k2 := kk 2 (by omega)
    have k3 := kk 3 (by omega)
    have kp := kk (p - tok) (by omega)
    have kp1 := kk (p - tok + 1) (by omega)
    rw [show tok + (p - tok) = p by omega] at kp
    rw [show tok + (p - tok + 1) = p + 1 by omega] at kp1
    have np : nu t dr p = n + (p - tok) := by have := nn (p - tok) (by omega); rw [show tok + (p - tok) = p by omega] at this; exact this
    have hp' : ∃ L4', qPars (kT t') (wT' t') ((qDecL (wT' t') (n + 1) 3 sc' L') 0).length (n + 3) (qOpen 1 (n + 1) sc' (qDecL (wT' t') (n + 1) 3 sc' L')) = .inr (nu t dr p, L4') := by
      unfold qPars at hp ⊢
      split at hp
      · rename_i c
        cases hp
        unfold kR at k3
        rw [if_pos (by omega)]
        exact ⟨_, by rw [nn 3 (by omega)]⟩
      · rename_i c
        unfold kR at k3
        rw [if_neg (by omega)]
        exact sim_par hM 4 (tok + 3) (n + 3) p _ L4 _ (nn 3 (by omega)).symm hp (by omega) (fun q h1 h2 => hX q (by omega) (by omega))
    obtain ⟨L4', hp'⟩ := hp'
    have l40' := q_pars_45 (g := 0) (by decide) (by decide) hp'
    unfold kR at k1 k2 kp kp1
    unfold qsFn
    rw [if_neg (by omega), if_neg (by omega), hp']
    unfold qsBody
    dsimp only
    rw [np, if_neg (by omega), if_neg (by rw [Nat.add_assoc]; omega)]
    unfold qList
    refine ⟨_, _, _, _, rfl, ⟨itS_1, itS.rfl, hr⟩, ?_, ?_⟩
    · have := nn (p + 2 - tok) (by omega)
      rw [show tok + (p + 2 - tok) = p + 2 by omega] at this
      rw [this]; omega
    · rw [qA_n _ _ (by decide), qA_n _ _ (by decide), l40, l40']
      unfold qOpen qHome
      rw [qA_s, qA_s, q_dec_at (by decide) (by decide), q_dec_at (by decide) (by decide), nOuts_n (by decide), nOuts_9]
      exact upS.enter hs hs' hsc hsc' hu
theorem sim_blk {ya yb : Nat} (hr : stS r r') (hn : n = nu t dr tok) (hs : qSc (L 0)) (hs' : qSc (L' 0)) (hsc : sc < (L 0).length) (hsc' : sc' < (L' 0).length) (hu : upS (nOuts r) (L 0) sc (L' 0) sc') (x0 : xD t dr tok = false) {st1 : List qI} {tok1 sc1 : Nat} {L1 : qL} (e : qsBlk (kT t) d a b r tok sc L = .inr (st1, tok1, sc1, L1)) : sTo t t' dr st1 tok1 sc1 (L1 0) (qsBlk (kT t') d ya yb r' n sc' L') := by
  unfold qsBlk qList at e ⊢
  cases e
  refine ⟨_, _, _, _, rfl, ⟨itS_1, itS.rfl, hr⟩, by rw [nu_keep x0, hn], ?_⟩
  have l1 : ∀ (tk : Nat → Nat) (a b tok sc : Nat) (L : qL), (qA 5 (0, tok + 1, 0, 0, 0) (qEmpL tk a b tok (qOpen 0 (tok + 1) sc L))) 0 = L 0 ++ [(sc, 0, if (0 : Nat) = 1 then (L 0).length else (qg (L 0) sc).2.2.1, (qg (L 0) sc).2.2.2.1 + 1, tok + 1)] := by
    intro tk a b tok sc L
    rw [qA_n _ _ (by decide), q_emp_at (by decide)]
    unfold qOpen qHome
    rw [qA_s]
  rw [l1, l1, nOuts_n (by decide), nOuts_9]
  exact upS.enter hs hs' hsc hsc' hu
theorem sim_if {k k' : Nat} (hM : mRl t t' dr F) (hr : stS r r') (hn : n = nu t dr tok) (hu : upS (nOuts r) (L 0) sc (L' 0) sc') (x0 : xD t dr tok = false) (hT : tok + 1 ≤ nT t) (hk : k' = k) {st1 : List qI} {tok1 sc1 : Nat} {L1 : qL} (e : qsIf (kT t) d k r tok sc L = .inr (st1, tok1, sc1, L1)) (hX : ∀ p, tok ≤ p → p < tok1 → xD t dr p = false) : sTo t t' dr st1 tok1 sc1 (L1 0) (qsIf (kT t') d k' r' n sc' L') := by
  subst hk
  unfold qsIf at e
  split at e
  · cases e
  rename_i c1
  cases e
  have x1 := hX (tok + 1) (by omega) (by omega)
  have k1 := hM.kr hT x1
  rw [nu_keep x0, ← hn] at k1
  unfold kR at k1
  unfold qsIf
  rw [if_neg (show ¬ kT t' (n + 1) ≠ 16 by omega)]
  refine ⟨_, _, _, _, rfl, ?_, by rw [nu_run 2 (fun p h1 h2 => hX p h1 h2), hn], ?_⟩
  · refine ⟨itS.rfl, itS.rfl, itS.rfl, ?_⟩
    split
    · exact ⟨itS.rfl, hr⟩
    · exact hr
  · rw [nOuts_n (by decide), nOuts_n (by decide), nOuts_n (by decide)]
    split
    · rw [nOuts_n (by decide)]; exact hu
    · exact hu
theorem sim_ret (hM : mRl t t' dr F) (hr : stS r r') (hn : n = nu t dr tok) (hu : upS (nOuts r) (L 0) sc (L' 0) sc') (x0 : xD t dr tok = false) (hT : tok + 1 ≤ nT t) (x1 : xD t dr (tok + 1) = false) {st1 : List qI} {tok1 sc1 : Nat} {L1 : qL} (e : qsRet (kT t) d r tok sc L = .inr (st1, tok1, sc1, L1)) : sTo t t' dr st1 tok1 sc1 (L1 0) (qsRet (kT t') d r' n sc' L') := by
  have k1 := hM.kr hT x1
  rw [nu_keep x0, ← hn] at k1
  unfold kR at k1
  have fl := hu.fl
  unfold qsRet qHome at e ⊢
  split at e
  · cases e
  rename_i c0
  rw [if_neg (fun h => c0 (fl.mpr h))]
  split at e
  · rename_i c1
    cases e
    rw [if_pos (by omega)]
    exact ⟨_, _, _, _, rfl, hr, by rw [nu_keep x1, nu_keep x0, hn], hu⟩
  · rename_i c1
    cases e
    rw [if_neg (by omega)]
    refine ⟨_, _, _, _, rfl, ⟨itS.rfl, itS.rfl, hr⟩, by rw [nu_keep x0, hn], ?_⟩
    rw [nOuts_n (by decide), nOuts_n (by decide)]; exact hu
end
