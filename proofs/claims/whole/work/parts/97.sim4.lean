/-! PURE: the step of the text that is left -/
section
variable {t t' : List Nat} {dr : Nat → Bool} {F : qL} {m w d a b tok sc n sc' tok1 sc1 : Nat} {r r' st1 : List qI} {L L' L1 : qL}
/-- in step: the TOKEN before is no BLOCK's begin that goes; what lies in a LIST stays -/
def sY (t : List Nat) (dr : Nat → Bool) (st : List qI) (tok : Nat) : Prop := (1 ≤ tok → dr (tok - 1) = true → kT t (tok - 1) ≠ 18) ∧ ∀ x r, st = x :: r → inL x → dr tok = false
theorem sim_stat {ya yb : Nat} (hM : mRl t t' dr F) (hA : qAll t ((2, d, a, b) :: r, tok, sc, L)) (hA' : qAll t' ((2, d, ya, yb) :: r', n, sc', L')) (hj : adjS ((2, d, a, b) :: r)) (hr : stS r r') (hb : yb % 2 = b % 2) (hn : n = nu t dr tok) (hu : upS (nOuts r) (L 0) sc (L' 0) sc') (hy : sY t dr ((2, d, a, b) :: r) tok) (e : qStep (kT t) (wT' t) (dT t) ((2, d, a, b) :: r, tok, sc, L) = .inr (st1, tok1, sc1, L1)) (h : qAcc t m (st1, tok1, sc1, L1) F) (hX : ∀ p, tok ≤ p → p < tok1 → xD t dr p = false) : sTo t t' dr st1 tok1 sc1 (L1 0) (qStep (kT t') (wT' t') (dT t') ((2, d, ya, yb) :: r', n, sc', L')) := by
  have hA1 := all_step hA e
  have hj1 := adj_step hj e
  have rg := acc_reg hA e h
  have e' : qStat (kT t) (wT' t) (dT t) d a b r tok sc L = .inr (st1, tok1, sc1, L1) := e
  show sTo t t' dr st1 tok1 sc1 (L1 0) (qStat (kT t') (wT' t') (dT t') d ya yb r' n sc' L')
  have d0 : dr tok = false := by
    cases q : dr tok with
    | false => rfl
    | true =>
      have hk := (hM.1 _ q).2
      have := stat_adv (by omega) e'
      obtain ⟨_, _, hL⟩ := rg.1 tok (Nat.le_refl _) (by omega) (hM.1 _ q).1
      have := hy.2 _ _ rfl ⟨rfl, hL⟩
      rw [this] at q; cases q
  have x0 := xD_of d0 hy.1
  have hT : tok ≤ nT t := hA.1.1
  have hT1 : tok1 ≤ nT t := hA1.1.1
  have kr := hM.kr hT x0
  have kr2 := hM.2.1 tok hT x0
  rw [← hn] at kr kr2
  have kr0 := kr
  have hsc : sc < (L 0).length := hA.1.2.1.2.1
  have hsc' : sc' < (L' 0).length := hA'.1.2.1.2.1
  have hs : qSc (L 0) := hA.1.2.1.2.2.1
  have hs' : qSc (L' 0) := hA'.1.2.1.2.2.1
  have lastk := g_T t tok hT
  rw [qStat_rest] at e' ⊢
  split at e'
  · cases e'
  rename_i c0
  unfold kR at kr
  rw [if_neg (by omega)]
  split at e'
  · rename_i c1
    rw [if_pos (by omega)]
    exact sim_exc hM hr hn hu hb x0 c1 (lastk (by omega)) e' hX
  rename_i c1
  rw [if_neg (by omega)]
  have n0 : ∀ (a tok k : Nat) (L : qL), qNote a tok k L 0 = L 0 := fun a tok k L => q_note_at (by decide) (by decide)
  rw [← n0 a tok (kT t tok) L] at hu hsc hs
  rw [← n0 ya n (kT t' n) L'] at hu hsc' hs'
  generalize qNote a tok (kT t tok) L = N at *
  generalize qNote ya n (kT t' n) L' = N' at *
  unfold qRestS at e' ⊢
  split at e'
  · rename_i c2
    rw [if_pos (by omega)]
    refine sim_var hM hr hn hu x0 c2 kr0 ?_ e' hX
    rcases kr2 with h | h | h
    · exact .inl h
    · omega
    · right
      have t3 : tok < tok1 := by
        unfold qsVar at e'
        split at e'
        · cases e'
        split at e'
        · cases e'; omega
        split at e'
        · cases e'
        · cases e'; omega
      exact ⟨h.1, h.2.1, (rg.2 tok (Nat.le_refl _) t3 h.2.2).2.2.2⟩
  rename_i c2
  rw [if_neg (by omega)]
  split at e'
  · rename_i c3
    rw [if_pos (by omega)]
    exact sim_fn hM hr hn hs hs' hsc hsc' hu c3 e' hT1 hX
  rename_i c3
  rw [if_neg (by omega)]
  split at e'
  · rename_i c4
    rw [if_pos (by omega)]
    exact sim_blk hr hn hs hs' hsc hsc' hu x0 e'
  rename_i c4
  rw [if_neg (by omega)]
  split at e'
  · rename_i c5
    rw [if_pos (by omega)]
    exact sim_if hM hr hn hu x0 (lastk (by omega)) (by omega) e' hX
  rename_i c5
  rw [if_neg (by omega)]
  split at e'
  · rename_i c6
    rw [if_pos (by omega)]
    have x1 : xD t dr (tok + 1) = false := by
      have e2 := e'
      unfold qsRet at e2
      split at e2
      · cases e2
      split at e2
      · cases e2; exact hX (tok + 1) (by omega) (by omega)
      · cases e2
        have := no_dr hM (acc_val hA1 hj1 (by decide) h)
        exact xD_of this (fun _ q => by rw [show tok + 1 - 1 = tok by omega, d0] at q; cases q)
    exact sim_ret hM hr hn hu x0 (lastk (by omega)) x1 e'
  rename_i c6
  rw [if_neg (by omega)]
  split at e'
  · rename_i c7
    rw [if_pos (by omega)]
    cases e'
    refine ⟨_, _, _, _, rfl, hr, by rw [nu_keep x0, hn], ?_⟩
    rw [q_spa_at (by decide), q_spa_at (by decide)]
    exact hu
  · rename_i c7
    rw [if_neg (by omega)]
    cases e'
    refine ⟨_, _, _, _, rfl, ⟨itS.rfl, itS.rfl, hr⟩, hn, ?_⟩
    rw [nOuts_n (by decide), nOuts_n (by decide)]; exact hu
/-- the other items -/
theorem sim_oth {ya yb : Nat} (hM : mRl t t' dr F) (hA : qAll t ((w, d, a, b) :: r, tok, sc, L)) (hj : adjS ((w, d, a, b) :: r)) (hr : stS r r') (hi : itS (w, d, a, b) (w, d, ya, yb)) (hn : n = nu t dr tok) (hu : upS (nOuts ((w, d, a, b) :: r)) (L 0) sc (L' 0) sc') (hy : sY t dr ((w, d, a, b) :: r) tok) (w2 : w ≠ 2) (w1 : w = 1 → dr tok = false) (e : qStep (kT t) (wT' t) (dT t) ((w, d, a, b) :: r, tok, sc, L) = .inr (st1, tok1, sc1, L1)) (h0 : qAcc t (m + 1) ((w, d, a, b) :: r, tok, sc, L) F) (h : qAcc t m (st1, tok1, sc1, L1) F) (hX : ∀ p, tok ≤ p → p < tok1 → xD t dr p = false) : sTo t t' dr st1 tok1 sc1 (L1 0) (qStep (kT t') (wT' t') (dT t') ((w, d, ya, yb) :: r', n, sc', L')) := by
  have hA1 := all_step hA e
  have hj1 := adj_step hj e
  have hT : tok ≤ nT t := hA.1.1
  have hT1 : tok1 ≤ nT t := hA1.1.1
  have lastk := g_T t tok hT
  have hq := hA.1.2.2.1.2.2.2
  have kk : dr tok = false → xD t dr tok = false ∧ kR (kT t tok) (kT t' n) := by
    intro d0
    have x0 := xD_of d0 hy.1
    have := hM.kr hT x0
    rw [← hn] at this
    exact ⟨x0, this⟩
  have kk1 : dr tok = false → dr (tok + 1) = false → kT t tok ≤ 25 → xD t dr (tok + 1) = false ∧ kR (kT t (tok + 1)) (kT t' (n + 1)) := by
    intro d0 d1 hk
    have x0 := (kk d0).1
    have x1 := xD_of (t := t) d1 (fun _ q => by rw [show tok + 1 - 1 = tok by omega, d0] at q; cases q)
    have := hM.kr (lastk hk) x1
    rw [nu_keep x0, ← hn] at this
    exact ⟨x1, this⟩
  unfold qStep at e ⊢
  dsimp only at e ⊢
  split at e
  · rename_i c
    rw [if_pos c]
    subst c
    have ea : ya = a := hi.2.2.1 (.inl rfl)
    subst ea
    obtain ⟨x0, kr⟩ := kk (w1 rfl)
    have ha : ya = 19 ∨ ya = 26 := hA.1.2.2.1.2.2.2.2.2
    rw [nOuts_n (by decide)] at hu
    unfold kR at kr
    unfold qLst at e ⊢
    split at e
    · cases e
      rw [if_pos (by omega)]
      refine ⟨_, _, _, _, rfl, ⟨itS_2 rfl, itS_1, hr⟩, hn, ?_⟩
      rw [nOuts_n (by decide), nOuts_n (by decide)]; exact hu
    · rename_i cn
      cases e
      rw [if_neg (show ¬ kT t' n ≠ ya by omega)]
      refine ⟨_, _, _, _, rfl, hr, ?_, hu⟩
      split
      · rw [nu_keep x0, hn]
      · exact hn
  rename_i c1
  rw [if_neg c1, if_neg w2]
  split at e
  · rename_i c
    rw [if_pos c]
    subst c
    rw [nOuts_n (by decide)] at hu
    unfold qOth at e ⊢
    by_cases d0 : dr tok = false
    · obtain ⟨x0, kr⟩ := kk d0
      unfold kR at kr
      split at e
      · cases e
        rw [if_pos (by omega)]
        refine ⟨_, _, _, _, rfl, ⟨itS.rfl, hr⟩, by rw [nu_keep x0, hn], ?_⟩
        rw [nOuts_n (by decide)]; exact hu
      · cases e
        rw [if_neg (by omega)]
        exact ⟨_, _, _, _, rfl, hr, hn, hu⟩
    · have d1 : dr tok = true := by simpa using d0
      have hk := (hM.1 _ d1).2
      rw [if_neg (by omega)] at e
      cases e
      obtain ⟨q, q1, q2, q3, q4, q5⟩ := first_kept (xD_last hM) (nT t - tok) tok (by omega)
      have n5 := acc_else hM.1 _ _ _ _ _ hA hj h0 d1 q q1 q3 q4
      have kr := hM.kr q2 q3
      rw [q5, ← hn] at kr
      unfold kR at kr
      rw [if_neg (by omega)]
      exact ⟨_, _, _, _, rfl, hr, hn, hu⟩
  rename_i c3
  rw [if_neg c3]
  have dv : 4 ≤ w ∧ w ≤ 8 → dr tok = false := fun hw => no_dr hM (acc_val hA hj hw h0)
  split at e
  · rename_i c
    rw [if_pos c]
    obtain ⟨x0, kr⟩ := kk (dv (by omega))
    subst c
    have ea : ya = a := hi.2.2.1 (.inr (.inl rfl))
    subst ea
    have ha : ya = 17 ∨ ya = 20 := hq
    rw [nOuts_n (by decide)] at hu
    unfold kR at kr
    unfold qOne at e ⊢
    split at e
    · cases e
      rw [if_pos (by omega)]
      exact ⟨_, _, _, _, rfl, hr, by rw [nu_keep x0, hn], hu⟩
    · cases e
  rename_i c4
  rw [if_neg c4]
  split at e
  · rename_i c
    rw [if_pos c]
    have d0 := dv (by omega)
    obtain ⟨x0, kr⟩ := kk d0
    subst c
    have ea : ya = a := hi.2.2.1 (.inr (.inr rfl))
    subst ea
    rw [nOuts_n (by decide)] at hu
    unfold kR at kr
    unfold qVal at e ⊢
    split at e
    · cases e
    rename_i b0
    rw [if_neg b0]
    split at e
    · rename_i b1
      cases e
      have x1 := hX (tok + 1) (by omega) (by omega)
      have kr1 := (kk1 d0 (xD_dr x1) (by omega)).2
      unfold kR at kr1
      rw [if_pos (by omega)]
      refine ⟨_, _, _, _, rfl, ⟨itS.rfl, hr⟩, by rw [nu_run 2 (fun p h1 h2 => hX p h1 h2), hn], ?_⟩
      rw [qA_n _ _ (by decide), qA_n _ _ (by decide), nOuts_n (by decide)]; exact hu
    · rename_i b1
      cases e
      have g : ¬ (kT t' n = 23 ∧ kT t' (n + 1) = 10) := by
        intro g
        have k23 : kT t tok = 23 := by omega
        have d1 := (part_next hM hA1 hj1 h k23).1
        have kr1 := (kk1 d0 d1 (by omega)).2
        unfold kR at kr1
        omega
      rw [if_neg g]
      refine ⟨_, _, _, _, rfl, ⟨itS.rfl, itS.rfl, hr⟩, hn, ?_⟩
      rw [nOuts_n (by decide), nOuts_n (by decide)]; exact hu
  rename_i c5
  rw [if_neg c5]
  split at e
  · rename_i c
    rw [if_pos c]
    obtain ⟨x0, kr⟩ := kk (dv (by omega))
    subst c
    rw [nOuts_n (by decide)] at hu
    unfold kR at kr
    have jn : qJoin (kT t' n) = qJoin (kT t tok) := by
      rcases kr with k | k | k
      · rw [k]
      · rw [k.1, k.2]; rfl
      · rw [k.1, k.2]; rfl
    unfold qMore at e ⊢
    rw [jn]
    split at e
    · rename_i b1
      cases e
      rw [if_pos b1]
      refine ⟨_, _, _, _, rfl, ⟨itS.rfl, itS.rfl, hr⟩, by rw [nu_keep x0, hn], ?_⟩
      have l0 : ∀ (c : Prop) [Decidable c] (p : Nat) (L : qL), (if c then qA 16 (p, 0, 0, 0, 0) L else L) 0 = L 0 := by
        intro c _ p L; split
        · exact qA_n _ _ (by decide)
        · rfl
      rw [l0, l0, nOuts_n (by decide), nOuts_n (by decide)]; exact hu
    · rename_i b1
      cases e
      rw [if_neg b1]
      exact ⟨_, _, _, _, rfl, hr, hn, hu⟩
  rename_i c6
  rw [if_neg c6]
  split at e
  · rename_i c
    rw [if_pos c]
    have d0 := dv (by omega)
    obtain ⟨x0, kr⟩ := kk d0
    subst c
    rw [nOuts_n (by decide)] at hu
    have kr0 := kr
    unfold kR at kr
    unfold qPart at e ⊢
    split at e
    · cases e
      rw [if_pos (by omega)]
      exact ⟨_, _, _, _, rfl, hr, by rw [nu_keep x0, hn], hu⟩
    rename_i b1
    rw [if_neg (by omega)]
    split at e
    · rename_i b2
      rw [if_pos (show kT t' n = 23 by omega)]
      have nx := part_next hM hA hj h0 b2
      obtain ⟨x1, kr1⟩ := kk1 d0 nx.1 (by omega)
      unfold kR at kr1
      split at e
      · rename_i b3
        cases e
        rw [if_pos (by omega)]
        refine ⟨_, _, _, _, rfl, hr, by rw [nu_keep x0, hn], ?_⟩
        rw [qA_n _ _ (by decide), qA_n _ _ (by decide)]; exact hu
      rename_i b3
      rw [if_neg (by omega)]
      have d2 := nx.2 (by omega)
      have i2 := g_T t (tok + 1) (lastk (by omega)) (by omega)
      have x2 := xD_of (t := t) d2 (fun _ q => by rw [show tok + 2 - 1 = tok + 1 by omega, nx.1] at q; cases q)
      have kr2 := hM.kr i2 x2
      have n2 : nu t dr (tok + 1 + 1) = n + 2 := by rw [nu_keep x1, nu_keep x0, hn]
      have kr2 : kR (kT t (tok + 2)) (kT t' (n + 2)) := by rw [show nu t dr (tok + 2) = n + 2 from n2] at kr2; exact kr2
      unfold kR at kr2
      split at e
      · rename_i b4
        cases e
        rw [if_pos (by omega)]
        refine ⟨_, _, _, _, rfl, hr, by rw [show nu t dr (tok + 3) = nu t dr (tok + 2) + 1 from nu_keep x2]; rw [show nu t dr (tok + 2) = n + 2 from n2], ?_⟩
        rw [qA_n _ _ (by decide), qA_n _ _ (by decide)]; exact hu
      · rename_i b4
        cases e
        rw [if_neg (by omega)]
        refine ⟨_, _, _, _, rfl, ⟨itS.rfl, itS_w (by decide) (by decide) (by decide) (by decide), hr⟩, n2.symm, ?_⟩
        rw [qA_n _ _ (by decide), qA_n _ _ (by decide), nOuts_n (by decide), nOuts_n (by decide)]; exact hu
    rename_i b2
    rw [if_neg (show ¬ kT t' n = 23 by omega)]
    split at e
    · rename_i b3
      rw [if_pos (show kT t' n = 15 ∨ kT t' n = 12 by omega)]
      split at e
      · cases e
      · rename_i b4
        cases e
        rw [if_neg b4]
        refine ⟨_, _, _, _, rfl, ⟨itS.rfl, hr⟩, by rw [nu_keep x0, hn], ?_⟩
        rw [nOuts_n (by decide)]; exact hu
    rename_i b3
    rw [if_neg (show ¬ (kT t' n = 15 ∨ kT t' n = 12) by omega)]
    split at e
    · rename_i b4
      rw [if_pos (show kT t' n = 16 by omega)]
      split at e
      · cases e
      · rename_i b5
        cases e
        rw [if_neg b5]
        refine ⟨_, _, _, _, rfl, ⟨itS.rfl, itS.rfl, hr⟩, by rw [nu_keep x0, hn], ?_⟩
        rw [nOuts_n (by decide), nOuts_n (by decide)]; exact hu
    · cases e
  rename_i c7
  rw [if_neg c7]
  split at e
  · rename_i c
    rw [if_pos c]
    obtain ⟨x0, kr⟩ := kk (dv (by omega))
    subst c
    rw [nOuts_n (by decide)] at hu
    unfold kR at kr
    unfold qRest at e ⊢
    split at e
    · cases e
      rw [if_pos (by omega)]
      refine ⟨_, _, _, _, rfl, ⟨itS.rfl, itS_w (by decide) (by decide) (by decide) (by decide), hr⟩, by rw [nu_keep x0, hn], ?_⟩
      rw [nOuts_n (by decide), nOuts_n (by decide)]; exact hu
    rename_i b1
    rw [if_neg (by omega)]
    split at e
    · cases e
      rw [if_pos (by omega)]
      exact ⟨_, _, _, _, rfl, hr, by rw [nu_keep x0, hn], hu⟩
    · cases e
  rename_i c8
  rw [if_neg c8]
  split at e
  · rename_i c
    rw [if_pos c]
    subst c
    rw [nOuts_9] at hu
    cases e
    exact ⟨_, _, _, _, rfl, hr, hn, hu.2⟩
  · rename_i c
    rw [if_neg c]
    rw [nOuts_n c] at hu
    cases e
    refine ⟨_, _, _, _, rfl, hr, hn, ?_⟩
    rw [qM_n _ _ _ (by decide), qM_n _ _ _ (by decide)]; exact hu
end
/-- THE SIMULATION: a run that ends well on t, ends well on what is left of it -/
theorem sim_run {t t' : List Nat} {dr : Nat → Bool} {F : qL} (hM : mRl t t' dr F) : ∀ (m : Nat) (st : List qI) (tok sc : Nat) (L : qL) (st' : List qI) (n sc' : Nat) (L' : qL), qAll t (st, tok, sc, L) → qAll t' (st', n, sc', L') → adjS st → qAcc t m (st, tok, sc, L) F → stS st st' → n = nu t dr tok → upS (nOuts st) (L 0) sc (L' 0) sc' → sY t dr st tok → ∃ m' F', qAcc t' m' (st', n, sc', L') F' := by
  intro m
  induction m using Nat.strongRecOn with
  | _ m ih =>
    intro st tok sc L st' n sc' L' hA hA' hj h hS hn hu hy
    cases st with
    | nil =>
      cases st' with
      | cons y r' => exact absurd hS (by intro h; exact h)
      | nil => exact ⟨0, L', n, sc', rfl⟩
    | cons x r =>
      cases st' with
      | nil => exact absurd hS (by intro h; exact h)
      | cons y r' =>
        obtain ⟨hi, hr⟩ := hS
        obtain ⟨w, d, a, b⟩ := x
        obtain ⟨yw, yd, ya, yb⟩ := y
        have ew : yw = w := hi.1
        have ed : yd = d := hi.2.1
        subst ew
        subst ed
        obtain ⟨m0, st1, tok1, sc1, L1, em, e1, h1⟩ := h.step
        subst em
        have hA1 := all_step hA e1
        have hj1 := adj_step hj e1
        have hs := hA.1.2.1.2.2.1
        have hs' := hA'.1.2.1.2.2.1
        have hsc := hA.1.2.1.2.1
        have hsc' := hA'.1.2.1.2.1
        by_cases st0 : yw = 1 ∧ dr tok = true
        · obtain ⟨w1, d1⟩ := st0
          subst w1
          have hk := (hM.1 _ d1).2
          have ha : a = 19 ∨ a = 26 := hA.1.2.2.1.2.2.2.2.2
          have e2 : qLst (kT t) yd a b r tok sc L = .inr (st1, tok1, sc1, L1) := e1
          unfold qLst at e2
          rw [if_pos (by omega)] at e2
          cases e2
          obtain ⟨m2, L2, lt, h2, hA2, hL2⟩ := acc_goes hA1 ⟨by omega, by decide⟩ hk h1
          have xt : xD t dr tok = true := by unfold xD; rw [d1]; rfl
          have up2 : upS (nOuts ((1, yd, a, b) :: r)) (L2 0) sc (L' 0) sc' := hu.to hs hs' hL2 (fun i _ => rfl) hsc hsc'
          by_cases k20 : kT t tok = 20
          · rw [if_pos k20] at h2 hA2
            refine ih m2 (by omega) _ _ _ _ _ _ _ _ hA2 hA' hj h2 ⟨hi, hr⟩ (by rw [nu_drop xt]; exact hn) up2 ⟨?_, ?_⟩
            · intro _ _
              rw [show tok + 1 - 1 = tok by omega]; omega
            · intro x r2 ex hx
              cases ex
              exact absurd hx.1 (by simp)
          · rw [if_neg k20] at h2 hA2
            have k18 : kT t tok = 18 ∧ kT t (tok + 1) = 19 := by omega
            have x1 : xD t dr (tok + 1) = true := by
              unfold xD
              rw [show tok + 1 - 1 = tok by omega, d1, decide_eq_true k18.1, decide_eq_true (show 1 ≤ tok + 1 by omega)]
              simp
            refine ih m2 (by omega) _ _ _ _ _ _ _ _ hA2 hA' hj h2 ⟨hi, hr⟩ (by rw [show tok + 2 = tok + 1 + 1 by omega, nu_drop x1, nu_drop xt]; exact hn) up2 ⟨?_, ?_⟩
            · intro _ _
              rw [show tok + 2 - 1 = tok + 1 by omega]; omega
            · intro x r2 ex hx
              cases ex
              exact absurd hx.1 (by simp)
        · have w1 : yw = 1 → dr tok = false := fun h => by
            cases q : dr tok with
            | false => rfl
            | true => exact absurd ⟨h, q⟩ st0
          have rg := (acc_reg hA e1 h1).1
          have hD : ∀ p, tok ≤ p → p < tok1 → dr p = false := by
            intro p p1 p2
            cases q : dr p with
            | false => rfl
            | true =>
              obtain ⟨ep, h2, hL⟩ := rg p p1 p2 (hM.1 _ q).1
              subst ep
              have := hy.2 _ _ rfl ⟨h2, hL⟩
              rw [this] at q; cases q
          have hX := xD_run (t := t) hy.1 hD
          have le := all_le hA e1
          have hy1 : sY t dr st1 tok1 := by
            refine ⟨?_, ?_⟩
            · intro p1 q
              by_cases c : tok1 = tok
              · subst c; exact hy.1 p1 q
              · rw [hD (tok1 - 1) (by omega) (by omega)] at q; cases q
            · intro x r2 ex hx
              subst ex
              obtain ⟨ew, et⟩ := new_inL hj.1 e1 hx
              rw [et]; exact w1 ew
          have go : sTo t t' dr st1 tok1 sc1 (L1 0) (qStep (kT t') (wT' t') (dT t') ((yw, yd, ya, yb) :: r', n, sc', L')) := by
            by_cases w2 : yw = 2
            · subst w2
              rw [nOuts_n (by decide)] at hu
              exact sim_stat hM hA hA' hj hr (hi.2.2.2 rfl) hn hu hy e1 h1 hX
            · exact sim_oth hM hA hj hr hi hn hu hy w2 w1 e1 h h1 hX
          obtain ⟨st2, n2, sc2, L2, e2, s2, hn2, u2⟩ := go
          have hA2 := all_step hA' e2
          obtain ⟨m', F', tf, sf, o⟩ := ih m0 (by omega) _ _ _ _ _ _ _ _ hA1 hA2 hj1 h1 s2 hn2 u2 hy1
          refine ⟨m' + 1, F', tf, sf, ?_⟩
          rw [qGo, e2]
          exact o
