/-! PURE: the text with what goes taken away: the ELSE; the numbers of TOKENS; the SCOPES -/
def nu (t : List Nat) (dr : Nat → Bool) (p : Nat) : Nat := cnt (fun i => !xD t dr i) p
/-- the TOKENS of t' are those of t that stay -/
def mRl (t t' : List Nat) (dr : Nat → Bool) (F : qL) : Prop := (∀ p, dr p = true → mrk F p ∧ (kT t p = 20 ∨ (kT t p = 18 ∧ kT t (p + 1) = 19))) ∧ (∀ p, p ≤ nT t → xD t dr p = false → kT t' (nu t dr p) = kT t p ∨ (kT t p = 9 ∧ kT t' (nu t dr p) = 8) ∨ (kT t p = 0 ∧ kT t' (nu t dr p) = 1 ∧ mrk6 F p)) ∧ (∀ p, p ≤ nT t → xD t dr p = false → kT t p = 24 → dT t' (nu t dr p) = dT t p)
/-- the first TOKEN behind what goes is no ELSE -/
theorem acc_else {t : List Nat} {F : qL} {dr : Nat → Bool} (hd : ∀ p, dr p = true → mrk F p ∧ (kT t p = 20 ∨ (kT t p = 18 ∧ kT t (p + 1) = 19))) : ∀ (m : Nat) (st : List qI) (tok sc : Nat) (L : qL), qAll t (st, tok, sc, L) → adjS st → qAcc t m (st, tok, sc, L) F → dr tok = true → ∀ q, tok ≤ q → xD t dr q = false → (∀ p, tok ≤ p → p < q → xD t dr p = true) → kT t q ≠ 5 := by
  intro m
  induction m using Nat.strongRecOn with
  | _ m ih =>
    intro st tok sc L hA hj h hdr q hq hx hall
    have hm := (hd tok hdr).1
    cases st with
    | nil =>
      rw [h.nil] at hm
      have := mrk_lt hA hm
      omega
    | cons x r =>
      obtain ⟨w, d, a, b⟩ := x
      obtain ⟨m0, st', tok', sc', L', em, e1, h1⟩ := h.step
      have le := all_le hA e1
      by_cases c : tok' = tok
      · subst c
        exact ih m0 (by omega) st' tok' sc' L' (all_step hA e1) (adj_step hj e1) h1 hdr q hq hx hall
      · obtain ⟨_, w2, hL⟩ := (acc_reg hA e1 h1).1 tok (Nat.le_refl _) (by omega) hm
        subst w2
        obtain ⟨y, r', er, hy⟩ := hj.2.1.2.2 ⟨rfl, hL⟩
        subst er
        obtain ⟨w1, d1, a1, b1⟩ := y
        have hy : w1 = 1 := hy
        subst hy
        have hk := (hd tok hdr).2
        obtain ⟨m2, L2, lt, h2, hA2, _⟩ := acc_goes hA hL hk h
        have ha : a1 = 19 ∨ a1 = 26 := hA2.1.2.2.1.2.2.2.2.2
        have xt : xD t dr tok = true := by unfold xD; rw [hdr]; rfl
        have qn : q ≠ tok := fun e => by rw [e, xt] at hx; cases hx
        have hj2 : adjS ((1, d1, a1, b1) :: r') := hj.tail
        -- the next TOKEN
        have key : ∀ n, tok + (if kT t tok = 20 then 1 else 2) = n → n ≤ q → (1 ≤ n → dr (n - 1) = true → kT t (n - 1) ≠ 18) → kT t q ≠ 5 := by
          intro n hn hnq h18
          have tn : tok ≤ n := by rw [← hn]; split <;> omega
          rw [hn] at h2 hA2
          cases hdn : dr n with
          | true => exact ih m2 lt _ n sc L2 hA2 hj2 h2 hdn q hnq hx (fun p h1 h2 => hall p (by omega) h2)
          | false =>
            have xn := xD_of hdn h18
            have : q = n := by
              by_cases e : q = n
              · exact e
              · have := hall n tn (by omega)
                rw [xn] at this; cases this
            subst this
            intro h5
            exact acc_no5 ha h5 h2
        by_cases k20 : kT t tok = 20
        · refine key (tok + 1) (by rw [if_pos k20]) (by omega) ?_
          intro _ _
          show kT t (tok + 1 - 1) ≠ 18
          rw [show tok + 1 - 1 = tok by omega]; omega
        · have k18 : kT t tok = 18 ∧ kT t (tok + 1) = 19 := by omega
          have x1 : xD t dr (tok + 1) = true := by
            unfold xD
            rw [show tok + 1 - 1 = tok by omega, hdr, decide_eq_true k18.1, decide_eq_true (show 1 ≤ tok + 1 by omega)]
            simp
          have qn1 : q ≠ tok + 1 := fun e => by rw [e, x1] at hx; cases hx
          refine key (tok + 2) (by rw [if_neg k20]) (by omega) ?_
          intro _ _
          show kT t (tok + 2 - 1) ≠ 18
          rw [show tok + 2 - 1 = tok + 1 by omega]; omega
theorem nu_keep {t : List Nat} {dr : Nat → Bool} {p : Nat} (h : xD t dr p = false) : nu t dr (p + 1) = nu t dr p + 1 := by
  unfold nu; rw [cnt, h]; rfl
theorem nu_drop {t : List Nat} {dr : Nat → Bool} {p : Nat} (h : xD t dr p = true) : nu t dr (p + 1) = nu t dr p := by
  unfold nu; rw [cnt, h]; rfl
/-- a row of TOKENS that stay -/
theorem nu_run {t : List Nat} {dr : Nat → Bool} {tok : Nat} : ∀ (j : Nat), (∀ p, tok ≤ p → p < tok + j → xD t dr p = false) → nu t dr (tok + j) = nu t dr tok + j := by
  intro j
  induction j with
  | zero => intro _; rfl
  | succ j ih =>
    intro h
    rw [← Nat.add_assoc, nu_keep (h (tok + j) (by omega) (by omega)), ih (fun p h1 h2 => h p h1 (by omega))]
    omega
theorem xD_run {t : List Nat} {dr : Nat → Bool} {tok tok1 : Nat} (h1 : 1 ≤ tok → dr (tok - 1) = true → kT t (tok - 1) ≠ 18) (h : ∀ p, tok ≤ p → p < tok1 → dr p = false) : ∀ p, tok ≤ p → p < tok1 → xD t dr p = false := by
  intro p hp hp1
  refine xD_of (h p hp hp1) ?_
  intro h1p hd
  by_cases c : p = tok
  · subst c; exact h1 h1p hd
  · rw [h (p - 1) (by omega) (by omega)] at hd; cases hd
/-- is the SCOPE in a fn, or not: alike in both, and so on up -/
def upS : Nat → List qE → Nat → List qE → Nat → Prop
  | 0, l, s, l', s' => ((qg l s).2.2.1 = 0 ↔ (qg l' s').2.2.1 = 0)
  | n + 1, l, s, l', s' => ((qg l s).2.2.1 = 0 ↔ (qg l' s').2.2.1 = 0) ∧ upS n l (qg l s).1 l' (qg l' s').1
theorem upS.fl {n : Nat} {l l' : List qE} {s s' : Nat} (h : upS n l s l' s') : (qg l s).2.2.1 = 0 ↔ (qg l' s').2.2.1 = 0 := by
  cases n with
  | zero => exact h
  | succ n => exact h.1
theorem qSc.par {l : List qE} (h : qSc l) {s : Nat} (hs : s < l.length) : (qg l s).1 < l.length := by
  by_cases c : s = 0
  · subst c; rw [h.2.1]; exact hs
  · have := ((h.level hs).2 c).1; omega
theorem upS.to {l l' l2 l2' : List qE} (h : qSc l) (h' : qSc l') (e : ∀ i, i < l.length → qg l2 i = qg l i) (e' : ∀ i, i < l'.length → qg l2' i = qg l' i) : ∀ {n s s' : Nat}, s < l.length → s' < l'.length → upS n l s l' s' → upS n l2 s l2' s' := by
  intro n
  induction n with
  | zero => intro s s' hs hs' hu; unfold upS; rw [e s hs, e' s' hs']; exact hu
  | succ n ih =>
    intro s s' hs hs' hu
    unfold upS
    rw [e s hs, e' s' hs']
    exact ⟨hu.1, ih (h.par hs) (h'.par hs') hu.2⟩
/-- both enter a SCOPE -/
theorem upS.enter {l l' : List qE} {n s s' fn k k' q q' : Nat} (h : qSc l) (h' : qSc l') (hs : s < l.length) (hs' : s' < l'.length) (hu : upS n l s l' s') : upS (n + 1) (l ++ [(s, fn, if fn = 1 then l.length else (qg l s).2.2.1, k, q)]) l.length (l' ++ [(s', fn, if fn = 1 then l'.length else (qg l' s').2.2.1, k', q')]) l'.length := by
  unfold upS
  rw [qg_eq, qg_eq]
  refine ⟨?_, ?_⟩
  · have a := h.1
    have b := h'.1
    show (if fn = 1 then l.length else (qg l s).2.2.1) = 0 ↔ (if fn = 1 then l'.length else (qg l' s').2.2.1) = 0
    by_cases c : fn = 1
    · rw [if_pos c, if_pos c]; omega
    · rw [if_neg c, if_neg c]; exact hu.fl
  · exact hu.to h h' (fun i hi => qg_lt hi) (fun i hi => qg_lt hi) hs hs'
/-- items that ask for the same -/
def itS (x y : qI) : Prop := y.1 = x.1 ∧ y.2.1 = x.2.1 ∧ (x.1 = 1 ∨ x.1 = 4 ∨ x.1 = 5 → y.2.2.1 = x.2.2.1) ∧ (x.1 = 2 → y.2.2.2 % 2 = x.2.2.2 % 2)
def stS : List qI → List qI → Prop
  | [], [] => True
  | x :: r, y :: r' => itS x y ∧ stS r r'
  | _, _ => False
theorem itS.rfl {x : qI} : itS x x := ⟨_root_.rfl, _root_.rfl, fun _ => _root_.rfl, fun _ => _root_.rfl⟩
theorem itS_w {w d a a' b b' : Nat} (h1 : w ≠ 1) (h2 : w ≠ 2) (h4 : w ≠ 4) (h5 : w ≠ 5) : itS (w, d, a, b) (w, d, a', b') := ⟨_root_.rfl, _root_.rfl, fun h => by have h : w = 1 ∨ w = 4 ∨ w = 5 := h; omega, fun h => absurd h h2⟩
theorem itS_1 {d a b b' : Nat} : itS (1, d, a, b) (1, d, a, b') := ⟨_root_.rfl, _root_.rfl, fun _ => _root_.rfl, fun h => absurd (show 1 = 2 from h) (by decide)⟩
theorem itS_2 {d a a' b b' : Nat} (h : b' % 2 = b % 2) : itS (2, d, a, b) (2, d, a', b') := ⟨_root_.rfl, _root_.rfl, fun h => absurd h (by show ¬ (2 = 1 ∨ 2 = 4 ∨ 2 = 5); decide), fun _ => h⟩
