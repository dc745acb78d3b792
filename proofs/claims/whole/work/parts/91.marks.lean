/-! PURE: the marks of the class are what looks() looks at -/
theorem sMk_A {K : qL} {p r : Nat} {y : Nat × Nat × Nat × Nat} (hr : r < 10) : sMk (qA (10 + r) (p, y) K) = ad true (10 * p + r) (sMk K) := by
  funext x
  unfold sMk ad
  rw [qA_at]
  by_cases c : x % 10 = r
  · rw [if_pos (by rw [c]), List.any_append]
    have : (decide (x = 10 * p + r)) = (p == x / 10) := by
      by_cases d : p = x / 10
      · rw [decide_eq_true (by omega), beq_iff_eq.mpr d]
      · rw [decide_eq_false (by omega)]
        exact (beq_eq_false_iff_ne.mpr d).symm
    simp [this]
  · rw [if_neg (by omega), decide_eq_false (by omega)]
    simp
theorem sMk_If {K : qL} {p r : Nat} {y : Nat × Nat × Nat × Nat} {is : Bool} (hr : r < 10) : sMk (if is = true then qA (10 + r) (p, y) K else K) = ad is (10 * p + r) (sMk K) := by
  cases is with
  | true => rw [if_pos rfl, sMk_A hr]
  | false => rw [if_neg (by decide), ad_false]
theorem sMk_bnd {t : List Nat} {L : qL} : ∀ v, sMk (qBnd t L v) = dU t L (sMk L) v := by
  intro v
  induction v with
  | zero => rfl
  | succ v ih =>
    rw [qBnd, dU, ← ih]
    unfold qBind1 uD
    by_cases c : qBd' t L (qg (L 2) v) < (L 1).length
    · rw [if_pos c, if_pos c]
      have e1 := sMk_If (K := qBnd t L v) (p := (qg (L 2) v).1) (r := 2) (y := (0, 0, 0, 0)) (is := decide ((qg (L 2) v).2.2.1 ≠ 0 ∧ (qg (L 1) (qBd' t L (qg (L 2) v))).2.2.1 = 1)) (by omega)
      rw [← e1]
      have e2 := sMk_If (K := if decide ((qg (L 2) v).2.2.1 ≠ 0 ∧ (qg (L 1) (qBd' t L (qg (L 2) v))).2.2.1 = 1) = true then qA (10 + 2) ((qg (L 2) v).1, 0, 0, 0, 0) (qBnd t L v) else qBnd t L v) (p := (qg (L 2) v).1) (r := 3) (y := (0, 0, 0, 0)) (is := qEarly L (qg (L 2) v) (qBd' t L (qg (L 2) v))) (by omega)
      rw [← e2]
      simp only [decide_eq_true_eq]
    · rw [if_neg c, if_neg c]
      exact sMk_A (r := 0) (by omega)
def dJ (t : List Nat) (L : qL) (D : Nat → Bool) : Nat → Nat → Bool
  | 0 => D
  | i + 1 => ad (qConst L (qWr t L) i) (10 * ((qg (L 1) i).1 - 1) + 7) (tD t L i (dJ t L D i))
theorem sMk_jdg {t : List Nat} {L K : qL} : ∀ n, sMk (qJdg t L (qRd t L) (qWr t L) K n) = dJ t L (sMk K) n := by
  intro n
  induction n with
  | zero => rfl
  | succ n ih =>
    rw [qJdg, dJ, ← ih]
    unfold qJudge1 tD
    dsimp only
    rw [← sMk_If (r := 1) (y := (0, 0, 0, 0)) (by omega), ← sMk_If (r := 4) (y := (0, 0, 0, 0)) (by omega), ← sMk_If (r := 7) (y := (0, 0, 0, 0)) (by omega)]
theorem ad_iff {is : Bool} {c x : Nat} {D : Nat → Bool} : ad is c D x = true ↔ D x = true ∨ (is = true ∧ x = c) := by
  unfold ad
  rw [Bool.or_eq_true, Bool.and_eq_true, decide_eq_true_eq]
theorem dU_iff {t : List Nat} {L : qL} {D : Nat → Bool} {x : Nat} : ∀ v, dU t L D v x = true ↔ D x = true ∨ dU t L (fun _ => false) v x = true := by
  intro v
  induction v with
  | zero => show D x = true ↔ D x = true ∨ false = true; simp
  | succ v ih =>
    rw [dU, dU]
    unfold uD
    split
    · rw [ad_iff, ad_iff, ad_iff, ad_iff, ih, or_assoc, or_assoc, or_assoc]
    · rw [ad_iff, ad_iff, ih, or_assoc]
theorem dT2_iff {t : List Nat} {L : qL} {D : Nat → Bool} {x : Nat} : ∀ v, dT2 t L D v x = true ↔ D x = true ∨ dT2 t L (fun _ => false) v x = true := by
  intro v
  induction v with
  | zero => show D x = true ↔ D x = true ∨ false = true; simp
  | succ v ih =>
    rw [dT2, dT2]
    unfold tD
    rw [ad_iff, ad_iff, ad_iff, ad_iff, ih, or_assoc, or_assoc, or_assoc]
theorem dJ_iff {t : List Nat} {L : qL} {D : Nat → Bool} {x : Nat} : ∀ v, dJ t L D v x = true ↔ (D x = true ∨ dT2 t L (fun _ => false) v x = true) ∨ ∃ i, i < v ∧ qConst L (qWr t L) i = true ∧ x = 10 * ((qg (L 1) i).1 - 1) + 7 := by
  intro v
  induction v with
  | zero => show D x = true ↔ (D x = true ∨ false = true) ∨ _; simp
  | succ v ih =>
    rw [dJ, dT2]
    unfold tD
    rw [ad_iff, ad_iff, ad_iff, ad_iff, ad_iff, ih]
    constructor
    · intro h
      rcases h with (((((h | h) | h) | h) | h) | h)
      · exact .inl (.inl h)
      · exact .inl (.inr (.inl (.inl h)))
      · obtain ⟨i, h1, h2⟩ := h; exact .inr ⟨i, by omega, h2⟩
      · exact .inl (.inr (.inl (.inr h)))
      · exact .inl (.inr (.inr h))
      · exact .inr ⟨v, by omega, h⟩
    · intro h
      rcases h with (h | ((h | h) | h)) | ⟨i, h1, h2⟩
      · exact .inl (.inl (.inl (.inl (.inl h))))
      · exact .inl (.inl (.inl (.inl (.inr h))))
      · exact .inl (.inl (.inr h))
      · exact .inl (.inr h)
      · by_cases e : i = v
        · subst e; exact .inr h2
        · exact .inl (.inl (.inl (.inr ⟨i, by omega, h2⟩)))
theorem dK_iff {r : Nat} {is : Nat → Bool} {l : List qE} {D : Nat → Bool} {x : Nat} : ∀ v, dK r is l D v x = true ↔ D x = true ∨ ∃ k, k < v ∧ is k = true ∧ x = 10 * (qg l k).1 + r := by
  intro v
  induction v with
  | zero => show D x = true ↔ D x = true ∨ _; simp
  | succ v ih =>
    rw [dK, ad_iff, ih]
    constructor
    · intro h
      rcases h with (h | ⟨k, h1, h2⟩) | h
      · exact .inl h
      · exact .inr ⟨k, by omega, h2⟩
      · exact .inr ⟨v, by omega, h⟩
    · intro h
      rcases h with h | ⟨k, h1, h2⟩
      · exact .inl (.inl h)
      · by_cases e : k = v
        · subst e; exact .inr h2
        · exact .inl (.inr ⟨k, by omega, h2⟩)
/-- the marks that the grammar itself has made -/
theorem sMk_iff' {K : qL} {x : Nat} : sMk K x = true ↔ ∃ k, k < (K (10 + x % 10)).length ∧ x = 10 * (qg (K (10 + x % 10)) k).1 + x % 10 := by
  have := sMk_iff (K := K) (p := x / 10) (r := x % 10) (by omega)
  rw [show 10 * (x / 10) + x % 10 = x by omega] at this
  rw [this]
  constructor
  · intro ⟨e, h1, h2⟩
    obtain ⟨k, hk, hq⟩ := qg_of_mem h1
    exact ⟨k, hk, by rw [hq]; omega⟩
  · intro ⟨k, hk, h⟩
    exact ⟨_, qg_mem hk, by omega⟩
theorem dAll_eq {t : List Nat} {tok sc : Nat} {L : qL} (ht : t.length ≤ 160) (h : qRun (kT t) (wT' t) (dT t) = .inr ([], tok, sc, L)) : dAll t L = sMk (qEnd t L) := by
  have hP := q_pg ht h
  have fx := hP.2.2.2.2.2.2
  funext x
  have e : sMk (qEnd t L) = dJ t L (dU t L (sMk L) (L 2).length) (L 1).length := by
    unfold qEnd; rw [sMk_jdg, sMk_bnd]
  rw [e]
  apply Bool.eq_iff_iff.mpr
  unfold dAll dAll7 dAll6 dAll5 dAll4 dAll3 dAll2 dAll1
  rw [dK_iff, dK_iff, dK_iff, dK_iff, dK_iff, dK_iff, dT2_iff, dJ_iff, dU_iff (D := sMk L), sMk_iff']
  have free : ∀ g, qFree g → L g = [] := fun g hg => q_free h hg
  have cf : (∃ i, i < (L 1).length ∧ qConst L (qWr t L) i = true ∧ x = 10 * ((qg (L 1) i).1 - 1) + 7) ↔ (∃ k, k < (L 6).length ∧ isFix t L k = true ∧ x = 10 * (qg (L 6) k).1 + 7) := by
    constructor
    · intro ⟨i, h1, h2, h3⟩
      have h2 := of_decide_eq_true h2
      obtain ⟨e, e1, e2, e3⟩ := fx.2 i h1 h2.1 h2.2.2.1 (by omega)
      obtain ⟨k, hk, hq⟩ := qg_of_mem e1
      refine ⟨k, hk, decide_eq_true ?_, ?_⟩
      · rw [hq, e2]; exact ⟨h2.1, h2.2.2⟩
      · rw [hq]; omega
    · intro ⟨k, h1, h2, h3⟩
      have h2 := of_decide_eq_true h2
      obtain ⟨e1, e2, e3⟩ := fx.1 _ (qg_mem h1)
      have e4 := e3 h2.2.1
      refine ⟨_, e1, decide_eq_true ⟨h2.1, by omega, h2.2⟩, ?_⟩
      rw [e4.1]; omega
  rw [cf]
  have sm : (∃ k, k < (L (10 + x % 10)).length ∧ x = 10 * (qg (L (10 + x % 10)) k).1 + x % 10) ↔ ((∃ k, k < (L 14).length ∧ (fun _ => true) k = true ∧ x = 10 * (qg (L 14) k).1 + 4) ∨ (∃ k, k < (L 15).length ∧ (fun _ => true) k = true ∧ x = 10 * (qg (L 15) k).1 + 5) ∨ (∃ k, k < (L 16).length ∧ (fun _ => true) k = true ∧ x = 10 * (qg (L 16) k).1 + 6) ∨ (∃ k, k < (L 18).length ∧ (fun _ => true) k = true ∧ x = 10 * (qg (L 18) k).1 + 8) ∨ (∃ k, k < (L 19).length ∧ (fun _ => true) k = true ∧ x = 10 * (qg (L 19) k).1 + 9)) := by
    have h10 : x % 10 = 0 ∨ x % 10 = 1 ∨ x % 10 = 2 ∨ x % 10 = 3 ∨ x % 10 = 4 ∨ x % 10 = 5 ∨ x % 10 = 6 ∨ x % 10 = 7 ∨ x % 10 = 8 ∨ x % 10 = 9 := by omega
    constructor
    · intro ⟨k, h1, h2⟩
      rcases h10 with e | e | e | e | e | e | e | e | e | e
      all_goals rw [e] at h1 h2
      · rw [free 10 (.inl rfl)] at h1; exact absurd h1 (by simp)
      · rw [free 11 (.inr (.inl rfl))] at h1; exact absurd h1 (by simp)
      · rw [free 12 (.inr (.inr (.inl rfl)))] at h1; exact absurd h1 (by simp)
      · rw [free 13 (.inr (.inr (.inr (.inl rfl))))] at h1; exact absurd h1 (by simp)
      · exact .inl ⟨k, h1, rfl, h2⟩
      · exact .inr (.inl ⟨k, h1, rfl, h2⟩)
      · exact .inr (.inr (.inl ⟨k, h1, rfl, h2⟩))
      · rw [free 17 (.inr (.inr (.inr (.inr rfl))))] at h1; exact absurd h1 (by simp)
      · exact .inr (.inr (.inr (.inl ⟨k, h1, rfl, h2⟩)))
      · exact .inr (.inr (.inr (.inr ⟨k, h1, rfl, h2⟩)))
    · intro h
      rcases h with ⟨k, h1, _, h2⟩ | ⟨k, h1, _, h2⟩ | ⟨k, h1, _, h2⟩ | ⟨k, h1, _, h2⟩ | ⟨k, h1, _, h2⟩
      · have e : x % 10 = 4 := by omega
        rw [e]; exact ⟨k, h1, h2⟩
      · have e : x % 10 = 5 := by omega
        rw [e]; exact ⟨k, h1, h2⟩
      · have e : x % 10 = 6 := by omega
        rw [e]; exact ⟨k, h1, h2⟩
      · have e : x % 10 = 8 := by omega
        rw [e]; exact ⟨k, h1, h2⟩
      · have e : x % 10 = 9 := by omega
        rw [e]; exact ⟨k, h1, h2⟩
  rw [sm]
  constructor
  · intro h
    rcases h with ((((((h | h) | h) | h) | h) | h) | h) | h
    · exact .inl (.inl (.inr h))
    · exact .inl (.inr h)
    · exact .inl (.inl (.inl (.inl h)))
    · exact .inl (.inl (.inl (.inr (.inl h))))
    · exact .inl (.inl (.inl (.inr (.inr (.inl h)))))
    · exact .inr h
    · exact .inl (.inl (.inl (.inr (.inr (.inr (.inl h))))))
    · exact .inl (.inl (.inl (.inr (.inr (.inr (.inr h))))))
  · intro h
    rcases h with (((h | h | h | h | h) | h) | h) | h
    · exact .inl (.inl (.inl (.inl (.inl (.inr h)))))
    · exact .inl (.inl (.inl (.inl (.inr h))))
    · exact .inl (.inl (.inl (.inr h)))
    · exact .inl (.inr h)
    · exact .inr h
    · exact .inl (.inl (.inl (.inl (.inl (.inl (.inl h))))))
    · exact .inl (.inl (.inl (.inl (.inl (.inl (.inr h))))))
    · exact .inl (.inl (.inr h))
/-- the reference's looks() -/
theorem r_looks {M : xMem} {b : Nat} {on : Nat → Bool} {gv : List (List Nat)} {t : List Nat} {tok sc : Nat} {L : qL} (ht : t.length ≤ 160) (h : qRun (kT t) (wT' t) (dT t) = .inr ([], tok, sc, L)) (hc : nCx M b on gv t L) : ∃ M', f_N_looks b M = some ((), M') ∧ nLk M' b on gv t L (sMk (qEnd t L)) ∧ rF (rFdS b) M M' := by
  have := r_looks0 (q_pg ht h) (q_prog h).2.2.2.1 hc
  rw [dAll_eq ht h] at this
  exact this
/-- the class: FREE marks are NAMES -/
theorem q_10 {t : List Nat} {tok sc : Nat} {L : qL} (ht : t.length ≤ 160) (h : qRun (kT t) (wT' t) (dT t) = .inr ([], tok, sc, L)) : ∀ e, e ∈ (qEnd t L) 10 → kT t e.1 = 23 := by
  intro e he
  have m : sMk (qEnd t L) (10 * e.1 + 0) = true := (sMk_iff (by omega)).mpr ⟨e, he, rfl⟩
  have hP := q_pg ht h
  rw [← dAll_eq ht h] at m
  have m := (dK_mem (by omega) m).resolve_right (fun ⟨_, _, _, m, _⟩ => by omega)
  have m := (dK_mem (by omega) m).resolve_right (fun ⟨_, _, _, m, _⟩ => by omega)
  have m := (dK_mem (by omega) m).resolve_right (fun ⟨_, _, _, m, _⟩ => by omega)
  have m := (dK_mem (by omega) m).resolve_right (fun ⟨_, _, _, m, _⟩ => by omega)
  have m := (dK_mem (by omega) m).resolve_right (fun ⟨_, _, _, m, _⟩ => by omega)
  have m := (dK_mem (by omega) m).resolve_right (fun ⟨_, _, _, m, _⟩ => by omega)
  have m := (dT2_mem m).resolve_right (fun ⟨_, _, _, m⟩ => by omega)
  rcases dU_mem m with m | ⟨u, u1, u2, _⟩
  · cases m
  · rw [(code_mod (by omega)).2] at u2
    rw [u2]; exact (hP.2.1.2.2.2.2.2 u u1).2.1
