/-! the stack stays low, the TOKENS are enough, it ends -/
def qIt (n4 n5 h : Nat) : Nat → Nat → Nat → Nat → Prop
  | 1, d, a, b => h + 2 ≤ 2 * d ∧ b < n5 ∧ (a = 19 ∨ a = 26)
  | 2, d, a, b => h + 1 ≤ 2 * d ∧ a ≤ n5 ∧ b ≤ 3
  | 3, d, _, _ => h + 1 ≤ 2 * d ∧ d ≤ 12
  | 4, _, a, _ => a = 17 ∨ a = 20
  | 5, d, a, _ => h ≤ 2 * d + 2 ∧ a ≤ 1 ∧ (a = 0 → d ≤ 12)
  | 6, d, _, _ => h ≤ 2 * d + 2 ∧ d ≤ 12
  | 7, d, _, _ => d ≤ 12
  | 8, d, _, _ => d ≤ 12
  | 9, _, _, _ => True
  | 10, _, a, _ => a < n4
  | _, _, _, _ => False
def qItem (n4 n5 h : Nat) (x : qI) : Prop := 1 ≤ x.2.1 ∧ x.2.1 ≤ 13 ∧ h ≤ 2 * x.2.1 + 3 ∧ qIt n4 n5 h x.1 x.2.1 x.2.2.1 x.2.2.2
def qSk (n4 n5 : Nat) : List qI → Prop
  | [] => True
  | x :: r => qItem n4 n5 r.length x ∧ qSk n4 n5 r
theorem qIt.mono {n4 n5 m4 m5 h w d a b : Nat} (hx : qIt n4 n5 h w d a b) (h4 : n4 ≤ m4) (h5 : n5 ≤ m5) : qIt m4 m5 h w d a b := by
  unfold qIt at *
  split <;> simp_all <;> omega
theorem qItem.mono {n4 n5 m4 m5 h : Nat} {x : qI} (hx : qItem n4 n5 h x) (h4 : n4 ≤ m4) (h5 : n5 ≤ m5) : qItem m4 m5 h x :=
  ⟨hx.1, hx.2.1, hx.2.2.1, hx.2.2.2.mono h4 h5⟩
theorem qi_1 {n4 n5 h d a b : Nat} (h1 : 1 ≤ d) (h2 : d ≤ 13) (h3 : h + 2 ≤ 2 * d) (h4 : b < n5) (h5 : a = 19 ∨ a = 26) : qItem n4 n5 h (1, d, a, b) := ⟨h1, h2, by show h ≤ 2 * d + 3; omega, h3, h4, h5⟩
theorem qi_2 {n4 n5 h d a b : Nat} (h1 : 1 ≤ d) (h2 : d ≤ 13) (h3 : h + 1 ≤ 2 * d) (h4 : a ≤ n5) (h5 : b ≤ 3) : qItem n4 n5 h (2, d, a, b) := ⟨h1, h2, by show h ≤ 2 * d + 3; omega, h3, h4, h5⟩
theorem qi_3 {n4 n5 h d a b : Nat} (h1 : 1 ≤ d) (h2 : d ≤ 12) (h3 : h + 1 ≤ 2 * d) : qItem n4 n5 h (3, d, a, b) := ⟨h1, by show d ≤ 13; omega, by show h ≤ 2 * d + 3; omega, h3, h2⟩
theorem qi_4 {n4 n5 h d a b : Nat} (h1 : 1 ≤ d) (h2 : d ≤ 13) (h3 : h ≤ 2 * d + 3) (h4 : a = 17 ∨ a = 20) : qItem n4 n5 h (4, d, a, b) := ⟨h1, h2, h3, h4⟩
theorem qi_5 {n4 n5 h d a b : Nat} (h1 : 1 ≤ d) (h2 : d ≤ 13) (h3 : h ≤ 2 * d + 2) (h4 : a ≤ 1) (h5 : a = 0 → d ≤ 12) : qItem n4 n5 h (5, d, a, b) := ⟨h1, h2, by show h ≤ 2 * d + 3; omega, h3, h4, h5⟩
theorem qi_6 {n4 n5 h d a b : Nat} (h1 : 1 ≤ d) (h2 : d ≤ 12) (h3 : h ≤ 2 * d + 2) : qItem n4 n5 h (6, d, a, b) := ⟨h1, by show d ≤ 13; omega, by show h ≤ 2 * d + 3; omega, h3, h2⟩
theorem qi_7 {n4 n5 h d a b : Nat} (h1 : 1 ≤ d) (h2 : d ≤ 12) (h3 : h ≤ 2 * d + 3) : qItem n4 n5 h (7, d, a, b) := ⟨h1, by show d ≤ 13; omega, h3, h2⟩
theorem qi_8 {n4 n5 h d a b : Nat} (h1 : 1 ≤ d) (h2 : d ≤ 12) (h3 : h ≤ 2 * d + 3) : qItem n4 n5 h (8, d, a, b) := ⟨h1, by show d ≤ 13; omega, h3, h2⟩
theorem qi_9 {n4 n5 h d a b : Nat} (h1 : 1 ≤ d) (h2 : d ≤ 13) (h3 : h ≤ 2 * d + 3) : qItem n4 n5 h (9, d, a, b) := ⟨h1, h2, h3, trivial⟩
theorem qi_10 {n4 n5 h d a b : Nat} (h1 : 1 ≤ d) (h2 : d ≤ 13) (h3 : h ≤ 2 * d + 3) (h4 : a < n4) : qItem n4 n5 h (10, d, a, b) := ⟨h1, h2, h3, h4⟩
theorem qSk.mono {n4 n5 m4 m5 : Nat} {st : List qI} (hx : qSk n4 n5 st) (h4 : n4 ≤ m4) (h5 : n5 ≤ m5) : qSk m4 m5 st := by
  induction st with
  | nil => trivial
  | cons x r ih => exact ⟨hx.1.mono h4 h5, ih hx.2⟩
def qWt (w : Nat) : Int := if w = 2 then -1 else if w = 5 then -3 else if w = 7 then -5 else 1
def qPhi : List qI → Int
  | [] => 0
  | x :: r => qWt x.1 + qPhi r
theorem q_wt_ge (w : Nat) : -5 ≤ qWt w := by unfold qWt; repeat' split
                                             all_goals omega
theorem q_phi_ge (st : List qI) : -5 * (st.length : Int) ≤ qPhi st := by
  induction st with
  | nil => simp [qPhi]
  | cons x r ih => have := q_wt_ge x.1; simp only [qPhi, List.length_cons]; omega
theorem q_sk_len {n4 n5 : Nat} {st : List qI} (h : qSk n4 n5 st) : st.length ≤ 30 := by
  cases st with
  | nil => simp
  | cons x r => have h1 := h.1.2.1; have h2 := h.1.2.2.1; simp only [List.length_cons]; omega
/-- a step from (x :: r, tok, L) leads to what is well -/
def qKeep (T : Nat) (st : List qI) (tok : Nat) (L : qL) (c : Nat ⊕ qC) : Prop :=
  (∀ e, c = .inl e → e ≤ T) ∧ (∀ st' tok' sc' L', c = .inr (st', tok', sc', L') → tok' ≤ T ∧ (L 4).length ≤ (L' 4).length ∧ (L 5).length ≤ (L' 5).length ∧ qSk (L' 4).length (L' 5).length st' ∧ qPhi st' - 7 * (tok' : Int) + 1 ≤ qPhi st - 7 * (tok : Int))
theorem qKeep.inl {T tok e : Nat} {st : List qI} {L : qL} (h : e ≤ T) : qKeep T st tok L (.inl e) :=
  ⟨fun _ h' => (by cases h'; exact h), fun _ _ _ _ h' => by cases h'⟩
theorem qKeep.inr {T tok tok' sc' : Nat} {st st' : List qI} {L L' : qL} (h1 : tok' ≤ T) (h2 : (L 4).length ≤ (L' 4).length) (h3 : (L 5).length ≤ (L' 5).length) (h4 : qSk (L' 4).length (L' 5).length st') (h5 : qPhi st' - 7 * (tok' : Int) + 1 ≤ qPhi st - 7 * (tok : Int)) : qKeep T st tok L (.inr (st', tok', sc', L')) :=
  ⟨fun _ h' => (by cases h'), fun _ _ _ _ h' => by cases h'; exact ⟨h1, h2, h3, h4, h5⟩⟩
theorem q_note_4 {a tok k : Nat} {L : qL} : (qNote a tok k L) 4 = L 4 := q_note_at (by decide) (by decide)
theorem q_note_5 {a tok k : Nat} {L : qL} : ((qNote a tok k L) 5).length = (L 5).length := by
  unfold qNote; dsimp only
  split
  · rfl
  · split <;> simp [qA_at, qM_at]
theorem q_dec_4 {wd : Nat → Nat} {tok sort sc : Nat} {L : qL} : (qDecL wd tok sort sc L) 4 = L 4 := q_dec_at (by decide) (by decide)
theorem q_dec_5 {wd : Nat → Nat} {tok sort sc : Nat} {L : qL} : (qDecL wd tok sort sc L) 5 = L 5 := q_dec_at (by decide) (by decide)
theorem q_let_4 {k tok t : Nat} {L : qL} : (qLetL k tok t L) 4 = L 4 := q_let_at (by decide) (by decide)
theorem q_let_5 {k tok t : Nat} {L : qL} : (qLetL k tok t L) 5 = L 5 := q_let_at (by decide) (by decide)
theorem q_open_4 {fn p sc : Nat} {L : qL} : (qOpen fn p sc L) 4 = L 4 := q_open_at (by decide)
theorem q_open_5 {fn p sc : Nat} {L : qL} : (qOpen fn p sc L) 5 = L 5 := q_open_at (by decide)
theorem q_emp_4 {tk : Nat → Nat} {a b tok : Nat} {L : qL} : (qEmpL tk a b tok L) 4 = L 4 := q_emp_at (by decide)
theorem q_emp_5 {tk : Nat → Nat} {a b tok : Nat} {L : qL} : (qEmpL tk a b tok L) 5 = L 5 := q_emp_at (by decide)
theorem q_spa_4 {a b tok : Nat} {L : qL} : (qSpaL a b tok L) 4 = L 4 := q_spa_at (by decide)
theorem q_spa_5 {a b tok : Nat} {L : qL} : (qSpaL a b tok L) 5 = L 5 := q_spa_at (by decide)
theorem q_par_45 {tk wd : Nat → Nat} {sc g : Nat} (hg : g ≠ 1) (hg2 : g ≠ 14) : ∀ (n : Nat) {tok : Nat} {L : qL} {p : Nat} {L' : qL}, qPar tk wd sc n tok L = .inr (p, L') → L' g = L g := by
  intro n
  induction n with
  | zero => intro tok L p L' h; simp [qPar] at h
  | succ n ih =>
    intro tok L p L' h
    rw [qPar] at h
    by_cases e : tk tok ≠ 23
    · rw [if_pos e] at h; cases h
    · rw [if_neg e] at h
      by_cases e2 : n ≠ 0 ∧ tk (tok + 1) = 21
      · rw [if_pos e2] at h
        rw [ih h, q_dec_at hg hg2]
      · rw [if_neg e2] at h
        cases h
        rw [q_dec_at hg hg2]
theorem q_pars_45 {tk wd : Nat → Nat} {sc g : Nat} (hg : g ≠ 1) (hg2 : g ≠ 14) {tok : Nat} {L : qL} {p : Nat} {L' : qL} (h : qPars tk wd sc tok L = .inr (p, L')) : L' g = L g := by
  unfold qPars at h
  split at h
  · cases h; rfl
  · exact q_par_45 hg hg2 4 h
theorem q_par_T {tk wd : Nat → Nat} {sc T : Nat} (hT : ∀ i, i ≤ T → tk i ≤ 25 → i + 1 ≤ T) : ∀ (n : Nat) {tok : Nat} {L : qL}, tok ≤ T → (∀ e, qPar tk wd sc n tok L = .inl e → e ≤ T) ∧ (∀ p L', qPar tk wd sc n tok L = .inr (p, L') → p ≤ T ∧ tok ≤ p) := by
  intro n
  induction n with
  | zero => intro tok L h; refine ⟨?_, ?_⟩ <;> simp [qPar]; exact h
  | succ n ih =>
    intro tok L h
    rw [qPar]
    by_cases e : tk tok ≠ 23
    · rw [if_pos e]; exact ⟨fun _ h' => (by cases h'; exact h), fun _ _ h' => by cases h'⟩
    · rw [if_neg e]
      have h1 := hT tok h (by omega)
      by_cases e2 : n ≠ 0 ∧ tk (tok + 1) = 21
      · rw [if_pos e2]
        have h2 := hT (tok + 1) h1 (by omega)
        obtain ⟨i1, i2⟩ := ih (tok := tok + 2) (L := qDecL wd tok 4 sc L) h2
        exact ⟨i1, fun p L' h' => ⟨(i2 p L' h').1, by have := (i2 p L' h').2; omega⟩⟩
      · rw [if_neg e2]
        exact ⟨fun _ h' => (by cases h'), fun _ _ h' => by cases h'; exact ⟨h1, by omega⟩⟩
theorem q_pars_T {tk wd : Nat → Nat} {sc T : Nat} (hT : ∀ i, i ≤ T → tk i ≤ 25 → i + 1 ≤ T) {tok : Nat} {L : qL} (h : tok ≤ T) : (∀ e, qPars tk wd sc tok L = .inl e → e ≤ T) ∧ (∀ p L', qPars tk wd sc tok L = .inr (p, L') → p ≤ T ∧ tok ≤ p) := by
  unfold qPars
  split
  · exact ⟨fun _ h' => (by cases h'), fun _ _ h' => by cases h'; exact ⟨h, Nat.le_refl _⟩⟩
  · exact q_par_T hT 4 h
theorem keep_stat {tk wd dg : Nat → Nat} {T d a b tok sc : Nat} {r : List qI} {L : qL} (hT : ∀ i, i ≤ T → tk i ≤ 25 → i + 1 ≤ T) (ht : tok ≤ T) (hs : qSk (L 4).length (L 5).length ((2, d, a, b) :: r)) : qKeep T ((2, d, a, b) :: r) tok L (qStat tk wd dg d a b r tok sc L) := by
  obtain ⟨⟨hd1, hd2, hh, hi1, hi2, hi3⟩, hr⟩ := hs
  change 1 ≤ d at hd1
  change d ≤ 13 at hd2
  change r.length + 1 ≤ 2 * d at hi1
  change a ≤ _ at hi2
  change b ≤ 3 at hi3
  clear hh
  unfold qStat
  by_cases c1 : 12 < d ∨ (b % 2 = 1 ∧ tk tok ≤ 3)
  · rw [if_pos c1]; exact .inl ht
  rw [if_neg c1]
  have hd : d ≤ 12 := by omega
  by_cases c2 : tk tok = 22
  · rw [if_pos c2]
    have t1 := hT tok ht (by omega)
    unfold qsExc
    split
    · rename_i c
      have t2 := hT (tok + 1) t1 (by omega)
      refine .inr t2 (by simp [qA_at]) (by simp [qA_at]) ?_ ?_
      · have l4 : ((qA 4 (dg (tok + 1), tok + 2, 0, 0, 0) L) 4).length = (L 4).length + 1 := by rw [qA_s]; simp
        have l5 : ((qA 4 (dg (tok + 1), tok + 2, 0, 0, 0) L) 5).length = (L 5).length := rfl
        rw [l4, l5]
        refine ⟨?_, ?_, hr.mono (by omega) (by omega)⟩
        · (first | exact qi_1 (by omega) (by omega) (by (try simp only [List.length_cons]); omega) (by omega) (by omega) | exact qi_2 (by omega) (by omega) (by (try simp only [List.length_cons]); omega) (by omega) (by omega) | exact qi_3 (by omega) (by omega) (by (try simp only [List.length_cons]); omega) | exact qi_4 (by omega) (by omega) (by (try simp only [List.length_cons]); omega) (by omega) | exact qi_5 (by omega) (by omega) (by (try simp only [List.length_cons]); omega) (by omega) (by omega) | exact qi_6 (by omega) (by omega) (by (try simp only [List.length_cons]); omega) | exact qi_7 (by omega) (by omega) (by (try simp only [List.length_cons]); omega) | exact qi_8 (by omega) (by omega) (by (try simp only [List.length_cons]); omega) | exact qi_9 (by omega) (by omega) (by (try simp only [List.length_cons]); omega) | exact qi_10 (by omega) (by omega) (by (try simp only [List.length_cons]); omega) (by omega))
        · (first | exact qi_1 (by omega) (by omega) (by (try simp only [List.length_cons]); omega) (by omega) (by omega) | exact qi_2 (by omega) (by omega) (by (try simp only [List.length_cons]); omega) (by omega) (by omega) | exact qi_3 (by omega) (by omega) (by (try simp only [List.length_cons]); omega) | exact qi_4 (by omega) (by omega) (by (try simp only [List.length_cons]); omega) (by omega) | exact qi_5 (by omega) (by omega) (by (try simp only [List.length_cons]); omega) (by omega) (by omega) | exact qi_6 (by omega) (by omega) (by (try simp only [List.length_cons]); omega) | exact qi_7 (by omega) (by omega) (by (try simp only [List.length_cons]); omega) | exact qi_8 (by omega) (by omega) (by (try simp only [List.length_cons]); omega) | exact qi_9 (by omega) (by omega) (by (try simp only [List.length_cons]); omega) | exact qi_10 (by omega) (by omega) (by (try simp only [List.length_cons]); omega) (by omega))
      · simp [qPhi, qWt]; omega
    · exact .inl (by omega)
  rw [if_neg c2]
  by_cases c3 : tk tok ≤ 2
  · rw [if_pos c3]
    have t1 := hT tok ht (by omega)
    unfold qsVar
    split
    · exact .inl t1
    have t2 := hT (tok + 1) t1 (by omega)
    split
    · have t3 := hT (tok + 2) t2 (by omega)
      refine .inr t3 (by rw [q_dec_4, q_note_4]; omega) (by rw [q_dec_5, q_note_5]; omega) ?_ ?_
      · rw [q_dec_5, q_note_5, q_dec_4, q_note_4]; exact hr
      · simp [qPhi, qWt]; omega
    split
    · exact .inl t2
    · have t3 := hT (tok + 2) t2 (by omega)
      refine .inr t3 (by rw [q_let_4, q_dec_4, q_note_4]; omega) (by rw [q_let_5, q_dec_5, q_note_5]; omega) ?_ ?_
      · rw [q_let_5, q_let_4, q_dec_5, q_note_5, q_dec_4, q_note_4]
        refine ⟨?_, ?_, hr⟩
        · (first | exact qi_1 (by omega) (by omega) (by (try simp only [List.length_cons]); omega) (by omega) (by omega) | exact qi_2 (by omega) (by omega) (by (try simp only [List.length_cons]); omega) (by omega) (by omega) | exact qi_3 (by omega) (by omega) (by (try simp only [List.length_cons]); omega) | exact qi_4 (by omega) (by omega) (by (try simp only [List.length_cons]); omega) (by omega) | exact qi_5 (by omega) (by omega) (by (try simp only [List.length_cons]); omega) (by omega) (by omega) | exact qi_6 (by omega) (by omega) (by (try simp only [List.length_cons]); omega) | exact qi_7 (by omega) (by omega) (by (try simp only [List.length_cons]); omega) | exact qi_8 (by omega) (by omega) (by (try simp only [List.length_cons]); omega) | exact qi_9 (by omega) (by omega) (by (try simp only [List.length_cons]); omega) | exact qi_10 (by omega) (by omega) (by (try simp only [List.length_cons]); omega) (by omega))
        · (first | exact qi_1 (by omega) (by omega) (by (try simp only [List.length_cons]); omega) (by omega) (by omega) | exact qi_2 (by omega) (by omega) (by (try simp only [List.length_cons]); omega) (by omega) (by omega) | exact qi_3 (by omega) (by omega) (by (try simp only [List.length_cons]); omega) | exact qi_4 (by omega) (by omega) (by (try simp only [List.length_cons]); omega) (by omega) | exact qi_5 (by omega) (by omega) (by (try simp only [List.length_cons]); omega) (by omega) (by omega) | exact qi_6 (by omega) (by omega) (by (try simp only [List.length_cons]); omega) | exact qi_7 (by omega) (by omega) (by (try simp only [List.length_cons]); omega) | exact qi_8 (by omega) (by omega) (by (try simp only [List.length_cons]); omega) | exact qi_9 (by omega) (by omega) (by (try simp only [List.length_cons]); omega) | exact qi_10 (by omega) (by omega) (by (try simp only [List.length_cons]); omega) (by omega))
      · simp [qPhi, qWt]; omega
  rw [if_neg c3]
  by_cases c4 : tk tok = 3
  · rw [if_pos c4]
    have t1 := hT tok ht (by omega)
    unfold qsFn
    split
    · exact .inl t1
    have t2 := hT (tok + 1) t1 (by omega)
    split
    · exact .inl t2
    have t3 := hT (tok + 2) t2 (by omega)
    have hP := q_pars_T (wd := wd) (sc := ((qDecL wd (tok + 1) 3 sc (qNote a tok (tk tok) L)) 0).length) (L := qOpen 1 (tok + 1) sc (qDecL wd (tok + 1) 3 sc (qNote a tok (tk tok) L))) hT t3
    cases e : qPars tk wd ((qDecL wd (tok + 1) 3 sc (qNote a tok (tk tok) L)) 0).length (tok + 3) (qOpen 1 (tok + 1) sc (qDecL wd (tok + 1) 3 sc (qNote a tok (tk tok) L))) with
    | inl e' => exact .inl (hP.1 _ e)
    | inr x =>
      obtain ⟨p, L4⟩ := x
      have hp := hP.2 _ _ e
      have f4 := q_pars_45 (g := 4) (by decide) (by decide) e
      have f5 := q_pars_45 (g := 5) (by decide) (by decide) e
      rw [q_open_4, q_dec_4, q_note_4] at f4
      rw [q_open_5, q_dec_5] at f5
      have f5' : (L4 5).length = (L 5).length := by rw [f5, q_note_5]
      unfold qsBody qList
      dsimp only
      split
      · exact .inl hp.1
      have t4 := hT p hp.1 (by omega)
      split
      · exact .inl t4
      · have t5 := hT (p + 1) t4 (by omega)
        have l4 : ((qA 5 (0, tok + 1, 0, 0, 0) L4) 4).length = (L 4).length := by rw [qA_n _ _ (by decide), f4]
        have l5 : ((qA 5 (0, tok + 1, 0, 0, 0) L4) 5).length = (L 5).length + 1 := by rw [qA_s, List.length_append, f5']; rfl
        refine .inr t5 (by omega) (by omega) ?_ ?_
        · rw [l4, l5]
          refine ⟨?_, ?_, hr.mono (by omega) (by omega)⟩
          · (first | exact qi_1 (by omega) (by omega) (by (try simp only [List.length_cons]); omega) (by omega) (by omega) | exact qi_2 (by omega) (by omega) (by (try simp only [List.length_cons]); omega) (by omega) (by omega) | exact qi_3 (by omega) (by omega) (by (try simp only [List.length_cons]); omega) | exact qi_4 (by omega) (by omega) (by (try simp only [List.length_cons]); omega) (by omega) | exact qi_5 (by omega) (by omega) (by (try simp only [List.length_cons]); omega) (by omega) (by omega) | exact qi_6 (by omega) (by omega) (by (try simp only [List.length_cons]); omega) | exact qi_7 (by omega) (by omega) (by (try simp only [List.length_cons]); omega) | exact qi_8 (by omega) (by omega) (by (try simp only [List.length_cons]); omega) | exact qi_9 (by omega) (by omega) (by (try simp only [List.length_cons]); omega) | exact qi_10 (by omega) (by omega) (by (try simp only [List.length_cons]); omega) (by omega))
          · (first | exact qi_1 (by omega) (by omega) (by (try simp only [List.length_cons]); omega) (by omega) (by omega) | exact qi_2 (by omega) (by omega) (by (try simp only [List.length_cons]); omega) (by omega) (by omega) | exact qi_3 (by omega) (by omega) (by (try simp only [List.length_cons]); omega) | exact qi_4 (by omega) (by omega) (by (try simp only [List.length_cons]); omega) (by omega) | exact qi_5 (by omega) (by omega) (by (try simp only [List.length_cons]); omega) (by omega) (by omega) | exact qi_6 (by omega) (by omega) (by (try simp only [List.length_cons]); omega) | exact qi_7 (by omega) (by omega) (by (try simp only [List.length_cons]); omega) | exact qi_8 (by omega) (by omega) (by (try simp only [List.length_cons]); omega) | exact qi_9 (by omega) (by omega) (by (try simp only [List.length_cons]); omega) | exact qi_10 (by omega) (by omega) (by (try simp only [List.length_cons]); omega) (by omega))
        · simp [qPhi, qWt]; omega
  rw [if_neg c4]
  by_cases c5 : tk tok = 18
  · rw [if_pos c5]
    have t1 := hT tok ht (by omega)
    have l4 : ((qA 5 (0, tok + 1, 0, 0, 0) (qEmpL tk a b tok (qOpen 0 (tok + 1) sc (qNote a tok (tk tok) L)))) 4).length = (L 4).length := by rw [qA_n _ _ (by decide), q_emp_4, q_open_4, q_note_4]
    have e5 : ((qEmpL tk a b tok (qOpen 0 (tok + 1) sc (qNote a tok (tk tok) L))) 5).length = (L 5).length := by rw [q_emp_5, q_open_5, q_note_5]
    have l5 : ((qA 5 (0, tok + 1, 0, 0, 0) (qEmpL tk a b tok (qOpen 0 (tok + 1) sc (qNote a tok (tk tok) L)))) 5).length = (L 5).length + 1 := by rw [qA_s, List.length_append, e5]; rfl
    unfold qsBlk qList
    refine .inr t1 (by omega) (by omega) ?_ ?_
    · rw [l4, l5]
      refine ⟨?_, ?_, hr.mono (by omega) (by omega)⟩
      · (first | exact qi_1 (by omega) (by omega) (by (try simp only [List.length_cons]); omega) (by omega) (by omega) | exact qi_2 (by omega) (by omega) (by (try simp only [List.length_cons]); omega) (by omega) (by omega) | exact qi_3 (by omega) (by omega) (by (try simp only [List.length_cons]); omega) | exact qi_4 (by omega) (by omega) (by (try simp only [List.length_cons]); omega) (by omega) | exact qi_5 (by omega) (by omega) (by (try simp only [List.length_cons]); omega) (by omega) (by omega) | exact qi_6 (by omega) (by omega) (by (try simp only [List.length_cons]); omega) | exact qi_7 (by omega) (by omega) (by (try simp only [List.length_cons]); omega) | exact qi_8 (by omega) (by omega) (by (try simp only [List.length_cons]); omega) | exact qi_9 (by omega) (by omega) (by (try simp only [List.length_cons]); omega) | exact qi_10 (by omega) (by omega) (by (try simp only [List.length_cons]); omega) (by omega))
      · (first | exact qi_1 (by omega) (by omega) (by (try simp only [List.length_cons]); omega) (by omega) (by omega) | exact qi_2 (by omega) (by omega) (by (try simp only [List.length_cons]); omega) (by omega) (by omega) | exact qi_3 (by omega) (by omega) (by (try simp only [List.length_cons]); omega) | exact qi_4 (by omega) (by omega) (by (try simp only [List.length_cons]); omega) (by omega) | exact qi_5 (by omega) (by omega) (by (try simp only [List.length_cons]); omega) (by omega) (by omega) | exact qi_6 (by omega) (by omega) (by (try simp only [List.length_cons]); omega) | exact qi_7 (by omega) (by omega) (by (try simp only [List.length_cons]); omega) | exact qi_8 (by omega) (by omega) (by (try simp only [List.length_cons]); omega) | exact qi_9 (by omega) (by omega) (by (try simp only [List.length_cons]); omega) | exact qi_10 (by omega) (by omega) (by (try simp only [List.length_cons]); omega) (by omega))
    · simp [qPhi, qWt]; omega
  rw [if_neg c5]
  by_cases c6 : tk tok = 4 ∨ tk tok = 6
  · rw [if_pos c6]
    have t1 := hT tok ht (by omega)
    unfold qsIf
    split
    · exact .inl t1
    · have t2 := hT (tok + 1) t1 (by omega)
      refine .inr t2 (by rw [q_note_4]; omega) (by rw [q_note_5]; omega) ?_ ?_
      · rw [q_note_4, q_note_5]
        split
        · refine ⟨?_, ?_, ?_, ?_, hr⟩ <;> (first | exact qi_1 (by omega) (by omega) (by (try simp only [List.length_cons]); omega) (by omega) (by omega) | exact qi_2 (by omega) (by omega) (by (try simp only [List.length_cons]); omega) (by omega) (by omega) | exact qi_3 (by omega) (by omega) (by (try simp only [List.length_cons]); omega) | exact qi_4 (by omega) (by omega) (by (try simp only [List.length_cons]); omega) (by omega) | exact qi_5 (by omega) (by omega) (by (try simp only [List.length_cons]); omega) (by omega) (by omega) | exact qi_6 (by omega) (by omega) (by (try simp only [List.length_cons]); omega) | exact qi_7 (by omega) (by omega) (by (try simp only [List.length_cons]); omega) | exact qi_8 (by omega) (by omega) (by (try simp only [List.length_cons]); omega) | exact qi_9 (by omega) (by omega) (by (try simp only [List.length_cons]); omega) | exact qi_10 (by omega) (by omega) (by (try simp only [List.length_cons]); omega) (by omega))
        · refine ⟨?_, ?_, ?_, hr⟩ <;> (first | exact qi_1 (by omega) (by omega) (by (try simp only [List.length_cons]); omega) (by omega) (by omega) | exact qi_2 (by omega) (by omega) (by (try simp only [List.length_cons]); omega) (by omega) (by omega) | exact qi_3 (by omega) (by omega) (by (try simp only [List.length_cons]); omega) | exact qi_4 (by omega) (by omega) (by (try simp only [List.length_cons]); omega) (by omega) | exact qi_5 (by omega) (by omega) (by (try simp only [List.length_cons]); omega) (by omega) (by omega) | exact qi_6 (by omega) (by omega) (by (try simp only [List.length_cons]); omega) | exact qi_7 (by omega) (by omega) (by (try simp only [List.length_cons]); omega) | exact qi_8 (by omega) (by omega) (by (try simp only [List.length_cons]); omega) | exact qi_9 (by omega) (by omega) (by (try simp only [List.length_cons]); omega) | exact qi_10 (by omega) (by omega) (by (try simp only [List.length_cons]); omega) (by omega))
      · split <;> simp [qPhi, qWt] <;> omega
  rw [if_neg c6]
  by_cases c7 : tk tok = 7
  · rw [if_pos c7]
    have t1 := hT tok ht (by omega)
    unfold qsRet
    split
    · exact .inl ht
    split
    · have t2 := hT (tok + 1) t1 (by omega)
      refine .inr t2 (by rw [q_note_4]; omega) (by rw [q_note_5]; omega) ?_ ?_
      · rw [q_note_4, q_note_5]; exact hr
      · simp [qPhi, qWt]; omega
    · refine .inr t1 (by rw [q_note_4]; omega) (by rw [q_note_5]; omega) ?_ ?_
      · rw [q_note_4, q_note_5]
        refine ⟨?_, ?_, hr⟩ <;> (first | exact qi_1 (by omega) (by omega) (by (try simp only [List.length_cons]); omega) (by omega) (by omega) | exact qi_2 (by omega) (by omega) (by (try simp only [List.length_cons]); omega) (by omega) (by omega) | exact qi_3 (by omega) (by omega) (by (try simp only [List.length_cons]); omega) | exact qi_4 (by omega) (by omega) (by (try simp only [List.length_cons]); omega) (by omega) | exact qi_5 (by omega) (by omega) (by (try simp only [List.length_cons]); omega) (by omega) (by omega) | exact qi_6 (by omega) (by omega) (by (try simp only [List.length_cons]); omega) | exact qi_7 (by omega) (by omega) (by (try simp only [List.length_cons]); omega) | exact qi_8 (by omega) (by omega) (by (try simp only [List.length_cons]); omega) | exact qi_9 (by omega) (by omega) (by (try simp only [List.length_cons]); omega) | exact qi_10 (by omega) (by omega) (by (try simp only [List.length_cons]); omega) (by omega))
      · simp [qPhi, qWt]; omega
  rw [if_neg c7]
  by_cases c8 : tk tok = 20
  · rw [if_pos c8]
    have t1 := hT tok ht (by omega)
    refine .inr t1 (by rw [q_spa_4, q_note_4]; omega) (by rw [q_spa_5, q_note_5]; omega) ?_ ?_
    · rw [q_spa_4, q_spa_5, q_note_4, q_note_5]; exact hr
    · simp [qPhi, qWt]; omega
  · rw [if_neg c8]
    refine .inr ht (by rw [q_note_4]; omega) (by rw [q_note_5]; omega) ?_ ?_
    · rw [q_note_4, q_note_5]
      refine ⟨?_, ?_, hr⟩ <;> (first | exact qi_1 (by omega) (by omega) (by (try simp only [List.length_cons]); omega) (by omega) (by omega) | exact qi_2 (by omega) (by omega) (by (try simp only [List.length_cons]); omega) (by omega) (by omega) | exact qi_3 (by omega) (by omega) (by (try simp only [List.length_cons]); omega) | exact qi_4 (by omega) (by omega) (by (try simp only [List.length_cons]); omega) (by omega) | exact qi_5 (by omega) (by omega) (by (try simp only [List.length_cons]); omega) (by omega) (by omega) | exact qi_6 (by omega) (by omega) (by (try simp only [List.length_cons]); omega) | exact qi_7 (by omega) (by omega) (by (try simp only [List.length_cons]); omega) | exact qi_8 (by omega) (by omega) (by (try simp only [List.length_cons]); omega) | exact qi_9 (by omega) (by omega) (by (try simp only [List.length_cons]); omega) | exact qi_10 (by omega) (by omega) (by (try simp only [List.length_cons]); omega) (by omega))
    · simp [qPhi, qWt]; omega
theorem keep_step {tk wd dg : Nat → Nat} {T tok sc : Nat} {x : qI} {r : List qI} {L : qL} (hT : ∀ i, i ≤ T → tk i ≤ 25 → i + 1 ≤ T) (ht : tok ≤ T) (hs : qSk (L 4).length (L 5).length (x :: r)) : qKeep T (x :: r) tok L (qStep tk wd dg (x :: r, tok, sc, L)) := by
  obtain ⟨w, d, a, b⟩ := x
  have hs' := hs
  obtain ⟨⟨hd1, hd2, hh, hi⟩, hr⟩ := hs'
  change 1 ≤ d at hd1
  change d ≤ 13 at hd2
  change r.length ≤ 2 * d + 3 at hh
  change qIt _ _ _ w d a b at hi
  unfold qStep
  dsimp only
  by_cases c1 : w = 1
  · rw [if_pos c1]; unfold qLst; subst c1
    have hi' : r.length + 2 ≤ 2 * d ∧ b < (L 5).length ∧ (a = 19 ∨ a = 26) := hi
    split
    · refine .inr ht (Nat.le_refl _) (Nat.le_refl _) ?_ ?_
      · refine ⟨?_, ?_, hr⟩ <;> (first | exact qi_1 (by omega) (by omega) (by (try simp only [List.length_cons]); omega) (by omega) (by omega) | exact qi_2 (by omega) (by omega) (by (try simp only [List.length_cons]); omega) (by omega) (by omega) | exact qi_3 (by omega) (by omega) (by (try simp only [List.length_cons]); omega) | exact qi_4 (by omega) (by omega) (by (try simp only [List.length_cons]); omega) (by omega) | exact qi_5 (by omega) (by omega) (by (try simp only [List.length_cons]); omega) (by omega) (by omega) | exact qi_6 (by omega) (by omega) (by (try simp only [List.length_cons]); omega) | exact qi_7 (by omega) (by omega) (by (try simp only [List.length_cons]); omega) | exact qi_8 (by omega) (by omega) (by (try simp only [List.length_cons]); omega) | exact qi_9 (by omega) (by omega) (by (try simp only [List.length_cons]); omega) | exact qi_10 (by omega) (by omega) (by (try simp only [List.length_cons]); omega) (by omega))
      · simp [qPhi, qWt]; omega
    · rename_i c
      split
      · have t1 := hT tok ht (by omega)
        refine .inr t1 (Nat.le_refl _) (Nat.le_refl _) hr ?_
        simp [qPhi, qWt]; omega
      · refine .inr ht (Nat.le_refl _) (Nat.le_refl _) hr ?_
        simp [qPhi, qWt]; omega
  rw [if_neg c1]
  by_cases c2 : w = 2
  · rw [if_pos c2]; subst c2; exact keep_stat hT ht hs
  rw [if_neg c2]
  by_cases c3 : w = 3
  · rw [if_pos c3]; unfold qOth; subst c3
    have hi' : r.length + 1 ≤ 2 * d ∧ d ≤ 12 := hi
    split
    · have t1 := hT tok ht (by omega)
      refine .inr t1 (Nat.le_refl _) (Nat.le_refl _) ?_ ?_
      · refine ⟨?_, hr⟩; (first | exact qi_1 (by omega) (by omega) (by (try simp only [List.length_cons]); omega) (by omega) (by omega) | exact qi_2 (by omega) (by omega) (by (try simp only [List.length_cons]); omega) (by omega) (by omega) | exact qi_3 (by omega) (by omega) (by (try simp only [List.length_cons]); omega) | exact qi_4 (by omega) (by omega) (by (try simp only [List.length_cons]); omega) (by omega) | exact qi_5 (by omega) (by omega) (by (try simp only [List.length_cons]); omega) (by omega) (by omega) | exact qi_6 (by omega) (by omega) (by (try simp only [List.length_cons]); omega) | exact qi_7 (by omega) (by omega) (by (try simp only [List.length_cons]); omega) | exact qi_8 (by omega) (by omega) (by (try simp only [List.length_cons]); omega) | exact qi_9 (by omega) (by omega) (by (try simp only [List.length_cons]); omega) | exact qi_10 (by omega) (by omega) (by (try simp only [List.length_cons]); omega) (by omega))
      · simp [qPhi, qWt]; omega
    · refine .inr ht (Nat.le_refl _) (Nat.le_refl _) hr ?_
      simp [qPhi, qWt]; omega
  rw [if_neg c3]
  by_cases c4 : w = 4
  · rw [if_pos c4]; unfold qOne; subst c4
    have hi' : a = 17 ∨ a = 20 := hi
    split
    · have t1 := hT tok ht (by omega)
      refine .inr t1 (Nat.le_refl _) (Nat.le_refl _) hr ?_
      simp [qPhi, qWt]; omega
    · exact .inl ht
  rw [if_neg c4]
  by_cases c5 : w = 5
  · rw [if_pos c5]; unfold qVal; subst c5
    have hi' : r.length ≤ 2 * d + 2 ∧ a ≤ 1 ∧ (a = 0 → d ≤ 12) := hi
    split
    · exact .inl ht
    split
    · have t1 := hT tok ht (by omega)
      have t2 := hT (tok + 1) t1 (by omega)
      refine .inr t2 (by simp [qA_at]) (by simp [qA_at]) ?_ ?_
      · refine ⟨?_, hr⟩; (first | exact qi_1 (by omega) (by omega) (by (try simp only [List.length_cons]); omega) (by omega) (by omega) | exact qi_2 (by omega) (by omega) (by (try simp only [List.length_cons]); omega) (by omega) (by omega) | exact qi_3 (by omega) (by omega) (by (try simp only [List.length_cons]); omega) | exact qi_4 (by omega) (by omega) (by (try simp only [List.length_cons]); omega) (by omega) | exact qi_5 (by omega) (by omega) (by (try simp only [List.length_cons]); omega) (by omega) (by omega) | exact qi_6 (by omega) (by omega) (by (try simp only [List.length_cons]); omega) | exact qi_7 (by omega) (by omega) (by (try simp only [List.length_cons]); omega) | exact qi_8 (by omega) (by omega) (by (try simp only [List.length_cons]); omega) | exact qi_9 (by omega) (by omega) (by (try simp only [List.length_cons]); omega) | exact qi_10 (by omega) (by omega) (by (try simp only [List.length_cons]); omega) (by omega))
      · simp [qPhi, qWt]; omega
    · refine .inr ht (Nat.le_refl _) (Nat.le_refl _) ?_ ?_
      · refine ⟨?_, ?_, hr⟩ <;> (first | exact qi_1 (by omega) (by omega) (by (try simp only [List.length_cons]); omega) (by omega) (by omega) | exact qi_2 (by omega) (by omega) (by (try simp only [List.length_cons]); omega) (by omega) (by omega) | exact qi_3 (by omega) (by omega) (by (try simp only [List.length_cons]); omega) | exact qi_4 (by omega) (by omega) (by (try simp only [List.length_cons]); omega) (by omega) | exact qi_5 (by omega) (by omega) (by (try simp only [List.length_cons]); omega) (by omega) (by omega) | exact qi_6 (by omega) (by omega) (by (try simp only [List.length_cons]); omega) | exact qi_7 (by omega) (by omega) (by (try simp only [List.length_cons]); omega) | exact qi_8 (by omega) (by omega) (by (try simp only [List.length_cons]); omega) | exact qi_9 (by omega) (by omega) (by (try simp only [List.length_cons]); omega) | exact qi_10 (by omega) (by omega) (by (try simp only [List.length_cons]); omega) (by omega))
      · simp [qPhi, qWt]; omega
  rw [if_neg c5]
  by_cases c6 : w = 6
  · rw [if_pos c6]; unfold qMore; subst c6
    have hi' : r.length ≤ 2 * d + 2 ∧ d ≤ 12 := hi
    split
    · rename_i c
      have t1 := hT tok ht (by unfold qJoin at c; simp at c; omega)
      have l4 : ((if tk tok = 9 then qA 16 (tok, 0, 0, 0, 0) L else L) 4) = L 4 := by split <;> rfl
      have l5 : ((if tk tok = 9 then qA 16 (tok, 0, 0, 0, 0) L else L) 5) = L 5 := by split <;> rfl
      refine .inr t1 (by rw [l4]; omega) (by rw [l5]; omega) ?_ ?_
      · rw [l4, l5]; refine ⟨?_, ?_, hr⟩ <;> (first | exact qi_1 (by omega) (by omega) (by (try simp only [List.length_cons]); omega) (by omega) (by omega) | exact qi_2 (by omega) (by omega) (by (try simp only [List.length_cons]); omega) (by omega) (by omega) | exact qi_3 (by omega) (by omega) (by (try simp only [List.length_cons]); omega) | exact qi_4 (by omega) (by omega) (by (try simp only [List.length_cons]); omega) (by omega) | exact qi_5 (by omega) (by omega) (by (try simp only [List.length_cons]); omega) (by omega) (by omega) | exact qi_6 (by omega) (by omega) (by (try simp only [List.length_cons]); omega) | exact qi_7 (by omega) (by omega) (by (try simp only [List.length_cons]); omega) | exact qi_8 (by omega) (by omega) (by (try simp only [List.length_cons]); omega) | exact qi_9 (by omega) (by omega) (by (try simp only [List.length_cons]); omega) | exact qi_10 (by omega) (by omega) (by (try simp only [List.length_cons]); omega) (by omega))
      · simp [qPhi, qWt]; omega
    · refine .inr ht (Nat.le_refl _) (Nat.le_refl _) hr ?_
      simp [qPhi, qWt]; omega
  rw [if_neg c6]
  by_cases c7 : w = 7
  · rw [if_pos c7]; unfold qPart; subst c7
    have hi' : d ≤ 12 := hi
    split
    · have t1 := hT tok ht (by omega)
      refine .inr t1 (Nat.le_refl _) (Nat.le_refl _) hr ?_
      simp [qPhi, qWt]; omega
    split
    · have t1 := hT tok ht (by omega)
      split
      · refine .inr t1 (Nat.le_refl _) (Nat.le_refl _) hr ?_
        simp [qPhi, qWt]; omega
      have t2 := hT (tok + 1) t1 (by omega)
      split
      · have t3 := hT (tok + 2) t2 (by omega)
        refine .inr t3 (Nat.le_refl _) (Nat.le_refl _) hr ?_
        simp [qPhi, qWt]; omega
      · refine .inr t2 (Nat.le_refl _) (Nat.le_refl _) ?_ ?_
        · refine ⟨?_, ?_, hr⟩ <;> (first | exact qi_1 (by omega) (by omega) (by (try simp only [List.length_cons]); omega) (by omega) (by omega) | exact qi_2 (by omega) (by omega) (by (try simp only [List.length_cons]); omega) (by omega) (by omega) | exact qi_3 (by omega) (by omega) (by (try simp only [List.length_cons]); omega) | exact qi_4 (by omega) (by omega) (by (try simp only [List.length_cons]); omega) (by omega) | exact qi_5 (by omega) (by omega) (by (try simp only [List.length_cons]); omega) (by omega) (by omega) | exact qi_6 (by omega) (by omega) (by (try simp only [List.length_cons]); omega) | exact qi_7 (by omega) (by omega) (by (try simp only [List.length_cons]); omega) | exact qi_8 (by omega) (by omega) (by (try simp only [List.length_cons]); omega) | exact qi_9 (by omega) (by omega) (by (try simp only [List.length_cons]); omega) | exact qi_10 (by omega) (by omega) (by (try simp only [List.length_cons]); omega) (by omega))
        · simp [qPhi, qWt]; omega
    split
    · have t1 := hT tok ht (by omega)
      split
      · exact .inl ht
      · refine .inr t1 (Nat.le_refl _) (Nat.le_refl _) ?_ ?_
        · refine ⟨?_, hr⟩; (first | exact qi_1 (by omega) (by omega) (by (try simp only [List.length_cons]); omega) (by omega) (by omega) | exact qi_2 (by omega) (by omega) (by (try simp only [List.length_cons]); omega) (by omega) (by omega) | exact qi_3 (by omega) (by omega) (by (try simp only [List.length_cons]); omega) | exact qi_4 (by omega) (by omega) (by (try simp only [List.length_cons]); omega) (by omega) | exact qi_5 (by omega) (by omega) (by (try simp only [List.length_cons]); omega) (by omega) (by omega) | exact qi_6 (by omega) (by omega) (by (try simp only [List.length_cons]); omega) | exact qi_7 (by omega) (by omega) (by (try simp only [List.length_cons]); omega) | exact qi_8 (by omega) (by omega) (by (try simp only [List.length_cons]); omega) | exact qi_9 (by omega) (by omega) (by (try simp only [List.length_cons]); omega) | exact qi_10 (by omega) (by omega) (by (try simp only [List.length_cons]); omega) (by omega))
        · simp [qPhi, qWt]; omega
    split
    · have t1 := hT tok ht (by omega)
      split
      · exact .inl ht
      · refine .inr t1 (Nat.le_refl _) (Nat.le_refl _) ?_ ?_
        · refine ⟨?_, ?_, hr⟩ <;> (first | exact qi_1 (by omega) (by omega) (by (try simp only [List.length_cons]); omega) (by omega) (by omega) | exact qi_2 (by omega) (by omega) (by (try simp only [List.length_cons]); omega) (by omega) (by omega) | exact qi_3 (by omega) (by omega) (by (try simp only [List.length_cons]); omega) | exact qi_4 (by omega) (by omega) (by (try simp only [List.length_cons]); omega) (by omega) | exact qi_5 (by omega) (by omega) (by (try simp only [List.length_cons]); omega) (by omega) (by omega) | exact qi_6 (by omega) (by omega) (by (try simp only [List.length_cons]); omega) | exact qi_7 (by omega) (by omega) (by (try simp only [List.length_cons]); omega) | exact qi_8 (by omega) (by omega) (by (try simp only [List.length_cons]); omega) | exact qi_9 (by omega) (by omega) (by (try simp only [List.length_cons]); omega) | exact qi_10 (by omega) (by omega) (by (try simp only [List.length_cons]); omega) (by omega))
        · simp [qPhi, qWt]; omega
    · exact .inl ht
  rw [if_neg c7]
  by_cases c8 : w = 8
  · rw [if_pos c8]; unfold qRest; subst c8
    have hi' : d ≤ 12 := hi
    split
    · have t1 := hT tok ht (by omega)
      refine .inr t1 (Nat.le_refl _) (Nat.le_refl _) ?_ ?_
      · refine ⟨?_, ?_, hr⟩ <;> (first | exact qi_1 (by omega) (by omega) (by (try simp only [List.length_cons]); omega) (by omega) (by omega) | exact qi_2 (by omega) (by omega) (by (try simp only [List.length_cons]); omega) (by omega) (by omega) | exact qi_3 (by omega) (by omega) (by (try simp only [List.length_cons]); omega) | exact qi_4 (by omega) (by omega) (by (try simp only [List.length_cons]); omega) (by omega) | exact qi_5 (by omega) (by omega) (by (try simp only [List.length_cons]); omega) (by omega) (by omega) | exact qi_6 (by omega) (by omega) (by (try simp only [List.length_cons]); omega) | exact qi_7 (by omega) (by omega) (by (try simp only [List.length_cons]); omega) | exact qi_8 (by omega) (by omega) (by (try simp only [List.length_cons]); omega) | exact qi_9 (by omega) (by omega) (by (try simp only [List.length_cons]); omega) | exact qi_10 (by omega) (by omega) (by (try simp only [List.length_cons]); omega) (by omega))
      · simp [qPhi, qWt]; omega
    split
    · have t1 := hT tok ht (by omega)
      refine .inr t1 (Nat.le_refl _) (Nat.le_refl _) hr ?_
      simp [qPhi, qWt]; omega
    · exact .inl ht
  rw [if_neg c8]
  have hw : qWt w = 1 := by unfold qWt; simp [c2, c5, c7]
  by_cases c9 : w = 9
  · rw [if_pos c9]
    refine .inr ht (Nat.le_refl _) (Nat.le_refl _) hr ?_
    simp [qPhi, hw]; omega
  rw [if_neg c9]
  refine .inr ht (by simp [qM_at]) (by simp [qM_at]) ?_ ?_
  · have e4 : ((qM 4 a (fun e => (e.1, e.2.1, tok, e.2.2.2)) L) 4).length = (L 4).length := by simp [qM_at]
    have e5 : ((qM 4 a (fun e => (e.1, e.2.1, tok, e.2.2.2)) L) 5).length = (L 5).length := by simp [qM_at]
    rw [e4, e5]; exact hr
  · simp [qPhi, hw]; omega
