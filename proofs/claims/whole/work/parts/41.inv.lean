theorem qA_s (f : Nat) (x : qE) (L : qL) : (qA f x L) f = L f ++ [x] := by simp [qA]
theorem qA_n {f g : Nat} (x : qE) (L : qL) (h : g ≠ f) : (qA f x L) g = L g := by simp [qA, h]
theorem qM_s (f i : Nat) (u : qE → qE) (L : qL) : (qM f i u L) f = (L f).modify i u := by simp [qM]
theorem qM_n {f g : Nat} (i : Nat) (u : qE → qE) (L : qL) (h : g ≠ f) : (qM f i u L) g = L g := by simp [qM, h]
theorem qg_lt {l : List qE} {x : qE} {i : Nat} (h : i < l.length) : qg (l ++ [x]) i = qg l i := by
  simp [qg, List.getElem?_append_left h]
theorem qg_eq {l : List qE} {x : qE} : qg (l ++ [x]) l.length = x := by simp [qg]
theorem qg_mod {l : List qE} {u : qE → qE} {i : Nat} (h : i < l.length) : qg (l.modify i u) i = u (qg l i) := by
  simp [qg, h]
theorem qg_modn {l : List qE} {u : qE → qE} {i j : Nat} (h : j ≠ i) : qg (l.modify i u) j = qg l j := by
  simp [qg, Ne.symm h]
theorem qg_mem {l : List qE} {i : Nat} (h : i < l.length) : qg l i ∈ l := by
  simp [qg, h]
theorem qg_of_mem {l : List qE} {x : qE} (h : x ∈ l) : ∃ i, i < l.length ∧ qg l i = x := by
  obtain ⟨i, hi, e⟩ := List.mem_iff_getElem.mp h
  exact ⟨i, hi, by simp [qg, hi, e]⟩

/-- the keys grow, up to m -/
def qSo (key : qE → Nat) (m : Nat) (l : List qE) : Prop := (l.map key).Pairwise (· < ·) ∧ ∀ x ∈ l, key x ≤ m
def qKey (f : Nat) (e : qE) : Nat := if f = 0 then e.2.2.2.2 else if f = 4 ∨ f = 5 then e.2.1 else e.1 + 1
def qIv (m : Nat → Nat) (L : qL) : Prop := ∀ f, qSo (qKey f) (m f) (L f)
theorem qSo.mono {key : qE → Nat} {m m' : Nat} {l : List qE} (h : qSo key m l) (hm : m ≤ m') : qSo key m' l :=
  ⟨h.1, fun x hx => Nat.le_trans (h.2 x hx) hm⟩
theorem qSo.app {key : qE → Nat} {m : Nat} {l : List qE} {x : qE} (h : qSo key m l) (hx : m < key x) : qSo key (key x) (l ++ [x]) := by
  refine ⟨?_, ?_⟩
  · rw [List.map_append, List.pairwise_append]
    refine ⟨h.1, by simp, ?_⟩
    intro a ha b hb
    simp only [List.map_cons, List.map_nil, List.mem_singleton] at hb
    obtain ⟨y, hy, e⟩ := List.mem_map.mp ha
    have := h.2 y hy
    omega
  · intro y hy
    rw [List.mem_append, List.mem_singleton] at hy
    rcases hy with hy | hy
    · have := h.2 y hy; omega
    · rw [hy]; exact Nat.le_refl _
theorem q_map_mod {key : qE → Nat} {u : qE → qE} (hu : ∀ e, key (u e) = key e) (l : List qE) (i : Nat) : (l.modify i u).map key = l.map key := by
  induction l generalizing i with
  | nil => cases i <;> rfl
  | cons x l ih =>
    cases i with
    | zero => simp [List.modify_zero_cons, hu]
    | succ i => simp [List.modify_succ_cons, ih]
theorem q_mem_mod {key : qE → Nat} {u : qE → qE} (hu : ∀ e, key (u e) = key e) {l : List qE} {i : Nat} {x : qE} (h : x ∈ l.modify i u) : ∃ y, y ∈ l ∧ key y = key x := by
  have : key x ∈ (l.modify i u).map key := List.mem_map_of_mem h
  rw [q_map_mod hu] at this
  exact List.mem_map.mp this
theorem qSo.modify {key : qE → Nat} {u : qE → qE} {m i : Nat} {l : List qE} (h : qSo key m l) (hu : ∀ e, key (u e) = key e) : qSo key m (l.modify i u) := by
  refine ⟨by rw [q_map_mod hu]; exact h.1, ?_⟩
  intro x hx
  obtain ⟨y, hy, e⟩ := q_mem_mod hu hx
  rw [← e]; exact h.2 y hy
theorem q_len {l : List Nat} {lo m : Nat} (h : l.Pairwise (· < ·)) (hb : ∀ x ∈ l, lo ≤ x ∧ x ≤ m) : l.length + lo ≤ m + 1 ∨ l = [] := by
  induction l generalizing lo with
  | nil => exact .inr rfl
  | cons x l ih =>
    left
    have h1 := List.pairwise_cons.mp h
    have hx := hb x (List.mem_cons_self ..)
    rcases ih (lo := x + 1) h1.2 (fun y hy => ⟨h1.1 y hy, (hb y (List.mem_cons_of_mem _ hy)).2⟩) with e | e
    · simp only [List.length_cons]; omega
    · subst e; simp only [List.length_cons, List.length_nil]; omega
theorem qSo.len {key : qE → Nat} {m lo : Nat} {l : List qE} (h : qSo key m l) (hl : ∀ x ∈ l, lo ≤ key x) (hlo : lo ≤ m + 1) : l.length + lo ≤ m + 1 := by
  have := q_len (l := l.map key) (lo := lo) (m := m) h.1 (by
    intro y hy; obtain ⟨x, hx, e⟩ := List.mem_map.mp hy; rw [← e]; exact ⟨hl x hx, h.2 x hx⟩)
  rcases this with e | e
  · simpa using e
  · have : l = [] := by simpa using e
    subst this; simpa using hlo
theorem qIv.mono {m m' : Nat → Nat} {L : qL} (h : qIv m L) (hm : ∀ f, m f ≤ m' f) : qIv m' L := fun f => (h f).mono (hm f)
theorem qIv.A {m : Nat → Nat} {L : qL} {f : Nat} {x : qE} (h : qIv m L) (hx : m f < qKey f x) : qIv (fun g => if g = f then qKey f x else m g) (qA f x L) := by
  intro g
  show qSo (qKey g) (if g = f then qKey f x else m g) _
  by_cases e : g = f
  · subst e; rw [qA_s, if_pos rfl]; exact (h g).app hx
  · rw [qA_n _ _ e, if_neg e]; exact h g
theorem qIv.M {m : Nat → Nat} {L : qL} {f i : Nat} {u : qE → qE} (h : qIv m L) (hu : ∀ e, qKey f (u e) = qKey f e) : qIv m (qM f i u L) := by
  intro g
  by_cases e : g = f
  · subst e; rw [qM_s]; exact (h g).modify hu
  · rw [qM_n _ _ _ e]; exact h g
theorem qIv.up {q q' : Nat} {L : qL} (h : qIv (fun _ => q) L) (hq : q ≤ q') : qIv (fun _ => q') L := h.mono (fun _ => hq)
theorem q_note {m : Nat → Nat} {L : qL} {a tok k : Nat} (h : qIv m L) (h1 : m 15 ≤ tok) : qIv (fun g => if g = 15 then tok + 1 else m g) (qNote a tok k L) := by
  unfold qNote
  dsimp only
  have w : qIv (fun g => if g = 15 then tok + 1 else m g) L := h.mono (by intro g; show m g ≤ if g = 15 then tok + 1 else m g; split <;> first | (subst_vars; omega) | exact Nat.le_refl _)
  by_cases e : a = 0
  · rw [if_pos e]; exact w
  · rw [if_neg e]
    by_cases e2 : (qg (L 5) (a - 1)).1 = 1
    · rw [if_pos e2]
      exact (h.M (f := 5) (i := a - 1) (u := fun e => (if k = 7 then 1 else 0, e.2)) (fun e => rfl)).A (f := 15) (x := (tok, 0, 0, 0, 0)) (by show m 15 < tok + 1; omega)
    · rw [if_neg e2]
      exact w.M (f := 5) (i := a - 1) (u := fun e => (if k = 7 then 1 else 0, e.2)) (fun e => rfl)
theorem q_dec {m : Nat → Nat} {L : qL} {wd : Nat → Nat} {tok sort sc : Nat} (h : qIv m L) (h1 : m 1 ≤ tok) (h2 : m 14 ≤ tok) : qIv (fun g => if g = 1 ∨ g = 14 then tok + 1 else m g) (qDecL wd tok sort sc L) := by
  unfold qDecL
  have w : qIv (fun g => if g = 1 ∨ g = 14 then tok + 1 else m g) L := h.mono (by
    intro g; show m g ≤ if g = 1 ∨ g = 14 then tok + 1 else m g; split
    · rename_i e; rcases e with e | e <;> subst e <;> omega
    · exact Nat.le_refl _)
  dsimp only
  split
  · split
    · refine ((h.M (f := 1) (u := fun e => (e.1, e.2.1, e.2.2.1, e.2.2.2.1 + 1, e.2.2.2.2)) (fun e => rfl)).A (f := 14) (x := (tok, 0, 0, 0, 0)) (by show m 14 < tok + 1; omega)).mono ?_
      intro g; show (if g = 14 then tok + 1 else m g) ≤ if g = 1 ∨ g = 14 then tok + 1 else m g
      by_cases e : g = 14
      · subst e; simp
      · by_cases e2 : g = 1
        · subst e2; simp; omega
        · simp [e, e2]
    · exact w.M (fun e => rfl)
  · refine (h.A (f := 1) (x := (tok, if sort = 2 then qHome L sc else sc, sort, 1, 0)) (by show m 1 < tok + 1; omega)).mono ?_
    intro g; show (if g = 1 then tok + 1 else m g) ≤ if g = 1 ∨ g = 14 then tok + 1 else m g
    by_cases e : g = 14
    · subst e; simp; omega
    · by_cases e2 : g = 1
      · subst e2; simp
      · simp [e, e2]
theorem q_par {tk wd : Nat → Nat} {sc : Nat} : ∀ (n : Nat) {m : Nat → Nat} {tok : Nat} {L : qL} {p : Nat} {L' : qL}, qIv m L → m 1 ≤ tok → m 14 ≤ tok → qPar tk wd sc n tok L = .inr (p, L') → tok < p ∧ qIv (fun g => if g = 1 ∨ g = 14 then p else m g) L' := by
  intro n
  induction n with
  | zero => intro m tok L p L' _ _ _ h; simp [qPar] at h
  | succ n ih =>
    intro m tok L p L' hI h1 h2 h
    have w := q_dec (wd := wd) (sort := 4) (sc := sc) hI h1 h2
    rw [qPar] at h
    by_cases e : tk tok ≠ 23
    · rw [if_pos e] at h; cases h
    · rw [if_neg e] at h
      by_cases e2 : n ≠ 0 ∧ tk (tok + 1) = 21
      · rw [if_pos e2] at h
        obtain ⟨i1, i2⟩ := ih w (by simp) (by simp) h
        refine ⟨by omega, i2.mono ?_⟩
        intro g; show (if g = 1 ∨ g = 14 then p else if g = 1 ∨ g = 14 then tok + 1 else m g) ≤ if g = 1 ∨ g = 14 then p else m g; repeat' split
        all_goals omega
      · rw [if_neg e2] at h
        cases h
        exact ⟨by omega, w⟩
