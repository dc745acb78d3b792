/-! PURE: the reference: what is GIVEN, and finds() -/
/-- the settings of the reference -/
def nSt (M : xMem) (b : Nat) (on : Nat → Bool) (gv : List (List Nat)) : Prop := M.1 b 6 = nI gv.length ∧ gv.length ≤ 8 ∧ (∀ i, i < gv.length → M.1 (b + 6) i = nI (gv.getD i []).length ∧ ∀ k, k < (gv.getD i []).length → M.1 (b + 5) (8 * i + k) = nI (pc (gv.getD i []) k)) ∧ (∀ r, r < 10 → M.1 (b + 7) r = bI (!on r)) ∧ ∀ x, x ∈ gv → gNm x
theorem r_isGiven_44F {M : xMem} {b : Nat} {p1 v2 v3 v5 : Int32} {k16 : Int32 → Int32 → xMem → Option (Int32 × xMem)} {f : Nat} : f_N_isGiven_44 b p1 k16 (f + 1) v2 v3 (bI false) v5 M = k16 v2 (v3 + Int32.ofInt 1) M := by
  rw [f_N_isGiven_44]
  unfold f_N_isGiven_97
  split
  · rw [if_pos (by decide)]
  · rw [if_pos (by decide), if_pos (by decide)]
theorem r_isGiven_44 {M : xMem} {b j s g : Nat} {w x : List Nat} {k16 : Int32 → Int32 → xMem → Option (Int32 × xMem)} (hj : j < 64) (h9 : M.1 (b + 9) j = nI s) (hs : s + w.length ≤ 160) (hy : ∀ i, i < w.length → M.1 (b + 2) (s + i) = nI (pc w i)) (hw : ∀ i, pc w i < 256) (hg : g < 8) (hx : x.length = w.length) (hx8 : gNm x) (hn : ∀ k, k < x.length → M.1 (b + 5) (8 * g + k) = nI (pc x k)) : ∀ (m k fuel : Nat), k + m = w.length → m + 1 < fuel → ((∀ i, k ≤ i → i < w.length → pc x i = pc w i) → f_N_isGiven_44 b (nI j) k16 fuel (nI w.length) (nI g) (bI true) (nI k) M = some (bI true, M)) ∧ (¬ (∀ i, k ≤ i → i < w.length → pc x i = pc w i) → f_N_isGiven_44 b (nI j) k16 fuel (nI w.length) (nI g) (bI true) (nI k) M = k16 (nI w.length) (nI (g + 1)) M) := by
  intro m
  induction m with
  | zero =>
    intro k fuel hk hf
    obtain ⟨f, rfl⟩ : ∃ f, fuel = f + 1 := ⟨fuel - 1, by omega⟩
    refine ⟨fun _ => ?_, fun h => absurd (fun i h1 h2 => by omega) h⟩
    rw [f_N_isGiven_44, if_pos (nI_le (by omega) (by omega))]
    unfold f_N_isGiven_97
    rw [if_neg (by decide)]
    rfl
  | succ m ih =>
    intro k fuel hk hf
    obtain ⟨f, rfl⟩ : ∃ f, fuel = f + 1 := ⟨fuel - 1, by omega⟩
    have hl8 := hx8.2.1
    have e1 : (8 : Int32) * nI g + nI k = nI (8 * g + k) := by rw [show (8 : Int32) = nI 8 from rfl, pk_mul, nI_add]
    have e5 := hn k (by omega)
    have e2 := hy k (by omega)
    have es : nI s + nI k = nI (s + k) := nI_add _ _
    have xl := hx8.2.2.2 k
    have wl := hw k
    have go : f_N_isGiven_44 b (nI j) k16 (f + 1) (nI w.length) (nI g) (bI true) (nI k) M = f_N_isGiven_44 b (nI j) k16 f (nI w.length) (nI g) (bI (decide (pc x k = pc w k))) (nI (k + 1)) M := by
      rw [f_N_isGiven_44, if_neg (nI_ge (by omega) (by omega)), if_neg (by decide), e1, if_pos (xin_T (by omega) (by omega)), if_pos (xin_T (by omega) (by omega)), nI_clampT (by omega), h9, es, if_pos (xin_T (by omega) (by omega)), nI_clampT (by omega), nI_clampT (by omega), e5, e2]
      unfold f_N_isGiven_89
      by_cases c : pc x k = pc w k
      · rw [if_pos (by rw [c]), decide_eq_true c, nI_inc]; rfl
      · rw [if_neg (fun e => c ((nI_eq (by omega) (by omega)).mp e)), decide_eq_false c, nI_inc]; rfl
    rw [go]
    by_cases c : pc x k = pc w k
    · rw [decide_eq_true c]
      have ih' := ih (k + 1) f (by omega) (by omega)
      refine ⟨fun h => ih'.1 (fun i h1 h2 => h i (by omega) h2), fun h => ih'.2 (fun h2 => h (fun i h3 h4 => ?_))⟩
      by_cases e : i = k
      · subst e; exact c
      · exact h2 i (by omega) h4
    · rw [decide_eq_false c]
      refine ⟨fun h => absurd (h k (Nat.le_refl _) (by omega)) c, fun h => ?_⟩
      obtain ⟨f', rfl⟩ : ∃ f', f = f' + 1 := ⟨f - 1, by omega⟩
      rw [r_isGiven_44F, nI_inc]
theorem r_isGiven_16 {M : xMem} {b j s : Nat} {w : List Nat} {on : Nat → Bool} {gv : List (List Nat)} (h : nSt M b on gv) (hj : j < 64) (h9 : M.1 (b + 9) j = nI s) (hs : s + w.length ≤ 160) (hy : ∀ i, i < w.length → M.1 (b + 2) (s + i) = nI (pc w i)) (hw : ∀ i, pc w i < 256) : ∀ (m v fuel : Nat), v + m = gv.length → m < fuel → (∀ i, i < v → gv.getD i [] ≠ w) → f_N_isGiven_16 b (nI j) fuel (nI w.length) (nI v) M = some (bI (decide (w ∈ gv)), M) := by
  obtain ⟨h1, h2, h3, h4, h5⟩ := h
  intro m
  induction m with
  | zero =>
    intro v fuel hv hf hq
    obtain ⟨f, rfl⟩ : ∃ f, fuel = f + 1 := ⟨fuel - 1, by omega⟩
    rw [f_N_isGiven_16, if_pos (show M.1 b 6 ≤ nI v by rw [h1]; exact nI_le (by omega) (by omega)), decide_eq_false]
    · rfl
    · intro hm
      obtain ⟨i, hi, e⟩ := any_from.mp hm
      exact hq i (by omega) e
  | succ m ih =>
    intro v fuel hv hf hq
    obtain ⟨f, rfl⟩ : ∃ f, fuel = f + 1 := ⟨fuel - 1, by omega⟩
    have hvl : v < gv.length := by omega
    have mem := getD_mem hvl
    obtain ⟨a1, a2⟩ := h3 v hvl
    have nm := h5 _ mem
    have nl := nm.2.1
    have next : gv.getD v [] ≠ w → f_N_isGiven_16 b (nI j) f (nI w.length) (nI (v + 1)) M = some (bI (decide (w ∈ gv)), M) := by
      intro c
      refine ih (v + 1) f (by omega) (by omega) ?_
      intro i hi
      by_cases e : i = v
      · subst e; exact c
      · exact hq i (by omega)
    rw [f_N_isGiven_16, if_neg (show ¬ M.1 b 6 ≤ nI v by rw [h1]; exact nI_ge (by omega) (by omega)), if_pos (xin_T (by omega) (by omega)), nI_clampT (by omega), a1]
    unfold f_N_isGiven_39
    by_cases cl : (gv.getD v []).length = w.length
    · rw [if_pos (by rw [cl])]
      have key := r_isGiven_44 (g := v) (x := gv.getD v []) (k16 := f_N_isGiven_16 b (nI j) f) hj h9 hs hy hw (by omega) cl nm a2 w.length 0 xFuel (by omega) (by unfold xFuel; omega)
      by_cases c : ∀ i, 0 ≤ i → i < w.length → pc (gv.getD v []) i = pc w i
      · have e : gv.getD v [] = w := pc_ext cl (fun i hi => c i (Nat.zero_le _) (by omega))
        rw [decide_eq_true (by rw [← e]; exact mem)]
        exact key.1 c
      · have e : gv.getD v [] ≠ w := fun e => c (fun i _ _ => by rw [e])
        exact (key.2 c).trans (next e)
    · rw [if_neg (fun e => cl ((nI_eq (by omega) (by omega)).mp e))]
      have e : gv.getD v [] ≠ w := fun e => cl (by rw [e])
      have fx : ∃ f', xFuel = f' + 1 := ⟨xFuel - 1, by unfold xFuel; rfl⟩
      obtain ⟨f', hf'⟩ := fx
      rw [hf']
      exact (r_isGiven_44F (v5 := 0)).trans (by rw [nI_inc]; exact next e)
theorem r_isGiven {M : xMem} {b j s e : Nat} {w : List Nat} {on : Nat → Bool} {gv : List (List Nat)} (h : nSt M b on gv) (hj : j < 64) (h9 : M.1 (b + 9) j = nI s) (h10 : M.1 (b + 10) j = nI e) (hse : s ≤ e) (he : e ≤ 160) (hl : w.length = e - s) (hy : ∀ i, i < w.length → M.1 (b + 2) (s + i) = nI (pc w i)) (hw : ∀ i, pc w i < 256) : f_N_isGiven b (nI j) M = some (bI (decide (w ∈ gv)), M) := by
  have := r_isGiven_16 (w := w) h hj h9 (by omega) hy hw gv.length 0 xFuel (by omega) (by have := h.2.1; unfold xFuel; omega) (fun i hi => absurd hi (by omega))
  unfold f_N_isGiven
  rw [if_pos (xin_T (by omega) (by omega)), if_pos (xin_T (by omega) (by omega)), nI_clampT (by omega), h9, h10, pk_subT hse, ← hl]
  exact this
/-- one more -/
def ad (is : Bool) (c : Nat) (D : Nat → Bool) : Nat → Bool := fun x => D x || (is && decide (x = c))
/-- the reference's FINDINGS so far: those of D -/
def nFd (M : xMem) (b : Nat) (on : Nat → Bool) (gv : List (List Nat)) (t : List Nat) (l : List qE) (D : Nat → Bool) : Prop := M.1 b 63 = nI (cnt (fun c => D c && sFd on gv t l c) (10 * nT t)) ∧ M.1 b 64 = nI (cnt (fun c => D c && sXd on gv t l c) (10 * nT t)) ∧ (∀ c, D c = true → kok t c) ∧ ∀ c, (D c && sFd on gv t l c) = true → nAt M b t (cnt (fun c => D c && sFd on gv t l c) c) c
/-- the excuses of a PROGRAM -/
def nXs (t : List Nat) (l : List qE) : Prop := l.length ≤ 60 ∧ ∀ i, i < l.length → (qg l i).1 ≤ 9 ∧ (qg l i).2.1 ≤ nT t ∧ (qg l i).2.2.1 ≤ nT t ∧ (qg l i).2.2.1 ≠ 0
theorem r_in {M : xMem} {a b c : Int32} : f_N_in a b c M = some (bI (decide (b ≤ a ∧ a ≤ c)), M) := by
  unfold f_N_in
  by_cases h1 : a < b
  · have : ¬ b ≤ a := by rw [Int32.le_iff_toInt_le]; rw [Int32.lt_iff_toInt_lt] at h1; omega
    rw [if_pos h1, decide_eq_false (fun e => this e.1)]; rfl
  · have h1' : b ≤ a := by rw [Int32.le_iff_toInt_le]; rw [Int32.lt_iff_toInt_lt] at h1; omega
    rw [if_neg h1]
    by_cases h2 : c < a
    · have : ¬ a ≤ c := by rw [Int32.le_iff_toInt_le]; rw [Int32.lt_iff_toInt_lt] at h2; omega
      rw [if_pos h2, decide_eq_false (fun e => this e.2)]; rfl
    · have h2' : a ≤ c := by rw [Int32.le_iff_toInt_le]; rw [Int32.lt_iff_toInt_lt] at h2; omega
      rw [if_neg h2, decide_eq_true ⟨h1', h2'⟩]; rfl
