/-! the law: its beginning -/
def kJ (a q : Nat) : Nat := if q < a + 67 then kD a q else kN (a + 67) q
def bJ (a q : Nat) : Nat := if q < a + 67 then bD a q else a + 67
theorem kJ_lo {a q : Nat} (h : q < a + 67) : kJ a q = kD a q := if_pos h
theorem bJ_lo {a q : Nat} (h : q < a + 67) : bJ a q = bD a q := if_pos h
theorem kJ_hi {a q : Nat} (h : a + 67 ≤ q) : kJ a q = kN (a + 67) q := if_neg (by omega)
theorem bJ_hi {a q : Nat} (h : a + 67 ≤ q) : bJ a q = a + 67 := if_neg (by omega)
theorem kNl_1 : ∀ j, ¬ xmdK.getD j 0 = 1 := by
  intro j
  by_cases h : j < 42
  · have : ∀ j, j < 42 → ¬ xmdK.getD j 0 = 1 := by decide
    exact this j h
  · rw [xgd (by have : xmdK.length = 42 := rfl; omega)]; decide
theorem lj_dk {G : xG} {a o : Nat} {f : Nat → Int64} : xDk (yO G (kJ a) (bJ a) o f) a := by
  obtain ⟨h1, h2, h3, ⟨h4, h5, h6⟩, ⟨h7, h8, h9⟩, h10, h11⟩ := yD_dk (fun _ => none) a
  refine ⟨(kJ_lo (by omega)).trans h1, (bJ_lo (by omega)).trans h2, fun q hq => ?_, ⟨(kJ_lo (by omega)).trans h4, (kJ_lo (by omega)).trans h5, (bJ_lo (by omega)).trans h6⟩, ⟨(kJ_lo (by omega)).trans h7, (kJ_lo (by omega)).trans h8, (bJ_lo (by omega)).trans h9⟩, fun i hi => ⟨(kJ_lo (by omega)).trans (h10 i hi).1, (bJ_lo (by omega)).trans (h10 i hi).2⟩, fun i hi => ⟨(kJ_lo (by omega)).trans (h11 i hi).1, (bJ_lo (by omega)).trans (h11 i hi).2⟩⟩
  have hq : kJ a q = 1 := hq
  by_cases h : q < a + 67
  · rw [kJ_lo h] at hq
    exact h3 q hq
  · rw [kJ_hi (by omega)] at hq
    unfold kN at hq
    rw [if_neg (by omega)] at hq
    exact absurd hq (kNl_1 _)
theorem lj_md {G : xG} {a o : Nat} {f : Nat → Int64} : xMd (yO G (kJ a) (bJ a) o f) (a + 67) := fun i _ => ⟨(kJ_hi (by omega)).trans (kN_at _ i), bJ_hi (by omega)⟩
theorem lj_o {a : Nat} : kJ a (a + 67 + 42) = 0 := (kJ_hi (by omega)).trans (kN_at _ 42)
/-- the same cell under another layout -/
theorem xo_le {G : xG} {Y Y' : xY} {M M' : xMem} {q : Nat} (h0 : Y.1 q = none) (h1 : Y.2.1 q = Y'.2.1 q) (h2 : Y.2.2 q = Y'.2.2 q) (h3 : M.1 q = M'.1 q) (h4 : M.2 = M'.2) : ∀ x, xo G Y M q = some x → xo G Y' M' q = some x := by
  intro x h
  unfold xo xcell at h ⊢
  rw [h1, h2, h3, h4, h0] at h
  cases hA : xar (Y'.2.1 q) with
  | some r => rw [hA] at h; exact h
  | none =>
    rw [hA] at h
    cases hB : xal (Y'.2.1 q) with
    | some r => rw [hB] at h; exact h
    | none =>
      rw [hB] at h
      dsimp only at h ⊢
      split at h
      case h_13 => cases h
      all_goals exact h
theorem xmd_k (j : Nat) : xmdK.getD j 0 = 0 ∨ xmdK.getD j 0 = 11 ∨ (xar (xmdK.getD j 0)).isSome = true := by
  by_cases h : j < 42
  · have : ∀ j, j < 42 → xmdK.getD j 0 = 0 ∨ xmdK.getD j 0 = 11 ∨ (xar (xmdK.getD j 0)).isSome = true := by decide
    exact this j h
  · exact .inl (xgd (by have : xmdK.length = 42 := rfl; omega))
theorem xo_leN {G : xG} {Y Y' : xY} {M M' : xMem} {q : Nat} (h0 : Y.1 q = none) (h1 : Y.2.1 q = Y'.2.1 q) (h2 : Y.2.2 q = Y'.2.2 q) (h3 : M.1 q = M'.1 q) (hk : Y'.2.1 q = 0 ∨ Y'.2.1 q = 11 ∨ (xar (Y'.2.1 q)).isSome = true) : ∀ x, xo G Y M q = some x → xo G Y' M' q = some x := by
  intro x h
  unfold xo xcell at h ⊢
  rw [h1, h2, h3, h0] at h
  rcases hk with hk | hk | hk
  · rw [hk] at h; cases h
  · rw [hk] at h ⊢; exact h
  · cases hA : xar (Y'.2.1 q) with
    | some r => rw [hA] at h; exact h
    | none => rw [hA] at hk; cases hk
theorem xo_0 {G : xG} {Y : xY} {M : xMem} {q : Nat} (h : Y.2.1 q = 0) : xo G Y M q = Y.1 q := by
  unfold xo xcell
  rw [h]; rfl
theorem lj_le {G : xG} {a : Nat} {h : xH} {eN : va_E} {MD MN : xMem} : ∀ (q : Nat) (x : va_E), xo G (yO G (kJ a) (bJ a) (a + 67 + 42) (fun _ => 0)) (mJ (a + 67) MD MN) q = some x → xu (xo G (yN (xu (xo G (yD h a) MD) (a + 67) eN) (a + 67)) MN) (a + 67 + 42) (.inl (gZ G 3, 1, .inr (.inl (fun _ => 0)))) q = some x := by
  intro q x hx
  by_cases ho : q = a + 67 + 42
  · subst ho
    rw [cO lj_o] at hx
    rw [xu_s]; exact hx
  have hno : (yO G (kJ a) (bJ a) (a + 67 + 42) (fun _ => 0)).1 q = none := if_neg ho
  rw [xu_n _ _ ho]
  by_cases hq : q < a + 67
  · have z : (yN (xu (xo G (yD h a) MD) (a + 67) eN) (a + 67)).2.1 q = 0 := by
      show kN (a + 67) q = 0
      unfold kN; rw [if_pos hq]
    rw [xo_0 z]
    show xu (xo G (yD h a) MD) (a + 67) eN q = some x
    rw [xu_n _ _ (by omega)]
    exact xo_le (Y' := yD h a) (M := mJ (a + 67) MD MN) (M' := MD) hno (kJ_lo hq) (bJ_lo hq) (if_pos hq) rfl x hx
  · have hq2 : a + 67 ≤ q := Nat.not_lt.mp hq
    refine xo_leN (Y' := yN (xu (xo G (yD h a) MD) (a + 67) eN) (a + 67)) (M := mJ (a + 67) MD MN) (M' := MN) hno (kJ_hi hq2) (bJ_hi hq2) (if_neg hq) ?_ x hx
    have e : (yN (xu (xo G (yD h a) MD) (a + 67) eN) (a + 67)).2.1 q = xmdK.getD (q - (a + 67)) 0 := by
      show kN (a + 67) q = _
      unfold kN; rw [if_neg hq]
    rw [e]
    exact xmd_k _
set_option maxRecDepth 100000 in
set_option maxHeartbeats 1000000 in
theorem lw_begin {p : Program} {l : Launch} {e : Env} {s : State} {m : MethodId} {args : Array Value} {below : List Frame} {meth : Method} {c : Code} {Q : State → Prop} {G : xG} {b Ln : Nat} {xs : Nat → Int32} {a : Nat} (hc : xC p s m args meth c G 7 code "LintDeskLaw" ret) (hT : xT G s) (hl : xNT l) (hX : va_X b Ln xs s s.heap) (hbl : b < s.heap.size) (hbA : ¬ xA G b) (hLn : Ln ≤ 1536) (hend : ∀ (hh : xH) (sz cells slots : Nat) (L : List (Option Value)), cells ≤ room_1.cells → slots ≤ room_1.slots → xW p l e room_1 s m args below meth c G 7 Q hh sz cells slots 732 L [.int 1]) : xW p l e room_1 s m args below meth c G 7 Q (fun _ => none) a 0 0 0 [some (.ref b), none, none, none, none, none, none] [] := by
  have hR : xRm room_1 163 := ⟨Nat.le_of_ble_eq_true rfl, Nat.le_of_ble_eq_true rfl⟩
  have hw : xLw l G room_1 s b Ln xs (kJ a) (bJ a) (a + 67 + 42) a (a + 67) := ⟨hT, hl, hX, hbl, hbA, hR, Nat.le_refl _, fun _ => lj_dk, fun _ => lj_md, lj_o⟩
  obtain ⟨MD, hsD, hdA, -, -⟩ := init_D (a := a) (M := m0D a) rfl rfl
  obtain ⟨MN, hsN, hmA⟩ := init_N (n := a + 67)
  refine x_new hc fi_D ft_D ft_D_ok xw26 xw27 xw1 (ci := 0) rfl (fs := [.null, .null, .null, .null, .int 0, .int 0]) r_D (Nat.le_of_ble_eq_true rfl) (Nat.le_of_ble_eq_true rfl) (xd dk_W_law 0 rfl) ?_
  refine x_dup hc (xd dk_W_law 1 rfl) rfl ?_
  refine x_callI hc (As := []) (n := 0) (i_D (G := G) (xu_s _ _ _) hsD) (hR.call (by decide) (by decide)) ⟨by decide, by decide, by decide⟩ rfl rfl rfl xw30 xw1 xw28 xw29 (Nat.le_of_ble_eq_true rfl) ⟨Nat.le_of_ble_eq_true rfl, Nat.le_of_ble_eq_true rfl⟩ (xd dk_W_law 2 rfl) ?_
  refine x_astore_n hc (xd dk_W_law 3 rfl) (by decide) rfl ?_
  refine x_new hc fi_N ft_N ft_N_ok xw1024 xw1025 xw18 (ci := 10) rfl (fs := [.int 0, .int 0, .int 0, .int 0, .int 0, .int 0, .int 0, .int 0, .int 0, .int 0, .null, .null, .null, .null, .null, .null, .null, .null, .null, .null, .null, .null, .null, .null, .null, .null, .null, .int 0, .int 0, .int 0, .null, .null, .null, .null, .null, .null, .int 0, .null, .null, .null, .null, .int 0, .null, .null, .null, .null, .null, .null, .null, .null, .null, .null, .null, .null, .int 0, .int 0, .int 0, .int 0, .int 0, .int 0, .int 0, .null, .null, .int 0, .int 0]) r_N (Nat.le_of_ble_eq_true rfl) (Nat.le_of_ble_eq_true rfl) (xd dk_W_law 4 rfl) ?_
  refine x_dup hc (xd dk_W_law 5 rfl) rfl ?_
  refine x_callI hc (As := []) (n := 0) (i_N (G := G) (xu_s _ _ _) hsN) (hR.call (by decide) (by decide)) ⟨by decide, by decide, by decide⟩ rfl rfl rfl xw1028 xw18 xw1026 xw1027 (Nat.le_of_ble_eq_true rfl) ⟨Nat.le_of_ble_eq_true rfl, Nat.le_of_ble_eq_true rfl⟩ (xd dk_W_law 6 rfl) ?_
  refine x_astore_n hc (xd dk_W_law 7 rfl) (by decide) rfl ?_
  refine x_iconst hc (v := 1) (xd dk_W_law 8 rfl) (by decide) ?_
  refine x_newa hc xw67 rfl (t0 := 3) rfl (fun _ h => by cases h) (a0 := (1, .inr (.inl (fun _ => 0)))) (xzJ_cell _ 1) (by decide) (by decide) (by decide) (Nat.le_of_ble_eq_true rfl) (Nat.le_of_ble_eq_true rfl) (xd dk_W_law 9 rfl) ?_
  refine x_astore_n hc (xd dk_W_law 10 rfl) (by decide) rfl ?_
  refine x_iconst hc (v := 0) (xd dk_W_law 11 rfl) (by decide) ?_
  refine x_istore hc (xd dk_W_law 12 rfl) (by decide) rfl ?_
  refine x_less lj_le ?_
  exact lc_loop hc hw hLn hend 512 0 (fun _ => 0) (mJ (a + 67) (wI MD a 4 (-1)) MN) _ _ _ (init_J (Nat.le_refl _) hdA hmA) (by omega) (by omega) (Nat.le_of_ble_eq_true rfl) (Nat.le_of_ble_eq_true rfl)
