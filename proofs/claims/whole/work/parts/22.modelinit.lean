/-! the reference's constructor (printed by gen/ctor5.py) -/
def mN_fs (b k : Nat) : List Value := [.int 0, .int 0, .int 0, .int (-1), .int 0, .int 0, .int 0, .int 0, .int 0, .int 0, if 1 ≤ k then .ref (b + 1) else .null, if 2 ≤ k then .ref (b + 2) else .null, if 3 ≤ k then .ref (b + 3) else .null, if 4 ≤ k then .ref (b + 4) else .null, if 5 ≤ k then .ref (b + 5) else .null, if 6 ≤ k then .ref (b + 6) else .null, if 7 ≤ k then .ref (b + 7) else .null, if 8 ≤ k then .ref (b + 8) else .null, if 9 ≤ k then .ref (b + 9) else .null, if 10 ≤ k then .ref (b + 10) else .null, if 11 ≤ k then .ref (b + 11) else .null, if 12 ≤ k then .ref (b + 12) else .null, if 13 ≤ k then .ref (b + 13) else .null, if 14 ≤ k then .ref (b + 14) else .null, if 15 ≤ k then .ref (b + 15) else .null, if 16 ≤ k then .ref (b + 16) else .null, if 17 ≤ k then .ref (b + 17) else .null, .int 0, .int 0, .int 0, if 18 ≤ k then .ref (b + 18) else .null, if 19 ≤ k then .ref (b + 19) else .null, if 20 ≤ k then .ref (b + 20) else .null, if 21 ≤ k then .ref (b + 21) else .null, if 22 ≤ k then .ref (b + 22) else .null, if 23 ≤ k then .ref (b + 23) else .null, .int 0, if 24 ≤ k then .ref (b + 24) else .null, if 25 ≤ k then .ref (b + 25) else .null, if 26 ≤ k then .ref (b + 26) else .null, if 27 ≤ k then .ref (b + 27) else .null, .int 0, if 28 ≤ k then .ref (b + 28) else .null, if 29 ≤ k then .ref (b + 29) else .null, if 30 ≤ k then .ref (b + 30) else .null, if 31 ≤ k then .ref (b + 31) else .null, if 32 ≤ k then .ref (b + 32) else .null, if 33 ≤ k then .ref (b + 33) else .null, if 34 ≤ k then .ref (b + 34) else .null, if 35 ≤ k then .ref (b + 35) else .null, if 36 ≤ k then .ref (b + 36) else .null, if 37 ≤ k then .ref (b + 37) else .null, if 38 ≤ k then .ref (b + 38) else .null, if 39 ≤ k then .ref (b + 39) else .null, .int 0, .int 0, .int 0, .int 0, .int 0, .int 0, .int 0, if 40 ≤ k then .ref (b + 40) else .null, if 41 ≤ k then .ref (b + 41) else .null, .int 0, .int 0]
def mN_arrs (G : xG) : List va_E := [xz0 G 0 0, xz0 G 0 160, xz0 G 0 160, xz0 G 0 160, xz0 G 0 400, xz0 G 0 64, xz0 G 0 8, xz0 G 2 10, xz0 G 0 64, xz0 G 0 64, xz0 G 0 64, xz0 G 0 300, xz0 G 0 300, xz0 G 0 300, xz0 G 0 300, xz0 G 0 64, xz0 G 0 64, xz0 G 2 64, xz0 G 0 64, xz0 G 0 64, xz0 G 0 64, xz0 G 0 64, xz0 G 0 64, xz0 G 0 64, xz0 G 0 64, xz0 G 0 64, xz0 G 0 64, xz0 G 2 64, xz0 G 0 64, xz0 G 0 64, xz0 G 0 64, xz0 G 0 64, xz0 G 0 64, xz0 G 0 64, xz0 G 0 64, xz0 G 0 64, xz0 G 0 64, xz0 G 0 64, xz0 G 0 64, xz0 G 2 64, xz0 G 0 400, xz0 G 0 400]
def mN_arr (G : xG) (i : Nat) : va_E := (mN_arrs G).getD i (xz0 G 0 0)
def mN_h (G : xG) (h : xH) (b k : Nat) : xH := fun q => if q = b then some (.inr (10, mN_fs b k)) else if b < q ∧ q ≤ b + k then some (mN_arr G (q - b)) else h q
theorem mN_0 {G : xG} {h : xH} {b : Nat} {fs : List Value} (hf : fs = mN_fs b 0) : xu h b (.inr (10, fs)) = mN_h G h b 0 := by
  funext q
  unfold mN_h
  by_cases e : q = b
  · subst e; rw [xu_s, if_pos rfl, hf]
  · rw [xu_n _ _ e, if_neg e, if_neg (by omega)]
theorem mN_step {G : xG} {h : xH} {b k : Nat} {fs : List Value} {x : va_E} (hx : x = mN_arr G (k + 1)) (hf : fs = mN_fs b (k + 1)) : xu (xu (mN_h G h b k) (b + (k + 1)) x) b (.inr (10, fs)) = mN_h G h b (k + 1) := by
  funext q
  unfold mN_h
  by_cases e : q = b
  · subst e; rw [xu_s, if_pos rfl, hf]
  rw [xu_n _ _ e, if_neg e]
  by_cases e2 : q = b + (k + 1)
  · subst e2
    rw [xu_s, if_pos (by omega), Nat.add_sub_cancel_left, hx]
  rw [xu_n _ _ e2, if_neg e]
  by_cases e3 : b < q ∧ q ≤ b + k
  · rw [if_pos e3, if_pos (by omega)]
  · rw [if_neg e3, if_neg (by omega)]
theorem mN_b {G : xG} {h : xH} {b k : Nat} : mN_h G h b k b = some (.inr (10, mN_fs b k)) := if_pos rfl
def kN (b q : Nat) : Nat := if q < b then 0 else xmdK.getD (q - b) 0
def yN (h : xH) (b : Nat) : xY := (h, kN b, fun _ => b)
def m0N (b : Nat) : xMem := (fun q k => if q = b ∧ k = 3 then -1 else 0, fun _ _ => 0, fun _ _ => none, fun _ => 0)
theorem kN_at (b i : Nat) : kN b (b + i) = xmdK.getD i 0 := by
  unfold kN
  rw [if_neg (by omega), Nat.add_sub_cancel_left]
theorem yN_md (h : xH) (b : Nat) : xMd (yN h b) b := fun i _ => ⟨kN_at b i, rfl⟩
theorem mN_at {G : xG} {h : xH} {b k i : Nat} (h0 : 0 < i) (h1 : i ≤ k) : mN_h G h b k (b + i) = some (mN_arr G i) := by
  unfold mN_h
  rw [if_neg (by omega), if_pos (by omega), Nat.add_sub_cancel_left]
set_option maxRecDepth 100000 in
set_option maxHeartbeats 4000000 in
theorem mN_xo {G : xG} {h : xH} {b : Nat} : mN_h G h b 41 = xo G (yN h b) (m0N b) := by
  funext q
  by_cases h1 : q < b ∨ b + 42 ≤ q
  · have e : (yN h b).2.1 q = 0 := by
      show kN b q = 0
      unfold kN
      by_cases z : q < b
      · exact if_pos z
      · rw [if_neg z]
        have hl : xmdK.length = 42 := by decide
        exact xgd (by omega)
    have e2 : mN_h G h b 41 q = h q := by
      unfold mN_h
      rw [if_neg (by omega), if_neg (by omega)]
    rw [e2]
    unfold xo xcell
    rw [e]; rfl
  obtain ⟨i, rfl⟩ : ∃ i, q = b + i := ⟨q - b, by omega⟩
  have hi : i < 42 := by omega
  clear h1
  match i, hi with
    | 0, _ => rw [Nat.add_zero, mN_b, c_N (yN_md h b)]; simp [mN_fs, m0N]
    | 1, _ => rw [mN_at (by omega) (by omega), cA (xMd.ar (yN_md h b) 1 (by decide) rfl)]; simp [m0N, mN_arr, mN_arrs, xz0]
    | 2, _ => rw [mN_at (by omega) (by omega), cA (xMd.ar (yN_md h b) 2 (by decide) rfl)]; simp [m0N, mN_arr, mN_arrs, xz0]
    | 3, _ => rw [mN_at (by omega) (by omega), cA (xMd.ar (yN_md h b) 3 (by decide) rfl)]; simp [m0N, mN_arr, mN_arrs, xz0]
    | 4, _ => rw [mN_at (by omega) (by omega), cA (xMd.ar (yN_md h b) 4 (by decide) rfl)]; simp [m0N, mN_arr, mN_arrs, xz0]
    | 5, _ => rw [mN_at (by omega) (by omega), cA (xMd.ar (yN_md h b) 5 (by decide) rfl)]; simp [m0N, mN_arr, mN_arrs, xz0]
    | 6, _ => rw [mN_at (by omega) (by omega), cA (xMd.ar (yN_md h b) 6 (by decide) rfl)]; simp [m0N, mN_arr, mN_arrs, xz0]
    | 7, _ => rw [mN_at (by omega) (by omega), cA (xMd.ar (yN_md h b) 7 (by decide) rfl)]; simp [m0N, mN_arr, mN_arrs, xz0]
    | 8, _ => rw [mN_at (by omega) (by omega), cA (xMd.ar (yN_md h b) 8 (by decide) rfl)]; simp [m0N, mN_arr, mN_arrs, xz0]
    | 9, _ => rw [mN_at (by omega) (by omega), cA (xMd.ar (yN_md h b) 9 (by decide) rfl)]; simp [m0N, mN_arr, mN_arrs, xz0]
    | 10, _ => rw [mN_at (by omega) (by omega), cA (xMd.ar (yN_md h b) 10 (by decide) rfl)]; simp [m0N, mN_arr, mN_arrs, xz0]
    | 11, _ => rw [mN_at (by omega) (by omega), cA (xMd.ar (yN_md h b) 11 (by decide) rfl)]; simp [m0N, mN_arr, mN_arrs, xz0]
    | 12, _ => rw [mN_at (by omega) (by omega), cA (xMd.ar (yN_md h b) 12 (by decide) rfl)]; simp [m0N, mN_arr, mN_arrs, xz0]
    | 13, _ => rw [mN_at (by omega) (by omega), cA (xMd.ar (yN_md h b) 13 (by decide) rfl)]; simp [m0N, mN_arr, mN_arrs, xz0]
    | 14, _ => rw [mN_at (by omega) (by omega), cA (xMd.ar (yN_md h b) 14 (by decide) rfl)]; simp [m0N, mN_arr, mN_arrs, xz0]
    | 15, _ => rw [mN_at (by omega) (by omega), cA (xMd.ar (yN_md h b) 15 (by decide) rfl)]; simp [m0N, mN_arr, mN_arrs, xz0]
    | 16, _ => rw [mN_at (by omega) (by omega), cA (xMd.ar (yN_md h b) 16 (by decide) rfl)]; simp [m0N, mN_arr, mN_arrs, xz0]
    | 17, _ => rw [mN_at (by omega) (by omega), cA (xMd.ar (yN_md h b) 17 (by decide) rfl)]; simp [m0N, mN_arr, mN_arrs, xz0]
    | 18, _ => rw [mN_at (by omega) (by omega), cA (xMd.ar (yN_md h b) 18 (by decide) rfl)]; simp [m0N, mN_arr, mN_arrs, xz0]
    | 19, _ => rw [mN_at (by omega) (by omega), cA (xMd.ar (yN_md h b) 19 (by decide) rfl)]; simp [m0N, mN_arr, mN_arrs, xz0]
    | 20, _ => rw [mN_at (by omega) (by omega), cA (xMd.ar (yN_md h b) 20 (by decide) rfl)]; simp [m0N, mN_arr, mN_arrs, xz0]
    | 21, _ => rw [mN_at (by omega) (by omega), cA (xMd.ar (yN_md h b) 21 (by decide) rfl)]; simp [m0N, mN_arr, mN_arrs, xz0]
    | 22, _ => rw [mN_at (by omega) (by omega), cA (xMd.ar (yN_md h b) 22 (by decide) rfl)]; simp [m0N, mN_arr, mN_arrs, xz0]
    | 23, _ => rw [mN_at (by omega) (by omega), cA (xMd.ar (yN_md h b) 23 (by decide) rfl)]; simp [m0N, mN_arr, mN_arrs, xz0]
    | 24, _ => rw [mN_at (by omega) (by omega), cA (xMd.ar (yN_md h b) 24 (by decide) rfl)]; simp [m0N, mN_arr, mN_arrs, xz0]
    | 25, _ => rw [mN_at (by omega) (by omega), cA (xMd.ar (yN_md h b) 25 (by decide) rfl)]; simp [m0N, mN_arr, mN_arrs, xz0]
    | 26, _ => rw [mN_at (by omega) (by omega), cA (xMd.ar (yN_md h b) 26 (by decide) rfl)]; simp [m0N, mN_arr, mN_arrs, xz0]
    | 27, _ => rw [mN_at (by omega) (by omega), cA (xMd.ar (yN_md h b) 27 (by decide) rfl)]; simp [m0N, mN_arr, mN_arrs, xz0]
    | 28, _ => rw [mN_at (by omega) (by omega), cA (xMd.ar (yN_md h b) 28 (by decide) rfl)]; simp [m0N, mN_arr, mN_arrs, xz0]
    | 29, _ => rw [mN_at (by omega) (by omega), cA (xMd.ar (yN_md h b) 29 (by decide) rfl)]; simp [m0N, mN_arr, mN_arrs, xz0]
    | 30, _ => rw [mN_at (by omega) (by omega), cA (xMd.ar (yN_md h b) 30 (by decide) rfl)]; simp [m0N, mN_arr, mN_arrs, xz0]
    | 31, _ => rw [mN_at (by omega) (by omega), cA (xMd.ar (yN_md h b) 31 (by decide) rfl)]; simp [m0N, mN_arr, mN_arrs, xz0]
    | 32, _ => rw [mN_at (by omega) (by omega), cA (xMd.ar (yN_md h b) 32 (by decide) rfl)]; simp [m0N, mN_arr, mN_arrs, xz0]
    | 33, _ => rw [mN_at (by omega) (by omega), cA (xMd.ar (yN_md h b) 33 (by decide) rfl)]; simp [m0N, mN_arr, mN_arrs, xz0]
    | 34, _ => rw [mN_at (by omega) (by omega), cA (xMd.ar (yN_md h b) 34 (by decide) rfl)]; simp [m0N, mN_arr, mN_arrs, xz0]
    | 35, _ => rw [mN_at (by omega) (by omega), cA (xMd.ar (yN_md h b) 35 (by decide) rfl)]; simp [m0N, mN_arr, mN_arrs, xz0]
    | 36, _ => rw [mN_at (by omega) (by omega), cA (xMd.ar (yN_md h b) 36 (by decide) rfl)]; simp [m0N, mN_arr, mN_arrs, xz0]
    | 37, _ => rw [mN_at (by omega) (by omega), cA (xMd.ar (yN_md h b) 37 (by decide) rfl)]; simp [m0N, mN_arr, mN_arrs, xz0]
    | 38, _ => rw [mN_at (by omega) (by omega), cA (xMd.ar (yN_md h b) 38 (by decide) rfl)]; simp [m0N, mN_arr, mN_arrs, xz0]
    | 39, _ => rw [mN_at (by omega) (by omega), cA (xMd.ar (yN_md h b) 39 (by decide) rfl)]; simp [m0N, mN_arr, mN_arrs, xz0]
    | 40, _ => rw [mN_at (by omega) (by omega), cA (xMd.ar (yN_md h b) 40 (by decide) rfl)]; simp [m0N, mN_arr, mN_arrs, xz0]
    | 41, _ => rw [mN_at (by omega) (by omega), cA (xMd.ar (yN_md h b) 41 (by decide) rfl)]; simp [m0N, mN_arr, mN_arrs, xz0]
    | n + 42, hi => exact absurd hi (by omega)
set_option maxRecDepth 100000 in
set_option maxHeartbeats 4000000 in
theorem i_N {l : Launch} {G : xG} {h : xH} {b : Nat} (ha : h b = some (.inr (10, [.int 0, .int 0, .int 0, .int 0, .int 0, .int 0, .int 0, .int 0, .int 0, .int 0, .null, .null, .null, .null, .null, .null, .null, .null, .null, .null, .null, .null, .null, .null, .null, .null, .null, .int 0, .int 0, .int 0, .null, .null, .null, .null, .null, .null, .int 0, .null, .null, .null, .null, .int 0, .null, .null, .null, .null, .null, .null, .null, .null, .null, .null, .null, .null, .int 0, .int 0, .int 0, .int 0, .int 0, .int 0, .int 0, .null, .null, .int 0, .int 0]))) {u : Unit} {M1 : xMem} (hs : f_N_scans b (m0N b) = some (u, M1)) : xM l G y_N_init c_N_init 1 none 6 41 4754 [.ref b] h (b + 1) none (xo G (yN h b) M1) (b + 42) := by
  refine xM.of (k := 0) (L0 := [some (.ref b)]) (by decide) (Nat.le_of_ble_eq_true rfl) rfl ?_
  intro p e s m args below meth c hc hnm
  have hR : xRm { frames := 6, cells := 41, slots := 4754, locals := 48 * 6 } 6 := ⟨Nat.le_refl _, Nat.le_refl _⟩
  refine x_aload_n hc (xd dk_N_init 0 rfl) rfl rfl ?_
  refine x_objInit hc xw1029 xw32 xw33 (xd dk_N_init 1 rfl) (by decide) (Nat.le_of_ble_eq_true rfl) ?_
  refine x_aload_n hc (xd dk_N_init 2 rfl) rfl rfl ?_
  refine x_iconst hc (v := (-1)) (xd dk_N_init 3 rfl) (by decide) ?_
  refine x_put hc (ci := 10) (k := 3) fi_N ft_N ft_N_ok fn_N ha rfl (by decide) rfl xw1146 rfl rfl rfl (Nat.le_of_ble_eq_true rfl) (xd dk_N_init 4 rfl) ?_
  refine x_heap (mN_0 (G := G) rfl) ?_
  refine x_aload_n hc (xd dk_N_init 5 rfl) rfl rfl ?_
  refine x_sipush hc (v := 160) (xd dk_N_init 6 rfl) (by decide) ?_
  refine x_newa hc xw103 rfl (t0 := 0) rfl (fun _ h => by cases h) (a0 := (160, .inl (fun _ => 0))) (xz0_cell _ 160) (by decide) (by decide) (by decide) (Nat.le_of_ble_eq_true rfl) (Nat.le_of_ble_eq_true rfl) (xd dk_N_init 7 rfl) ?_
  refine x_putF hc (ci := 10) (k := 10) fi_N ft_N ft_N_ok fn_N ((xu_n _ _ (by omega)).trans mN_b) rfl (by decide) rfl xw1153 rfl hnm rfl rfl rfl (Nat.le_of_ble_eq_true rfl) (xd dk_N_init 8 rfl) ?_
  refine x_heap (h2 := mN_h G h b 1) (mN_step (k := 0) rfl rfl) ?_
  refine x_size (sz2 := b + 2) rfl ?_
  refine x_aload_n hc (xd dk_N_init 9 rfl) rfl rfl ?_
  refine x_sipush hc (v := 160) (xd dk_N_init 10 rfl) (by decide) ?_
  refine x_newa hc xw103 rfl (t0 := 0) rfl (fun _ h => by cases h) (a0 := (160, .inl (fun _ => 0))) (xz0_cell _ 160) (by decide) (by decide) (by decide) (Nat.le_of_ble_eq_true rfl) (Nat.le_of_ble_eq_true rfl) (xd dk_N_init 11 rfl) ?_
  refine x_putF hc (ci := 10) (k := 11) fi_N ft_N ft_N_ok fn_N ((xu_n _ _ (by omega)).trans mN_b) rfl (by decide) rfl xw1154 rfl hnm rfl rfl rfl (Nat.le_of_ble_eq_true rfl) (xd dk_N_init 12 rfl) ?_
  refine x_heap (h2 := mN_h G h b 2) (mN_step (k := 1) rfl rfl) ?_
  refine x_size (sz2 := b + 3) rfl ?_
  refine x_aload_n hc (xd dk_N_init 13 rfl) rfl rfl ?_
  refine x_sipush hc (v := 160) (xd dk_N_init 14 rfl) (by decide) ?_
  refine x_newa hc xw103 rfl (t0 := 0) rfl (fun _ h => by cases h) (a0 := (160, .inl (fun _ => 0))) (xz0_cell _ 160) (by decide) (by decide) (by decide) (Nat.le_of_ble_eq_true rfl) (Nat.le_of_ble_eq_true rfl) (xd dk_N_init 15 rfl) ?_
  refine x_putF hc (ci := 10) (k := 12) fi_N ft_N ft_N_ok fn_N ((xu_n _ _ (by omega)).trans mN_b) rfl (by decide) rfl xw1155 rfl hnm rfl rfl rfl (Nat.le_of_ble_eq_true rfl) (xd dk_N_init 16 rfl) ?_
  refine x_heap (h2 := mN_h G h b 3) (mN_step (k := 2) rfl rfl) ?_
  refine x_size (sz2 := b + 4) rfl ?_
  refine x_aload_n hc (xd dk_N_init 17 rfl) rfl rfl ?_
  refine x_sipush hc (v := 400) (xd dk_N_init 18 rfl) (by decide) ?_
  refine x_newa hc xw103 rfl (t0 := 0) rfl (fun _ h => by cases h) (a0 := (400, .inl (fun _ => 0))) (xz0_cell _ 400) (by decide) (by decide) (by decide) (Nat.le_of_ble_eq_true rfl) (Nat.le_of_ble_eq_true rfl) (xd dk_N_init 19 rfl) ?_
  refine x_putF hc (ci := 10) (k := 13) fi_N ft_N ft_N_ok fn_N ((xu_n _ _ (by omega)).trans mN_b) rfl (by decide) rfl xw1156 rfl hnm rfl rfl rfl (Nat.le_of_ble_eq_true rfl) (xd dk_N_init 20 rfl) ?_
  refine x_heap (h2 := mN_h G h b 4) (mN_step (k := 3) rfl rfl) ?_
  refine x_size (sz2 := b + 5) rfl ?_
  refine x_aload_n hc (xd dk_N_init 21 rfl) rfl rfl ?_
  refine x_bipush hc (v := 64) (xd dk_N_init 22 rfl) (by decide) ?_
  refine x_newa hc xw103 rfl (t0 := 0) rfl (fun _ h => by cases h) (a0 := (64, .inl (fun _ => 0))) (xz0_cell _ 64) (by decide) (by decide) (by decide) (Nat.le_of_ble_eq_true rfl) (Nat.le_of_ble_eq_true rfl) (xd dk_N_init 23 rfl) ?_
  refine x_putF hc (ci := 10) (k := 14) fi_N ft_N ft_N_ok fn_N ((xu_n _ _ (by omega)).trans mN_b) rfl (by decide) rfl xw1157 rfl hnm rfl rfl rfl (Nat.le_of_ble_eq_true rfl) (xd dk_N_init 24 rfl) ?_
  refine x_heap (h2 := mN_h G h b 5) (mN_step (k := 4) rfl rfl) ?_
  refine x_size (sz2 := b + 6) rfl ?_
  refine x_aload_n hc (xd dk_N_init 25 rfl) rfl rfl ?_
  refine x_bipush hc (v := 8) (xd dk_N_init 26 rfl) (by decide) ?_
  refine x_newa hc xw103 rfl (t0 := 0) rfl (fun _ h => by cases h) (a0 := (8, .inl (fun _ => 0))) (xz0_cell _ 8) (by decide) (by decide) (by decide) (Nat.le_of_ble_eq_true rfl) (Nat.le_of_ble_eq_true rfl) (xd dk_N_init 27 rfl) ?_
  refine x_putF hc (ci := 10) (k := 15) fi_N ft_N ft_N_ok fn_N ((xu_n _ _ (by omega)).trans mN_b) rfl (by decide) rfl xw1158 rfl hnm rfl rfl rfl (Nat.le_of_ble_eq_true rfl) (xd dk_N_init 28 rfl) ?_
  refine x_heap (h2 := mN_h G h b 6) (mN_step (k := 5) rfl rfl) ?_
  refine x_size (sz2 := b + 7) rfl ?_
  refine x_aload_n hc (xd dk_N_init 29 rfl) rfl rfl ?_
  refine x_bipush hc (v := 10) (xd dk_N_init 30 rfl) (by decide) ?_
  refine x_newa hc xw174 rfl (t0 := 2) rfl (fun _ h => by cases h) (a0 := (10, .inl (fun _ => 0))) (xz0_cell _ 10) (by decide) (by decide) (by decide) (Nat.le_of_ble_eq_true rfl) (Nat.le_of_ble_eq_true rfl) (xd dk_N_init 31 rfl) ?_
  refine x_putF hc (ci := 10) (k := 16) fi_N ft_N ft_N_ok fn_N ((xu_n _ _ (by omega)).trans mN_b) rfl (by decide) rfl xw1159 rfl hnm rfl rfl rfl (Nat.le_of_ble_eq_true rfl) (xd dk_N_init 32 rfl) ?_
  refine x_heap (h2 := mN_h G h b 7) (mN_step (k := 6) rfl rfl) ?_
  refine x_size (sz2 := b + 8) rfl ?_
  refine x_aload_n hc (xd dk_N_init 33 rfl) rfl rfl ?_
  refine x_bipush hc (v := 64) (xd dk_N_init 34 rfl) (by decide) ?_
  refine x_newa hc xw103 rfl (t0 := 0) rfl (fun _ h => by cases h) (a0 := (64, .inl (fun _ => 0))) (xz0_cell _ 64) (by decide) (by decide) (by decide) (Nat.le_of_ble_eq_true rfl) (Nat.le_of_ble_eq_true rfl) (xd dk_N_init 35 rfl) ?_
  refine x_putF hc (ci := 10) (k := 17) fi_N ft_N ft_N_ok fn_N ((xu_n _ _ (by omega)).trans mN_b) rfl (by decide) rfl xw1160 rfl hnm rfl rfl rfl (Nat.le_of_ble_eq_true rfl) (xd dk_N_init 36 rfl) ?_
  refine x_heap (h2 := mN_h G h b 8) (mN_step (k := 7) rfl rfl) ?_
  refine x_size (sz2 := b + 9) rfl ?_
  refine x_aload_n hc (xd dk_N_init 37 rfl) rfl rfl ?_
  refine x_bipush hc (v := 64) (xd dk_N_init 38 rfl) (by decide) ?_
  refine x_newa hc xw103 rfl (t0 := 0) rfl (fun _ h => by cases h) (a0 := (64, .inl (fun _ => 0))) (xz0_cell _ 64) (by decide) (by decide) (by decide) (Nat.le_of_ble_eq_true rfl) (Nat.le_of_ble_eq_true rfl) (xd dk_N_init 39 rfl) ?_
  refine x_putF hc (ci := 10) (k := 18) fi_N ft_N ft_N_ok fn_N ((xu_n _ _ (by omega)).trans mN_b) rfl (by decide) rfl xw1161 rfl hnm rfl rfl rfl (Nat.le_of_ble_eq_true rfl) (xd dk_N_init 40 rfl) ?_
  refine x_heap (h2 := mN_h G h b 9) (mN_step (k := 8) rfl rfl) ?_
  refine x_size (sz2 := b + 10) rfl ?_
  refine x_aload_n hc (xd dk_N_init 41 rfl) rfl rfl ?_
  refine x_bipush hc (v := 64) (xd dk_N_init 42 rfl) (by decide) ?_
  refine x_newa hc xw103 rfl (t0 := 0) rfl (fun _ h => by cases h) (a0 := (64, .inl (fun _ => 0))) (xz0_cell _ 64) (by decide) (by decide) (by decide) (Nat.le_of_ble_eq_true rfl) (Nat.le_of_ble_eq_true rfl) (xd dk_N_init 43 rfl) ?_
  refine x_putF hc (ci := 10) (k := 19) fi_N ft_N ft_N_ok fn_N ((xu_n _ _ (by omega)).trans mN_b) rfl (by decide) rfl xw1162 rfl hnm rfl rfl rfl (Nat.le_of_ble_eq_true rfl) (xd dk_N_init 44 rfl) ?_
  refine x_heap (h2 := mN_h G h b 10) (mN_step (k := 9) rfl rfl) ?_
  refine x_size (sz2 := b + 11) rfl ?_
  refine x_aload_n hc (xd dk_N_init 45 rfl) rfl rfl ?_
  refine x_sipush hc (v := 300) (xd dk_N_init 46 rfl) (by decide) ?_
  refine x_newa hc xw103 rfl (t0 := 0) rfl (fun _ h => by cases h) (a0 := (300, .inl (fun _ => 0))) (xz0_cell _ 300) (by decide) (by decide) (by decide) (Nat.le_of_ble_eq_true rfl) (Nat.le_of_ble_eq_true rfl) (xd dk_N_init 47 rfl) ?_
  refine x_putF hc (ci := 10) (k := 20) fi_N ft_N ft_N_ok fn_N ((xu_n _ _ (by omega)).trans mN_b) rfl (by decide) rfl xw1163 rfl hnm rfl rfl rfl (Nat.le_of_ble_eq_true rfl) (xd dk_N_init 48 rfl) ?_
  refine x_heap (h2 := mN_h G h b 11) (mN_step (k := 10) rfl rfl) ?_
  refine x_size (sz2 := b + 12) rfl ?_
  refine x_aload_n hc (xd dk_N_init 49 rfl) rfl rfl ?_
  refine x_sipush hc (v := 300) (xd dk_N_init 50 rfl) (by decide) ?_
  refine x_newa hc xw103 rfl (t0 := 0) rfl (fun _ h => by cases h) (a0 := (300, .inl (fun _ => 0))) (xz0_cell _ 300) (by decide) (by decide) (by decide) (Nat.le_of_ble_eq_true rfl) (Nat.le_of_ble_eq_true rfl) (xd dk_N_init 51 rfl) ?_
  refine x_putF hc (ci := 10) (k := 21) fi_N ft_N ft_N_ok fn_N ((xu_n _ _ (by omega)).trans mN_b) rfl (by decide) rfl xw1164 rfl hnm rfl rfl rfl (Nat.le_of_ble_eq_true rfl) (xd dk_N_init 52 rfl) ?_
  refine x_heap (h2 := mN_h G h b 12) (mN_step (k := 11) rfl rfl) ?_
  refine x_size (sz2 := b + 13) rfl ?_
  refine x_aload_n hc (xd dk_N_init 53 rfl) rfl rfl ?_
  refine x_sipush hc (v := 300) (xd dk_N_init 54 rfl) (by decide) ?_
  refine x_newa hc xw103 rfl (t0 := 0) rfl (fun _ h => by cases h) (a0 := (300, .inl (fun _ => 0))) (xz0_cell _ 300) (by decide) (by decide) (by decide) (Nat.le_of_ble_eq_true rfl) (Nat.le_of_ble_eq_true rfl) (xd dk_N_init 55 rfl) ?_
  refine x_putF hc (ci := 10) (k := 22) fi_N ft_N ft_N_ok fn_N ((xu_n _ _ (by omega)).trans mN_b) rfl (by decide) rfl xw1165 rfl hnm rfl rfl rfl (Nat.le_of_ble_eq_true rfl) (xd dk_N_init 56 rfl) ?_
  refine x_heap (h2 := mN_h G h b 13) (mN_step (k := 12) rfl rfl) ?_
  refine x_size (sz2 := b + 14) rfl ?_
  refine x_aload_n hc (xd dk_N_init 57 rfl) rfl rfl ?_
  refine x_sipush hc (v := 300) (xd dk_N_init 58 rfl) (by decide) ?_
  refine x_newa hc xw103 rfl (t0 := 0) rfl (fun _ h => by cases h) (a0 := (300, .inl (fun _ => 0))) (xz0_cell _ 300) (by decide) (by decide) (by decide) (Nat.le_of_ble_eq_true rfl) (Nat.le_of_ble_eq_true rfl) (xd dk_N_init 59 rfl) ?_
  refine x_putF hc (ci := 10) (k := 23) fi_N ft_N ft_N_ok fn_N ((xu_n _ _ (by omega)).trans mN_b) rfl (by decide) rfl xw1166 rfl hnm rfl rfl rfl (Nat.le_of_ble_eq_true rfl) (xd dk_N_init 60 rfl) ?_
  refine x_heap (h2 := mN_h G h b 14) (mN_step (k := 13) rfl rfl) ?_
  refine x_size (sz2 := b + 15) rfl ?_
  refine x_aload_n hc (xd dk_N_init 61 rfl) rfl rfl ?_
  refine x_bipush hc (v := 64) (xd dk_N_init 62 rfl) (by decide) ?_
  refine x_newa hc xw103 rfl (t0 := 0) rfl (fun _ h => by cases h) (a0 := (64, .inl (fun _ => 0))) (xz0_cell _ 64) (by decide) (by decide) (by decide) (Nat.le_of_ble_eq_true rfl) (Nat.le_of_ble_eq_true rfl) (xd dk_N_init 63 rfl) ?_
  refine x_putF hc (ci := 10) (k := 24) fi_N ft_N ft_N_ok fn_N ((xu_n _ _ (by omega)).trans mN_b) rfl (by decide) rfl xw1167 rfl hnm rfl rfl rfl (Nat.le_of_ble_eq_true rfl) (xd dk_N_init 64 rfl) ?_
  refine x_heap (h2 := mN_h G h b 15) (mN_step (k := 14) rfl rfl) ?_
  refine x_size (sz2 := b + 16) rfl ?_
  refine x_aload_n hc (xd dk_N_init 65 rfl) rfl rfl ?_
  refine x_bipush hc (v := 64) (xd dk_N_init 66 rfl) (by decide) ?_
  refine x_newa hc xw103 rfl (t0 := 0) rfl (fun _ h => by cases h) (a0 := (64, .inl (fun _ => 0))) (xz0_cell _ 64) (by decide) (by decide) (by decide) (Nat.le_of_ble_eq_true rfl) (Nat.le_of_ble_eq_true rfl) (xd dk_N_init 67 rfl) ?_
  refine x_putF hc (ci := 10) (k := 25) fi_N ft_N ft_N_ok fn_N ((xu_n _ _ (by omega)).trans mN_b) rfl (by decide) rfl xw1168 rfl hnm rfl rfl rfl (Nat.le_of_ble_eq_true rfl) (xd dk_N_init 68 rfl) ?_
  refine x_heap (h2 := mN_h G h b 16) (mN_step (k := 15) rfl rfl) ?_
  refine x_size (sz2 := b + 17) rfl ?_
  refine x_aload_n hc (xd dk_N_init 69 rfl) rfl rfl ?_
  refine x_bipush hc (v := 64) (xd dk_N_init 70 rfl) (by decide) ?_
  refine x_newa hc xw174 rfl (t0 := 2) rfl (fun _ h => by cases h) (a0 := (64, .inl (fun _ => 0))) (xz0_cell _ 64) (by decide) (by decide) (by decide) (Nat.le_of_ble_eq_true rfl) (Nat.le_of_ble_eq_true rfl) (xd dk_N_init 71 rfl) ?_
  refine x_putF hc (ci := 10) (k := 26) fi_N ft_N ft_N_ok fn_N ((xu_n _ _ (by omega)).trans mN_b) rfl (by decide) rfl xw1169 rfl hnm rfl rfl rfl (Nat.le_of_ble_eq_true rfl) (xd dk_N_init 72 rfl) ?_
  refine x_heap (h2 := mN_h G h b 17) (mN_step (k := 16) rfl rfl) ?_
  refine x_size (sz2 := b + 18) rfl ?_
  refine x_aload_n hc (xd dk_N_init 73 rfl) rfl rfl ?_
  refine x_bipush hc (v := 64) (xd dk_N_init 74 rfl) (by decide) ?_
  refine x_newa hc xw103 rfl (t0 := 0) rfl (fun _ h => by cases h) (a0 := (64, .inl (fun _ => 0))) (xz0_cell _ 64) (by decide) (by decide) (by decide) (Nat.le_of_ble_eq_true rfl) (Nat.le_of_ble_eq_true rfl) (xd dk_N_init 75 rfl) ?_
  refine x_putF hc (ci := 10) (k := 30) fi_N ft_N ft_N_ok fn_N ((xu_n _ _ (by omega)).trans mN_b) rfl (by decide) rfl xw1173 rfl hnm rfl rfl rfl (Nat.le_of_ble_eq_true rfl) (xd dk_N_init 76 rfl) ?_
  refine x_heap (h2 := mN_h G h b 18) (mN_step (k := 17) rfl rfl) ?_
  refine x_size (sz2 := b + 19) rfl ?_
  refine x_aload_n hc (xd dk_N_init 77 rfl) rfl rfl ?_
  refine x_bipush hc (v := 64) (xd dk_N_init 78 rfl) (by decide) ?_
  refine x_newa hc xw103 rfl (t0 := 0) rfl (fun _ h => by cases h) (a0 := (64, .inl (fun _ => 0))) (xz0_cell _ 64) (by decide) (by decide) (by decide) (Nat.le_of_ble_eq_true rfl) (Nat.le_of_ble_eq_true rfl) (xd dk_N_init 79 rfl) ?_
  refine x_putF hc (ci := 10) (k := 31) fi_N ft_N ft_N_ok fn_N ((xu_n _ _ (by omega)).trans mN_b) rfl (by decide) rfl xw1174 rfl hnm rfl rfl rfl (Nat.le_of_ble_eq_true rfl) (xd dk_N_init 80 rfl) ?_
  refine x_heap (h2 := mN_h G h b 19) (mN_step (k := 18) rfl rfl) ?_
  refine x_size (sz2 := b + 20) rfl ?_
  refine x_aload_n hc (xd dk_N_init 81 rfl) rfl rfl ?_
  refine x_bipush hc (v := 64) (xd dk_N_init 82 rfl) (by decide) ?_
  refine x_newa hc xw103 rfl (t0 := 0) rfl (fun _ h => by cases h) (a0 := (64, .inl (fun _ => 0))) (xz0_cell _ 64) (by decide) (by decide) (by decide) (Nat.le_of_ble_eq_true rfl) (Nat.le_of_ble_eq_true rfl) (xd dk_N_init 83 rfl) ?_
  refine x_putF hc (ci := 10) (k := 32) fi_N ft_N ft_N_ok fn_N ((xu_n _ _ (by omega)).trans mN_b) rfl (by decide) rfl xw1175 rfl hnm rfl rfl rfl (Nat.le_of_ble_eq_true rfl) (xd dk_N_init 84 rfl) ?_
  refine x_heap (h2 := mN_h G h b 20) (mN_step (k := 19) rfl rfl) ?_
  refine x_size (sz2 := b + 21) rfl ?_
  refine x_aload_n hc (xd dk_N_init 85 rfl) rfl rfl ?_
  refine x_bipush hc (v := 64) (xd dk_N_init 86 rfl) (by decide) ?_
  refine x_newa hc xw103 rfl (t0 := 0) rfl (fun _ h => by cases h) (a0 := (64, .inl (fun _ => 0))) (xz0_cell _ 64) (by decide) (by decide) (by decide) (Nat.le_of_ble_eq_true rfl) (Nat.le_of_ble_eq_true rfl) (xd dk_N_init 87 rfl) ?_
  refine x_putF hc (ci := 10) (k := 33) fi_N ft_N ft_N_ok fn_N ((xu_n _ _ (by omega)).trans mN_b) rfl (by decide) rfl xw1176 rfl hnm rfl rfl rfl (Nat.le_of_ble_eq_true rfl) (xd dk_N_init 88 rfl) ?_
  refine x_heap (h2 := mN_h G h b 21) (mN_step (k := 20) rfl rfl) ?_
  refine x_size (sz2 := b + 22) rfl ?_
  refine x_aload_n hc (xd dk_N_init 89 rfl) rfl rfl ?_
  refine x_bipush hc (v := 64) (xd dk_N_init 90 rfl) (by decide) ?_
  refine x_newa hc xw103 rfl (t0 := 0) rfl (fun _ h => by cases h) (a0 := (64, .inl (fun _ => 0))) (xz0_cell _ 64) (by decide) (by decide) (by decide) (Nat.le_of_ble_eq_true rfl) (Nat.le_of_ble_eq_true rfl) (xd dk_N_init 91 rfl) ?_
  refine x_putF hc (ci := 10) (k := 34) fi_N ft_N ft_N_ok fn_N ((xu_n _ _ (by omega)).trans mN_b) rfl (by decide) rfl xw1177 rfl hnm rfl rfl rfl (Nat.le_of_ble_eq_true rfl) (xd dk_N_init 92 rfl) ?_
  refine x_heap (h2 := mN_h G h b 22) (mN_step (k := 21) rfl rfl) ?_
  refine x_size (sz2 := b + 23) rfl ?_
  refine x_aload_n hc (xd dk_N_init 93 rfl) rfl rfl ?_
  refine x_bipush hc (v := 64) (xd dk_N_init 94 rfl) (by decide) ?_
  refine x_newa hc xw103 rfl (t0 := 0) rfl (fun _ h => by cases h) (a0 := (64, .inl (fun _ => 0))) (xz0_cell _ 64) (by decide) (by decide) (by decide) (Nat.le_of_ble_eq_true rfl) (Nat.le_of_ble_eq_true rfl) (xd dk_N_init 95 rfl) ?_
  refine x_putF hc (ci := 10) (k := 35) fi_N ft_N ft_N_ok fn_N ((xu_n _ _ (by omega)).trans mN_b) rfl (by decide) rfl xw1178 rfl hnm rfl rfl rfl (Nat.le_of_ble_eq_true rfl) (xd dk_N_init 96 rfl) ?_
  refine x_heap (h2 := mN_h G h b 23) (mN_step (k := 22) rfl rfl) ?_
  refine x_size (sz2 := b + 24) rfl ?_
  refine x_aload_n hc (xd dk_N_init 97 rfl) rfl rfl ?_
  refine x_bipush hc (v := 64) (xd dk_N_init 98 rfl) (by decide) ?_
  refine x_newa hc xw103 rfl (t0 := 0) rfl (fun _ h => by cases h) (a0 := (64, .inl (fun _ => 0))) (xz0_cell _ 64) (by decide) (by decide) (by decide) (Nat.le_of_ble_eq_true rfl) (Nat.le_of_ble_eq_true rfl) (xd dk_N_init 99 rfl) ?_
  refine x_putF hc (ci := 10) (k := 37) fi_N ft_N ft_N_ok fn_N ((xu_n _ _ (by omega)).trans mN_b) rfl (by decide) rfl xw1180 rfl hnm rfl rfl rfl (Nat.le_of_ble_eq_true rfl) (xd dk_N_init 100 rfl) ?_
  refine x_heap (h2 := mN_h G h b 24) (mN_step (k := 23) rfl rfl) ?_
  refine x_size (sz2 := b + 25) rfl ?_
  refine x_aload_n hc (xd dk_N_init 101 rfl) rfl rfl ?_
  refine x_bipush hc (v := 64) (xd dk_N_init 102 rfl) (by decide) ?_
  refine x_newa hc xw103 rfl (t0 := 0) rfl (fun _ h => by cases h) (a0 := (64, .inl (fun _ => 0))) (xz0_cell _ 64) (by decide) (by decide) (by decide) (Nat.le_of_ble_eq_true rfl) (Nat.le_of_ble_eq_true rfl) (xd dk_N_init 103 rfl) ?_
  refine x_putF hc (ci := 10) (k := 38) fi_N ft_N ft_N_ok fn_N ((xu_n _ _ (by omega)).trans mN_b) rfl (by decide) rfl xw1181 rfl hnm rfl rfl rfl (Nat.le_of_ble_eq_true rfl) (xd dk_N_init 104 rfl) ?_
  refine x_heap (h2 := mN_h G h b 25) (mN_step (k := 24) rfl rfl) ?_
  refine x_size (sz2 := b + 26) rfl ?_
  refine x_aload_n hc (xd dk_N_init 105 rfl) rfl rfl ?_
  refine x_bipush hc (v := 64) (xd dk_N_init 106 rfl) (by decide) ?_
  refine x_newa hc xw103 rfl (t0 := 0) rfl (fun _ h => by cases h) (a0 := (64, .inl (fun _ => 0))) (xz0_cell _ 64) (by decide) (by decide) (by decide) (Nat.le_of_ble_eq_true rfl) (Nat.le_of_ble_eq_true rfl) (xd dk_N_init 107 rfl) ?_
  refine x_putF hc (ci := 10) (k := 39) fi_N ft_N ft_N_ok fn_N ((xu_n _ _ (by omega)).trans mN_b) rfl (by decide) rfl xw1182 rfl hnm rfl rfl rfl (Nat.le_of_ble_eq_true rfl) (xd dk_N_init 108 rfl) ?_
  refine x_heap (h2 := mN_h G h b 26) (mN_step (k := 25) rfl rfl) ?_
  refine x_size (sz2 := b + 27) rfl ?_
  refine x_aload_n hc (xd dk_N_init 109 rfl) rfl rfl ?_
  refine x_bipush hc (v := 64) (xd dk_N_init 110 rfl) (by decide) ?_
  refine x_newa hc xw174 rfl (t0 := 2) rfl (fun _ h => by cases h) (a0 := (64, .inl (fun _ => 0))) (xz0_cell _ 64) (by decide) (by decide) (by decide) (Nat.le_of_ble_eq_true rfl) (Nat.le_of_ble_eq_true rfl) (xd dk_N_init 111 rfl) ?_
  refine x_putF hc (ci := 10) (k := 40) fi_N ft_N ft_N_ok fn_N ((xu_n _ _ (by omega)).trans mN_b) rfl (by decide) rfl xw1183 rfl hnm rfl rfl rfl (Nat.le_of_ble_eq_true rfl) (xd dk_N_init 112 rfl) ?_
  refine x_heap (h2 := mN_h G h b 27) (mN_step (k := 26) rfl rfl) ?_
  refine x_size (sz2 := b + 28) rfl ?_
  refine x_aload_n hc (xd dk_N_init 113 rfl) rfl rfl ?_
  refine x_bipush hc (v := 64) (xd dk_N_init 114 rfl) (by decide) ?_
  refine x_newa hc xw103 rfl (t0 := 0) rfl (fun _ h => by cases h) (a0 := (64, .inl (fun _ => 0))) (xz0_cell _ 64) (by decide) (by decide) (by decide) (Nat.le_of_ble_eq_true rfl) (Nat.le_of_ble_eq_true rfl) (xd dk_N_init 115 rfl) ?_
  refine x_putF hc (ci := 10) (k := 42) fi_N ft_N ft_N_ok fn_N ((xu_n _ _ (by omega)).trans mN_b) rfl (by decide) rfl xw1185 rfl hnm rfl rfl rfl (Nat.le_of_ble_eq_true rfl) (xd dk_N_init 116 rfl) ?_
  refine x_heap (h2 := mN_h G h b 28) (mN_step (k := 27) rfl rfl) ?_
  refine x_size (sz2 := b + 29) rfl ?_
  refine x_aload_n hc (xd dk_N_init 117 rfl) rfl rfl ?_
  refine x_bipush hc (v := 64) (xd dk_N_init 118 rfl) (by decide) ?_
  refine x_newa hc xw103 rfl (t0 := 0) rfl (fun _ h => by cases h) (a0 := (64, .inl (fun _ => 0))) (xz0_cell _ 64) (by decide) (by decide) (by decide) (Nat.le_of_ble_eq_true rfl) (Nat.le_of_ble_eq_true rfl) (xd dk_N_init 119 rfl) ?_
  refine x_putF hc (ci := 10) (k := 43) fi_N ft_N ft_N_ok fn_N ((xu_n _ _ (by omega)).trans mN_b) rfl (by decide) rfl xw1186 rfl hnm rfl rfl rfl (Nat.le_of_ble_eq_true rfl) (xd dk_N_init 120 rfl) ?_
  refine x_heap (h2 := mN_h G h b 29) (mN_step (k := 28) rfl rfl) ?_
  refine x_size (sz2 := b + 30) rfl ?_
  refine x_aload_n hc (xd dk_N_init 121 rfl) rfl rfl ?_
  refine x_bipush hc (v := 64) (xd dk_N_init 122 rfl) (by decide) ?_
  refine x_newa hc xw103 rfl (t0 := 0) rfl (fun _ h => by cases h) (a0 := (64, .inl (fun _ => 0))) (xz0_cell _ 64) (by decide) (by decide) (by decide) (Nat.le_of_ble_eq_true rfl) (Nat.le_of_ble_eq_true rfl) (xd dk_N_init 123 rfl) ?_
  refine x_putF hc (ci := 10) (k := 44) fi_N ft_N ft_N_ok fn_N ((xu_n _ _ (by omega)).trans mN_b) rfl (by decide) rfl xw1187 rfl hnm rfl rfl rfl (Nat.le_of_ble_eq_true rfl) (xd dk_N_init 124 rfl) ?_
  refine x_heap (h2 := mN_h G h b 30) (mN_step (k := 29) rfl rfl) ?_
  refine x_size (sz2 := b + 31) rfl ?_
  refine x_aload_n hc (xd dk_N_init 125 rfl) rfl rfl ?_
  refine x_bipush hc (v := 64) (xd dk_N_init 126 rfl) (by decide) ?_
  refine x_newa hc xw103 rfl (t0 := 0) rfl (fun _ h => by cases h) (a0 := (64, .inl (fun _ => 0))) (xz0_cell _ 64) (by decide) (by decide) (by decide) (Nat.le_of_ble_eq_true rfl) (Nat.le_of_ble_eq_true rfl) (xd dk_N_init 127 rfl) ?_
  refine x_putF hc (ci := 10) (k := 45) fi_N ft_N ft_N_ok fn_N ((xu_n _ _ (by omega)).trans mN_b) rfl (by decide) rfl xw1188 rfl hnm rfl rfl rfl (Nat.le_of_ble_eq_true rfl) (xd dk_N_init 128 rfl) ?_
  refine x_heap (h2 := mN_h G h b 31) (mN_step (k := 30) rfl rfl) ?_
  refine x_size (sz2 := b + 32) rfl ?_
  refine x_aload_n hc (xd dk_N_init 129 rfl) rfl rfl ?_
  refine x_bipush hc (v := 64) (xd dk_N_init 130 rfl) (by decide) ?_
  refine x_newa hc xw103 rfl (t0 := 0) rfl (fun _ h => by cases h) (a0 := (64, .inl (fun _ => 0))) (xz0_cell _ 64) (by decide) (by decide) (by decide) (Nat.le_of_ble_eq_true rfl) (Nat.le_of_ble_eq_true rfl) (xd dk_N_init 131 rfl) ?_
  refine x_putF hc (ci := 10) (k := 46) fi_N ft_N ft_N_ok fn_N ((xu_n _ _ (by omega)).trans mN_b) rfl (by decide) rfl xw1189 rfl hnm rfl rfl rfl (Nat.le_of_ble_eq_true rfl) (xd dk_N_init 132 rfl) ?_
  refine x_heap (h2 := mN_h G h b 32) (mN_step (k := 31) rfl rfl) ?_
  refine x_size (sz2 := b + 33) rfl ?_
  refine x_aload_n hc (xd dk_N_init 133 rfl) rfl rfl ?_
  refine x_bipush hc (v := 64) (xd dk_N_init 134 rfl) (by decide) ?_
  refine x_newa hc xw103 rfl (t0 := 0) rfl (fun _ h => by cases h) (a0 := (64, .inl (fun _ => 0))) (xz0_cell _ 64) (by decide) (by decide) (by decide) (Nat.le_of_ble_eq_true rfl) (Nat.le_of_ble_eq_true rfl) (xd dk_N_init 135 rfl) ?_
  refine x_putF hc (ci := 10) (k := 47) fi_N ft_N ft_N_ok fn_N ((xu_n _ _ (by omega)).trans mN_b) rfl (by decide) rfl xw1190 rfl hnm rfl rfl rfl (Nat.le_of_ble_eq_true rfl) (xd dk_N_init 136 rfl) ?_
  refine x_heap (h2 := mN_h G h b 33) (mN_step (k := 32) rfl rfl) ?_
  refine x_size (sz2 := b + 34) rfl ?_
  refine x_aload_n hc (xd dk_N_init 137 rfl) rfl rfl ?_
  refine x_bipush hc (v := 64) (xd dk_N_init 138 rfl) (by decide) ?_
  refine x_newa hc xw103 rfl (t0 := 0) rfl (fun _ h => by cases h) (a0 := (64, .inl (fun _ => 0))) (xz0_cell _ 64) (by decide) (by decide) (by decide) (Nat.le_of_ble_eq_true rfl) (Nat.le_of_ble_eq_true rfl) (xd dk_N_init 139 rfl) ?_
  refine x_putF hc (ci := 10) (k := 48) fi_N ft_N ft_N_ok fn_N ((xu_n _ _ (by omega)).trans mN_b) rfl (by decide) rfl xw1191 rfl hnm rfl rfl rfl (Nat.le_of_ble_eq_true rfl) (xd dk_N_init 140 rfl) ?_
  refine x_heap (h2 := mN_h G h b 34) (mN_step (k := 33) rfl rfl) ?_
  refine x_size (sz2 := b + 35) rfl ?_
  refine x_aload_n hc (xd dk_N_init 141 rfl) rfl rfl ?_
  refine x_bipush hc (v := 64) (xd dk_N_init 142 rfl) (by decide) ?_
  refine x_newa hc xw103 rfl (t0 := 0) rfl (fun _ h => by cases h) (a0 := (64, .inl (fun _ => 0))) (xz0_cell _ 64) (by decide) (by decide) (by decide) (Nat.le_of_ble_eq_true rfl) (Nat.le_of_ble_eq_true rfl) (xd dk_N_init 143 rfl) ?_
  refine x_putF hc (ci := 10) (k := 49) fi_N ft_N ft_N_ok fn_N ((xu_n _ _ (by omega)).trans mN_b) rfl (by decide) rfl xw1192 rfl hnm rfl rfl rfl (Nat.le_of_ble_eq_true rfl) (xd dk_N_init 144 rfl) ?_
  refine x_heap (h2 := mN_h G h b 35) (mN_step (k := 34) rfl rfl) ?_
  refine x_size (sz2 := b + 36) rfl ?_
  refine x_aload_n hc (xd dk_N_init 145 rfl) rfl rfl ?_
  refine x_bipush hc (v := 64) (xd dk_N_init 146 rfl) (by decide) ?_
  refine x_newa hc xw103 rfl (t0 := 0) rfl (fun _ h => by cases h) (a0 := (64, .inl (fun _ => 0))) (xz0_cell _ 64) (by decide) (by decide) (by decide) (Nat.le_of_ble_eq_true rfl) (Nat.le_of_ble_eq_true rfl) (xd dk_N_init 147 rfl) ?_
  refine x_putF hc (ci := 10) (k := 50) fi_N ft_N ft_N_ok fn_N ((xu_n _ _ (by omega)).trans mN_b) rfl (by decide) rfl xw1193 rfl hnm rfl rfl rfl (Nat.le_of_ble_eq_true rfl) (xd dk_N_init 148 rfl) ?_
  refine x_heap (h2 := mN_h G h b 36) (mN_step (k := 35) rfl rfl) ?_
  refine x_size (sz2 := b + 37) rfl ?_
  refine x_aload_n hc (xd dk_N_init 149 rfl) rfl rfl ?_
  refine x_bipush hc (v := 64) (xd dk_N_init 150 rfl) (by decide) ?_
  refine x_newa hc xw103 rfl (t0 := 0) rfl (fun _ h => by cases h) (a0 := (64, .inl (fun _ => 0))) (xz0_cell _ 64) (by decide) (by decide) (by decide) (Nat.le_of_ble_eq_true rfl) (Nat.le_of_ble_eq_true rfl) (xd dk_N_init 151 rfl) ?_
  refine x_putF hc (ci := 10) (k := 51) fi_N ft_N ft_N_ok fn_N ((xu_n _ _ (by omega)).trans mN_b) rfl (by decide) rfl xw1194 rfl hnm rfl rfl rfl (Nat.le_of_ble_eq_true rfl) (xd dk_N_init 152 rfl) ?_
  refine x_heap (h2 := mN_h G h b 37) (mN_step (k := 36) rfl rfl) ?_
  refine x_size (sz2 := b + 38) rfl ?_
  refine x_aload_n hc (xd dk_N_init 153 rfl) rfl rfl ?_
  refine x_bipush hc (v := 64) (xd dk_N_init 154 rfl) (by decide) ?_
  refine x_newa hc xw103 rfl (t0 := 0) rfl (fun _ h => by cases h) (a0 := (64, .inl (fun _ => 0))) (xz0_cell _ 64) (by decide) (by decide) (by decide) (Nat.le_of_ble_eq_true rfl) (Nat.le_of_ble_eq_true rfl) (xd dk_N_init 155 rfl) ?_
  refine x_putF hc (ci := 10) (k := 52) fi_N ft_N ft_N_ok fn_N ((xu_n _ _ (by omega)).trans mN_b) rfl (by decide) rfl xw1195 rfl hnm rfl rfl rfl (Nat.le_of_ble_eq_true rfl) (xd dk_N_init 156 rfl) ?_
  refine x_heap (h2 := mN_h G h b 38) (mN_step (k := 37) rfl rfl) ?_
  refine x_size (sz2 := b + 39) rfl ?_
  refine x_aload_n hc (xd dk_N_init 157 rfl) rfl rfl ?_
  refine x_bipush hc (v := 64) (xd dk_N_init 158 rfl) (by decide) ?_
  refine x_newa hc xw174 rfl (t0 := 2) rfl (fun _ h => by cases h) (a0 := (64, .inl (fun _ => 0))) (xz0_cell _ 64) (by decide) (by decide) (by decide) (Nat.le_of_ble_eq_true rfl) (Nat.le_of_ble_eq_true rfl) (xd dk_N_init 159 rfl) ?_
  refine x_putF hc (ci := 10) (k := 53) fi_N ft_N ft_N_ok fn_N ((xu_n _ _ (by omega)).trans mN_b) rfl (by decide) rfl xw1196 rfl hnm rfl rfl rfl (Nat.le_of_ble_eq_true rfl) (xd dk_N_init 160 rfl) ?_
  refine x_heap (h2 := mN_h G h b 39) (mN_step (k := 38) rfl rfl) ?_
  refine x_size (sz2 := b + 40) rfl ?_
  refine x_aload_n hc (xd dk_N_init 161 rfl) rfl rfl ?_
  refine x_sipush hc (v := 400) (xd dk_N_init 162 rfl) (by decide) ?_
  refine x_newa hc xw103 rfl (t0 := 0) rfl (fun _ h => by cases h) (a0 := (400, .inl (fun _ => 0))) (xz0_cell _ 400) (by decide) (by decide) (by decide) (Nat.le_of_ble_eq_true rfl) (Nat.le_of_ble_eq_true rfl) (xd dk_N_init 163 rfl) ?_
  refine x_putF hc (ci := 10) (k := 61) fi_N ft_N ft_N_ok fn_N ((xu_n _ _ (by omega)).trans mN_b) rfl (by decide) rfl xw1204 rfl hnm rfl rfl rfl (Nat.le_of_ble_eq_true rfl) (xd dk_N_init 164 rfl) ?_
  refine x_heap (h2 := mN_h G h b 40) (mN_step (k := 39) rfl rfl) ?_
  refine x_size (sz2 := b + 41) rfl ?_
  refine x_aload_n hc (xd dk_N_init 165 rfl) rfl rfl ?_
  refine x_sipush hc (v := 400) (xd dk_N_init 166 rfl) (by decide) ?_
  refine x_newa hc xw103 rfl (t0 := 0) rfl (fun _ h => by cases h) (a0 := (400, .inl (fun _ => 0))) (xz0_cell _ 400) (by decide) (by decide) (by decide) (Nat.le_of_ble_eq_true rfl) (Nat.le_of_ble_eq_true rfl) (xd dk_N_init 167 rfl) ?_
  refine x_putF hc (ci := 10) (k := 62) fi_N ft_N ft_N_ok fn_N ((xu_n _ _ (by omega)).trans mN_b) rfl (by decide) rfl xw1205 rfl hnm rfl rfl rfl (Nat.le_of_ble_eq_true rfl) (xd dk_N_init 168 rfl) ?_
  refine x_heap (h2 := mN_h G h b 41) (mN_step (k := 40) rfl rfl) ?_
  refine x_size (sz2 := b + 42) rfl ?_
  refine x_aload_n hc (xd dk_N_init 169 rfl) rfl rfl ?_
  refine x_heap mN_xo ?_
  refine x_callV hc (As := []) (n := 0) (s_N_scans (yN_md h b) hs) (c_N (yN_md h b) _) rfl (hR.call (by decide) (by decide)) ⟨by decide, by decide, by decide⟩ rfl rfl xw1033 xw18 xw1030 xw1032 xs_N_scans (Nat.le_of_ble_eq_true rfl) ⟨Nat.le_of_ble_eq_true rfl, Nat.le_of_ble_eq_true rfl⟩ (xd dk_N_init 170 rfl) ?_
  exact x_return hc (xd dk_N_init 171 rfl)
