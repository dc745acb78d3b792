/-! the desk's constructor (printed by gen/ctor4.py) -/
def kDl : List Nat := [1, 2, 20, 3, 25] ++ xrdK ++ xrdK
def kD (a q : Nat) : Nat := if q < a then 0 else kDl.getD (q - a) 0
def bD (a q : Nat) : Nat := if q = a then a else if q < a + 3 then a + 1 else if q < a + 5 then a + 3 else if q < a + 36 then a + 5 else a + 36
def yD (h : xH) (a : Nat) : xY := (h, kD a, bD a)
def m0D (a : Nat) : xMem := (fun q k => if q = a + 3 ∧ k = 2 then 1023 else 0, fun _ _ => 0, fun _ _ => none, fun k => if k = 0 then a + 5 else a + 36)
theorem kD_at (a i : Nat) : kD a (a + i) = kDl.getD i 0 := by
  unfold kD
  rw [if_neg (by omega), Nat.add_sub_cancel_left]
theorem xgd {l : List Nat} {j : Nat} (h : l.length ≤ j) : l.getD j 0 = 0 := by
  rw [List.getD_eq_getElem?_getD, List.getElem?_eq_none h]; rfl
theorem kDl_1 : ∀ j, kDl.getD j 0 = 1 → j = 0 := by
  have h : ∀ j, j < 67 → kDl.getD j 0 = 1 → j = 0 := by decide
  intro j hj
  by_cases q : j < 67
  · exact h j q hj
  · have hl : kDl.length = 67 := by decide
    rw [xgd (by omega)] at hj
    cases hj
theorem yD_dk (h : xH) (a : Nat) : xDk (yD h a) a := by
  have r5 : ∀ i, i < 31 → kDl.getD (5 + i) 0 = xrdK.getD i 0 := by decide
  have r36 : ∀ i, i < 31 → kDl.getD (36 + i) 0 = xrdK.getD i 0 := by decide
  refine ⟨kD_at a 0, if_pos rfl, fun q hq => ?_, ⟨kD_at a 1, kD_at a 2, ?_⟩, ⟨kD_at a 3, kD_at a 4, ?_⟩, fun i hi => ⟨?_, ?_⟩, fun i hi => ⟨?_, ?_⟩⟩
  · have hq : kD a q = 1 := hq
    by_cases z : q < a
    · rw [kD, if_pos z] at hq; cases hq
    · rw [kD, if_neg z] at hq
      have := kDl_1 _ hq
      omega
  · show bD a (a + 1) = a + 1
    unfold bD; rw [if_neg (by omega), if_pos (by omega)]
  · show bD a (a + 3) = a + 3
    unfold bD; rw [if_neg (by omega), if_neg (by omega), if_pos (by omega)]
  · show kD a (a + 5 + i) = _
    rw [Nat.add_assoc, kD_at]; exact r5 i hi
  · show bD a (a + 5 + i) = a + 5
    unfold bD; rw [if_neg (by omega), if_neg (by omega), if_neg (by omega), if_pos (by omega)]
  · show kD a (a + 36 + i) = _
    rw [Nat.add_assoc, kD_at]; exact r36 i hi
  · show bD a (a + 36 + i) = a + 36
    unfold bD; rw [if_neg (by omega), if_neg (by omega), if_neg (by omega), if_neg (by omega)]
def hD1 (G : xG) (h : xH) (a : Nat) : xH := xu (hI_L G (xu h (a + 1) (.inr (1, [.null, .int 0]))) (a + 1) (a + 1 + 1)) a (.inr (0, [.ref (a + 1), .null, .null, .null, .int 0, .int 0]))
def hD2 (G : xG) (h : xH) (a : Nat) : xH := xu (hI_G G (xu (hD1 G h a) (a + 3) (.inr (2, [.null, .int 0, .int 0]))) (a + 3) (a + 3 + 1)) a (.inr (0, [.ref (a + 1), .ref (a + 3), .null, .null, .int 0, .int 0]))
def hD3 (G : xG) (h : xH) (a : Nat) : xH := xu (hN8 G (hD2 G h a) (a + 5)) a (.inr (0, [.ref (a + 1), .ref (a + 3), .ref (a + 5 + 30), .null, .int 0, .int 0]))
def hD4 (G : xG) (h : xH) (a : Nat) : xH := xu (hN8 G (hD3 G h a) (a + 36)) a (.inr (0, [.ref (a + 1), .ref (a + 3), .ref (a + 5 + 30), .ref (a + 36 + 30), .int 0, .int 0]))
theorem hD_lo {G : xG} {h : xH} {a q : Nat} (hq : q < a) : hD4 G h a q = h q := by
  have e0 : q ≠ a := by omega
  have e : ∀ i, q ≠ a + i := fun i => by omega
  rw [hD4, xu_n _ _ e0, hN_lo (by omega), hD3, xu_n _ _ e0, hN_lo (by omega), hD2, xu_n _ _ e0]
  simp [hI_G, hD1, hI_L, xu, e0, e, Nat.add_assoc]
theorem hD_hi {G : xG} {h : xH} {a q : Nat} (hq : a + 67 ≤ q) : hD4 G h a q = h q := by
  have e0 : q ≠ a := by omega
  have e1 : q ≠ a + 1 := by omega
  have e2 : q ≠ a + 2 := by omega
  have e3 : q ≠ a + 3 := by omega
  have e4 : q ≠ a + 4 := by omega
  rw [hD4, xu_n _ _ e0, hN_hi (by omega), hD3, xu_n _ _ e0, hN_hi (by omega), hD2, xu_n _ _ e0]
  simp [hI_G, hD1, hI_L, xu, e0, e1, e2, e3, e4, Nat.add_assoc]
theorem hD_src {G : xG} {h : xH} {a q : Nat} (h1 : a + 5 ≤ q) (h2 : q < a + 36) : hD4 G h a q = hN8 G (hD2 G h a) (a + 5) q := by
  have e0 : q ≠ a := by omega
  rw [hD4, xu_n _ _ e0, hN_lo (by omega), hD3, xu_n _ _ e0]
theorem hD_spr {G : xG} {h : xH} {a q : Nat} (h1 : a + 36 ≤ q) : hD4 G h a q = hN8 G (hD3 G h a) (a + 36) q := by
  have e0 : q ≠ a := by omega
  rw [hD4, xu_n _ _ e0]
theorem hD_low {G : xG} {h : xH} {a q : Nat} (h0 : q ≠ a) (h2 : q < a + 5) : hD4 G h a q = hI_G G (xu (hD1 G h a) (a + 3) (.inr (2, [.null, .int 0, .int 0]))) (a + 3) (a + 3 + 1) q := by
  rw [hD4, xu_n _ _ h0, hN_lo (by omega), hD3, xu_n _ _ h0, hN_lo (by omega), hD2, xu_n _ _ h0]
set_option maxRecDepth 100000 in
set_option maxHeartbeats 4000000 in
theorem hD_xo {G : xG} {h : xH} {a : Nat} : hD4 G h a = xo G (yD h a) (m0D a) := by
  funext q
  by_cases h1 : q < a
  · rw [hD_lo h1]
    have e : (yD h a).2.1 q = 0 := if_pos h1
    unfold xo xcell
    rw [e]; rfl
  by_cases h2 : a + 67 ≤ q
  · rw [hD_hi h2]
    have e : (yD h a).2.1 q = 0 := by
      show kD a q = 0
      unfold kD
      rw [if_neg h1]
      have hl : kDl.length = 67 := by decide
      exact xgd (by omega)
    unfold xo xcell
    rw [e]; rfl
  obtain ⟨i, rfl⟩ : ∃ i, q = a + i := ⟨q - a, by omega⟩
  have hi : i < 67 := by omega
  clear h1 h2
  match i, hi with
    | 0, _ => rw [Nat.add_zero, hD4, xu_s, c_D (yD_dk h a)]; try simp [m0D]
    | 1, _ => rw [hD_low (by omega) (by omega), c_L (yD_dk h a).w]; try simp [hI_G, hD1, hI_L, xu, m0D, Nat.add_assoc]
    | 2, _ => rw [hD_low (by omega) (by omega), cA (xLt.ar (yD_dk h a).w)]; try simp [hI_G, hD1, hI_L, xu, m0D, xz0, Nat.add_assoc]
    | 3, _ => rw [hD_low (by omega) (by omega), c_G (yD_dk h a).g]; try simp [hI_G, hD1, hI_L, xu, m0D, Nat.add_assoc]
    | 4, _ => rw [hD_low (by omega) (by omega), show a + 4 = a + 3 + 1 from rfl, cJ (xSg.ar (yD_dk h a).g).1 (xSg.ar (yD_dk h a).g).2]; try simp [hI_G, hD1, hI_L, xu, m0D, xzJ, Nat.add_assoc]
    | 5, _ => rw [hD_src (by omega) (by omega), show a + 5 = a + 5 from rfl, hN_0, c_L ((yD_dk h a).2.2.2.2.2.1).L]; try simp [m0D, xz0, xzJ, xzT]
    | 6, _ => rw [hD_src (by omega) (by omega), show a + 6 = a + 5 + 1 from rfl, hN_1, cA (xRd.ar ((yD_dk h a).2.2.2.2.2.1) 1 (by decide) rfl)]; try simp [m0D, xz0, xzJ, xzT]
    | 7, _ => rw [hD_src (by omega) (by omega), show a + 7 = a + 5 + 2 from rfl, hN_2, c_T ((yD_dk h a).2.2.2.2.2.1)]; try simp [m0D, xz0, xzJ, xzT]
    | 8, _ => rw [hD_src (by omega) (by omega), show a + 8 = a + 5 + 3 from rfl, hN_3, cTk ((((yD_dk h a).2.2.2.2.2.1)).k 3 (by decide))]; try simp [m0D, xz0, xzJ, xzT]
    | 9, _ => rw [hD_src (by omega) (by omega), show a + 9 = a + 5 + 4 from rfl, hN_4, cA (xRd.ar ((yD_dk h a).2.2.2.2.2.1) 4 (by decide) rfl)]; try simp [m0D, xz0, xzJ, xzT]
    | 10, _ => rw [hD_src (by omega) (by omega), show a + 10 = a + 5 + 5 from rfl, hN_5, cA (xRd.ar ((yD_dk h a).2.2.2.2.2.1) 5 (by decide) rfl)]; try simp [m0D, xz0, xzJ, xzT]
    | 11, _ => rw [hD_src (by omega) (by omega), show a + 11 = a + 5 + 6 from rfl, hN_6, cJ (xRd.al ((yD_dk h a).2.2.2.2.2.1) 6 (by decide) rfl rfl).1 (xRd.al ((yD_dk h a).2.2.2.2.2.1) 6 (by decide) rfl rfl).2]; try simp [m0D, xz0, xzJ, xzT]
    | 12, _ => rw [hD_src (by omega) (by omega), show a + 12 = a + 5 + 7 from rfl, hN_7, cA (xRd.ar ((yD_dk h a).2.2.2.2.2.1) 7 (by decide) rfl)]; try simp [m0D, xz0, xzJ, xzT]
    | 13, _ => rw [hD_src (by omega) (by omega), show a + 13 = a + 5 + 8 from rfl, hN_8, c_S ((yD_dk h a).2.2.2.2.2.1)]; try simp [m0D, xz0, xzJ, xzT]
    | 14, _ => rw [hD_src (by omega) (by omega), show a + 14 = a + 5 + 9 from rfl, hN_9, cA (xRd.ar ((yD_dk h a).2.2.2.2.2.1) 9 (by decide) rfl)]; try simp [m0D, xz0, xzJ, xzT]
    | 15, _ => rw [hD_src (by omega) (by omega), show a + 15 = a + 5 + 10 from rfl, hN_10, cA (xRd.ar ((yD_dk h a).2.2.2.2.2.1) 10 (by decide) rfl)]; try simp [m0D, xz0, xzJ, xzT]
    | 16, _ => rw [hD_src (by omega) (by omega), show a + 16 = a + 5 + 11 from rfl, hN_11, cA (xRd.ar ((yD_dk h a).2.2.2.2.2.1) 11 (by decide) rfl)]; try simp [m0D, xz0, xzJ, xzT]
    | 17, _ => rw [hD_src (by omega) (by omega), show a + 17 = a + 5 + 12 from rfl, hN_12, c_H ((yD_dk h a).2.2.2.2.2.1)]; try simp [m0D, xz0, xzJ, xzT]
    | 18, _ => rw [hD_src (by omega) (by omega), show a + 18 = a + 5 + 13 from rfl, hN_13, cA (xRd.ar ((yD_dk h a).2.2.2.2.2.1) 13 (by decide) rfl)]; try simp [m0D, xz0, xzJ, xzT]
    | 19, _ => rw [hD_src (by omega) (by omega), show a + 19 = a + 5 + 14 from rfl, hN_14, cA (xRd.ar ((yD_dk h a).2.2.2.2.2.1) 14 (by decide) rfl)]; try simp [m0D, xz0, xzJ, xzT]
    | 20, _ => rw [hD_src (by omega) (by omega), show a + 20 = a + 5 + 15 from rfl, hN_15, cA (xRd.ar ((yD_dk h a).2.2.2.2.2.1) 15 (by decide) rfl)]; try simp [m0D, xz0, xzJ, xzT]
    | 21, _ => rw [hD_src (by omega) (by omega), show a + 21 = a + 5 + 16 from rfl, hN_16, cA (xRd.ar ((yD_dk h a).2.2.2.2.2.1) 16 (by decide) rfl)]; try simp [m0D, xz0, xzJ, xzT]
    | 22, _ => rw [hD_src (by omega) (by omega), show a + 22 = a + 5 + 17 from rfl, hN_17, cA (xRd.ar ((yD_dk h a).2.2.2.2.2.1) 17 (by decide) rfl)]; try simp [m0D, xz0, xzJ, xzT]
    | 23, _ => rw [hD_src (by omega) (by omega), show a + 23 = a + 5 + 18 from rfl, hN_18, cA (xRd.ar ((yD_dk h a).2.2.2.2.2.1) 18 (by decide) rfl)]; try simp [m0D, xz0, xzJ, xzT]
    | 24, _ => rw [hD_src (by omega) (by omega), show a + 24 = a + 5 + 19 from rfl, hN_19, cA (xRd.ar ((yD_dk h a).2.2.2.2.2.1) 19 (by decide) rfl)]; try simp [m0D, xz0, xzJ, xzT]
    | 25, _ => rw [hD_src (by omega) (by omega), show a + 25 = a + 5 + 20 from rfl, hN_20, cA (xRd.ar ((yD_dk h a).2.2.2.2.2.1) 20 (by decide) rfl)]; try simp [m0D, xz0, xzJ, xzT]
    | 26, _ => rw [hD_src (by omega) (by omega), show a + 26 = a + 5 + 21 from rfl, hN_21, c_M ((yD_dk h a).2.2.2.2.2.1)]; try simp [m0D, xz0, xzJ, xzT]
    | 27, _ => rw [hD_src (by omega) (by omega), show a + 27 = a + 5 + 22 from rfl, hN_22, cA (xRd.ar ((yD_dk h a).2.2.2.2.2.1) 22 (by decide) rfl)]; try simp [m0D, xz0, xzJ, xzT]
    | 28, _ => rw [hD_src (by omega) (by omega), show a + 28 = a + 5 + 23 from rfl, hN_23, cA (xRd.ar ((yD_dk h a).2.2.2.2.2.1) 23 (by decide) rfl)]; try simp [m0D, xz0, xzJ, xzT]
    | 29, _ => rw [hD_src (by omega) (by omega), show a + 29 = a + 5 + 24 from rfl, hN_24, cA (xRd.ar ((yD_dk h a).2.2.2.2.2.1) 24 (by decide) rfl)]; try simp [m0D, xz0, xzJ, xzT]
    | 30, _ => rw [hD_src (by omega) (by omega), show a + 30 = a + 5 + 25 from rfl, hN_25, c_B ((yD_dk h a).2.2.2.2.2.1)]; try simp [m0D, xz0, xzJ, xzT]
    | 31, _ => rw [hD_src (by omega) (by omega), show a + 31 = a + 5 + 26 from rfl, hN_26, cA (xRd.ar ((yD_dk h a).2.2.2.2.2.1) 26 (by decide) rfl)]; try simp [m0D, xz0, xzJ, xzT]
    | 32, _ => rw [hD_src (by omega) (by omega), show a + 32 = a + 5 + 27 from rfl, hN_27, cA (xRd.ar ((yD_dk h a).2.2.2.2.2.1) 27 (by decide) rfl)]; try simp [m0D, xz0, xzJ, xzT]
    | 33, _ => rw [hD_src (by omega) (by omega), show a + 33 = a + 5 + 28 from rfl, hN_28, cA (xRd.ar ((yD_dk h a).2.2.2.2.2.1) 28 (by decide) rfl)]; try simp [m0D, xz0, xzJ, xzT]
    | 34, _ => rw [hD_src (by omega) (by omega), show a + 34 = a + 5 + 29 from rfl, hN_29, c_P ((yD_dk h a).2.2.2.2.2.1)]; try simp [m0D, xz0, xzJ, xzT]
    | 35, _ => rw [hD_src (by omega) (by omega), show a + 35 = a + 5 + 30 from rfl, hN_30, c_R ((yD_dk h a).2.2.2.2.2.1)]; try simp [m0D, xz0, xzJ, xzT]
    | 36, _ => rw [hD_spr (by omega), show a + 36 = a + 36 from rfl, hN_0, c_L ((yD_dk h a).2.2.2.2.2.2).L]; try simp [m0D, xz0, xzJ, xzT]
    | 37, _ => rw [hD_spr (by omega), show a + 37 = a + 36 + 1 from rfl, hN_1, cA (xRd.ar ((yD_dk h a).2.2.2.2.2.2) 1 (by decide) rfl)]; try simp [m0D, xz0, xzJ, xzT]
    | 38, _ => rw [hD_spr (by omega), show a + 38 = a + 36 + 2 from rfl, hN_2, c_T ((yD_dk h a).2.2.2.2.2.2)]; try simp [m0D, xz0, xzJ, xzT]
    | 39, _ => rw [hD_spr (by omega), show a + 39 = a + 36 + 3 from rfl, hN_3, cTk ((((yD_dk h a).2.2.2.2.2.2)).k 3 (by decide))]; try simp [m0D, xz0, xzJ, xzT]
    | 40, _ => rw [hD_spr (by omega), show a + 40 = a + 36 + 4 from rfl, hN_4, cA (xRd.ar ((yD_dk h a).2.2.2.2.2.2) 4 (by decide) rfl)]; try simp [m0D, xz0, xzJ, xzT]
    | 41, _ => rw [hD_spr (by omega), show a + 41 = a + 36 + 5 from rfl, hN_5, cA (xRd.ar ((yD_dk h a).2.2.2.2.2.2) 5 (by decide) rfl)]; try simp [m0D, xz0, xzJ, xzT]
    | 42, _ => rw [hD_spr (by omega), show a + 42 = a + 36 + 6 from rfl, hN_6, cJ (xRd.al ((yD_dk h a).2.2.2.2.2.2) 6 (by decide) rfl rfl).1 (xRd.al ((yD_dk h a).2.2.2.2.2.2) 6 (by decide) rfl rfl).2]; try simp [m0D, xz0, xzJ, xzT]
    | 43, _ => rw [hD_spr (by omega), show a + 43 = a + 36 + 7 from rfl, hN_7, cA (xRd.ar ((yD_dk h a).2.2.2.2.2.2) 7 (by decide) rfl)]; try simp [m0D, xz0, xzJ, xzT]
    | 44, _ => rw [hD_spr (by omega), show a + 44 = a + 36 + 8 from rfl, hN_8, c_S ((yD_dk h a).2.2.2.2.2.2)]; try simp [m0D, xz0, xzJ, xzT]
    | 45, _ => rw [hD_spr (by omega), show a + 45 = a + 36 + 9 from rfl, hN_9, cA (xRd.ar ((yD_dk h a).2.2.2.2.2.2) 9 (by decide) rfl)]; try simp [m0D, xz0, xzJ, xzT]
    | 46, _ => rw [hD_spr (by omega), show a + 46 = a + 36 + 10 from rfl, hN_10, cA (xRd.ar ((yD_dk h a).2.2.2.2.2.2) 10 (by decide) rfl)]; try simp [m0D, xz0, xzJ, xzT]
    | 47, _ => rw [hD_spr (by omega), show a + 47 = a + 36 + 11 from rfl, hN_11, cA (xRd.ar ((yD_dk h a).2.2.2.2.2.2) 11 (by decide) rfl)]; try simp [m0D, xz0, xzJ, xzT]
    | 48, _ => rw [hD_spr (by omega), show a + 48 = a + 36 + 12 from rfl, hN_12, c_H ((yD_dk h a).2.2.2.2.2.2)]; try simp [m0D, xz0, xzJ, xzT]
    | 49, _ => rw [hD_spr (by omega), show a + 49 = a + 36 + 13 from rfl, hN_13, cA (xRd.ar ((yD_dk h a).2.2.2.2.2.2) 13 (by decide) rfl)]; try simp [m0D, xz0, xzJ, xzT]
    | 50, _ => rw [hD_spr (by omega), show a + 50 = a + 36 + 14 from rfl, hN_14, cA (xRd.ar ((yD_dk h a).2.2.2.2.2.2) 14 (by decide) rfl)]; try simp [m0D, xz0, xzJ, xzT]
    | 51, _ => rw [hD_spr (by omega), show a + 51 = a + 36 + 15 from rfl, hN_15, cA (xRd.ar ((yD_dk h a).2.2.2.2.2.2) 15 (by decide) rfl)]; try simp [m0D, xz0, xzJ, xzT]
    | 52, _ => rw [hD_spr (by omega), show a + 52 = a + 36 + 16 from rfl, hN_16, cA (xRd.ar ((yD_dk h a).2.2.2.2.2.2) 16 (by decide) rfl)]; try simp [m0D, xz0, xzJ, xzT]
    | 53, _ => rw [hD_spr (by omega), show a + 53 = a + 36 + 17 from rfl, hN_17, cA (xRd.ar ((yD_dk h a).2.2.2.2.2.2) 17 (by decide) rfl)]; try simp [m0D, xz0, xzJ, xzT]
    | 54, _ => rw [hD_spr (by omega), show a + 54 = a + 36 + 18 from rfl, hN_18, cA (xRd.ar ((yD_dk h a).2.2.2.2.2.2) 18 (by decide) rfl)]; try simp [m0D, xz0, xzJ, xzT]
    | 55, _ => rw [hD_spr (by omega), show a + 55 = a + 36 + 19 from rfl, hN_19, cA (xRd.ar ((yD_dk h a).2.2.2.2.2.2) 19 (by decide) rfl)]; try simp [m0D, xz0, xzJ, xzT]
    | 56, _ => rw [hD_spr (by omega), show a + 56 = a + 36 + 20 from rfl, hN_20, cA (xRd.ar ((yD_dk h a).2.2.2.2.2.2) 20 (by decide) rfl)]; try simp [m0D, xz0, xzJ, xzT]
    | 57, _ => rw [hD_spr (by omega), show a + 57 = a + 36 + 21 from rfl, hN_21, c_M ((yD_dk h a).2.2.2.2.2.2)]; try simp [m0D, xz0, xzJ, xzT]
    | 58, _ => rw [hD_spr (by omega), show a + 58 = a + 36 + 22 from rfl, hN_22, cA (xRd.ar ((yD_dk h a).2.2.2.2.2.2) 22 (by decide) rfl)]; try simp [m0D, xz0, xzJ, xzT]
    | 59, _ => rw [hD_spr (by omega), show a + 59 = a + 36 + 23 from rfl, hN_23, cA (xRd.ar ((yD_dk h a).2.2.2.2.2.2) 23 (by decide) rfl)]; try simp [m0D, xz0, xzJ, xzT]
    | 60, _ => rw [hD_spr (by omega), show a + 60 = a + 36 + 24 from rfl, hN_24, cA (xRd.ar ((yD_dk h a).2.2.2.2.2.2) 24 (by decide) rfl)]; try simp [m0D, xz0, xzJ, xzT]
    | 61, _ => rw [hD_spr (by omega), show a + 61 = a + 36 + 25 from rfl, hN_25, c_B ((yD_dk h a).2.2.2.2.2.2)]; try simp [m0D, xz0, xzJ, xzT]
    | 62, _ => rw [hD_spr (by omega), show a + 62 = a + 36 + 26 from rfl, hN_26, cA (xRd.ar ((yD_dk h a).2.2.2.2.2.2) 26 (by decide) rfl)]; try simp [m0D, xz0, xzJ, xzT]
    | 63, _ => rw [hD_spr (by omega), show a + 63 = a + 36 + 27 from rfl, hN_27, cA (xRd.ar ((yD_dk h a).2.2.2.2.2.2) 27 (by decide) rfl)]; try simp [m0D, xz0, xzJ, xzT]
    | 64, _ => rw [hD_spr (by omega), show a + 64 = a + 36 + 28 from rfl, hN_28, cA (xRd.ar ((yD_dk h a).2.2.2.2.2.2) 28 (by decide) rfl)]; try simp [m0D, xz0, xzJ, xzT]
    | 65, _ => rw [hD_spr (by omega), show a + 65 = a + 36 + 29 from rfl, hN_29, c_P ((yD_dk h a).2.2.2.2.2.2)]; try simp [m0D, xz0, xzJ, xzT]
    | 66, _ => rw [hD_spr (by omega), show a + 66 = a + 36 + 30 from rfl, hN_30, c_R ((yD_dk h a).2.2.2.2.2.2)]; try simp [m0D, xz0, xzJ, xzT]
    | n + 67, hi => exact absurd hi (by omega)
set_option maxRecDepth 100000 in
set_option maxHeartbeats 4000000 in
theorem i_D {l : Launch} {G : xG} {h : xH} {a : Nat} (ha : h a = some (.inr (0, [.null, .null, .null, .null, .int 0, .int 0]))) {r : Int32} {M1 : xMem} (hs : f_R_study (a + 5) (m0D a) = some (r, M1)) : xM l G y_D_init c_D_init 1 none 161 66 3243 [.ref a] h (a + 1) none (xo G (yD h a) (wI M1 a 4 r)) (a + 67) := by
  refine xM.of (k := 0) (L0 := [some (.ref a)]) (by decide) (Nat.le_of_ble_eq_true rfl) rfl ?_
  intro p e s m args below meth c hc hnm
  have hR : xRm { frames := 161, cells := 66, slots := 3243, locals := 48 * 161 } 161 := ⟨Nat.le_refl _, Nat.le_refl _⟩
  refine x_aload_n hc (xd dk_D_init 0 rfl) rfl rfl ?_
  refine x_objInit hc xw31 xw32 xw33 (xd dk_D_init 1 rfl) (by decide) (Nat.le_of_ble_eq_true rfl) ?_
  refine x_aload_n hc (xd dk_D_init 2 rfl) rfl rfl ?_
  refine x_new hc fi_L ft_L ft_L_ok xw34 xw35 xw2 (ci := 1) rfl (fs := [.null, .int 0]) r_L (Nat.le_of_ble_eq_true rfl) (Nat.le_of_ble_eq_true rfl) (xd dk_D_init 3 rfl) ?_
  refine x_dup hc (xd dk_D_init 4 rfl) rfl ?_
  refine x_callIN hc (As := []) (n := 0) (i_L (G := G) (xu_s _ _ _) (by omega)) (hR.call (by decide) (by decide)) ⟨by decide, by decide, by decide⟩ rfl rfl rfl xw38 xw2 xn36 xw37 (Nat.le_of_ble_eq_true rfl) ⟨Nat.le_of_ble_eq_true rfl, Nat.le_of_ble_eq_true rfl⟩ (xd dk_D_init 5 rfl) ?_
  refine x_putF hc (ci := 0) (k := 0) fi_D ft_D ft_D_ok fn_D (fs := [.null, .null, .null, .null, .int 0, .int 0]) (by simpa [hI_L, xu, Nat.add_assoc] using ha) rfl (by decide) rfl xw688 rfl hnm rfl rfl rfl (Nat.le_of_ble_eq_true rfl) (xd dk_D_init 6 rfl) ?_
  refine x_heap (h2 := hD1 G h a) rfl ?_
  refine x_aload_n hc (xd dk_D_init 7 rfl) rfl rfl ?_
  refine x_new hc fi_G ft_G ft_G_ok xw50 xw51 xw3 (ci := 2) rfl (fs := [.null, .int 0, .int 0]) r_G (Nat.le_of_ble_eq_true rfl) (Nat.le_of_ble_eq_true rfl) (xd dk_D_init 8 rfl) ?_
  refine x_dup hc (xd dk_D_init 9 rfl) rfl ?_
  refine x_callIN hc (As := []) (n := 0) (i_G (G := G) (xu_s _ _ _) (by omega)) (hR.call (by decide) (by decide)) ⟨by decide, by decide, by decide⟩ rfl rfl rfl xw54 xw3 xn52 xw53 (Nat.le_of_ble_eq_true rfl) ⟨Nat.le_of_ble_eq_true rfl, Nat.le_of_ble_eq_true rfl⟩ (xd dk_D_init 10 rfl) ?_
  refine x_putF hc (ci := 0) (k := 1) fi_D ft_D ft_D_ok fn_D (fs := [.ref (a + 1), .null, .null, .null, .int 0, .int 0]) (by simp [hI_G, hD1, xu, Nat.add_assoc]) rfl (by decide) rfl xw689 rfl hnm rfl rfl rfl (Nat.le_of_ble_eq_true rfl) (xd dk_D_init 11 rfl) ?_
  refine x_heap (h2 := hD2 G h a) rfl ?_
  refine x_aload_n hc (xd dk_D_init 12 rfl) rfl rfl ?_
  refine x_callS hc (As := []) (n := 0) (i_newReading (sz := a + 5)) (hR.call (by decide) (by decide)) ⟨by decide, by decide, by decide⟩ rfl rfl xw70 xw1 xw68 xw69 (Nat.le_of_ble_eq_true rfl) ⟨Nat.le_of_ble_eq_true rfl, Nat.le_of_ble_eq_true rfl⟩ (xd dk_D_init 13 rfl) ?_
  refine x_put hc (ci := 0) (k := 2) fi_D ft_D ft_D_ok fn_D (fs := [.ref (a + 1), .ref (a + 3), .null, .null, .int 0, .int 0]) ((hN_lo (by omega)).trans (xu_s _ _ _)) rfl (by decide) rfl xw690 rfl rfl rfl (Nat.le_of_ble_eq_true rfl) (xd dk_D_init 14 rfl) ?_
  refine x_heap (h2 := hD3 G h a) rfl ?_
  refine x_aload_n hc (xd dk_D_init 15 rfl) rfl rfl ?_
  refine x_callS hc (As := []) (n := 0) (i_newReading (sz := a + 36)) (hR.call (by decide) (by decide)) ⟨by decide, by decide, by decide⟩ rfl rfl xw70 xw1 xw68 xw69 (Nat.le_of_ble_eq_true rfl) ⟨Nat.le_of_ble_eq_true rfl, Nat.le_of_ble_eq_true rfl⟩ (xd dk_D_init 16 rfl) ?_
  refine x_put hc (ci := 0) (k := 3) fi_D ft_D ft_D_ok fn_D (fs := [.ref (a + 1), .ref (a + 3), .ref (a + 5 + 30), .null, .int 0, .int 0]) ((hN_lo (by omega)).trans (xu_s _ _ _)) rfl (by decide) rfl xw691 rfl rfl rfl (Nat.le_of_ble_eq_true rfl) (xd dk_D_init 17 rfl) ?_
  refine x_heap (h2 := xo G (yD h a) (m0D a)) hD_xo ?_
  have hb := yD_dk h a
  refine x_aload_n hc (xd dk_D_init 18 rfl) rfl rfl ?_
  refine x_aload_n hc (xd dk_D_init 19 rfl) rfl rfl ?_
  refine x_get hc (ci := 0) (k := 2) fi_D (c_D hb _) rfl (by decide) rfl xw690 rfl (xd dk_D_init 20 rfl) ?_
  refine x_callV hc (As := []) (n := 0) (b := a + 5 + 30) (s_R_study (b := a + 5) hb.2.2.2.2.2.1 hs) (c_R hb.2.2.2.2.2.1 _) rfl (hR.call (by decide) (by decide)) ⟨by decide, by decide, by decide⟩ rfl rfl xw289 xw10 xw286 xw287 xw288 (Nat.le_of_ble_eq_true rfl) ⟨Nat.le_of_ble_eq_true rfl, Nat.le_of_ble_eq_true rfl⟩ (xd dk_D_init 21 rfl) ?_
  refine x_put hc (ci := 0) (k := 4) fi_D ft_D ft_D_ok fn_D (c_D hb _) rfl (by decide) rfl xw692 rfl rfl rfl (Nat.le_of_ble_eq_true rfl) (xd dk_D_init 22 rfl) ?_
  rw [w_D_4 hb]
  exact x_return hc (xd dk_D_init 23 rfl)
