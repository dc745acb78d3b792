/-! what newReading leaves, cell by cell (printed by gen/ctor3.py) -/
theorem hN_0 {G : xG} {h : xH} {sz : Nat} : hN8 G h sz sz = some (.inr (1, [.ref (sz + 1), .int 0])) := by simp [hN8, hN7, hN6, hN5, hN4, hN3, hN2, hN1, hI_L, hI_T, hI_S, hI_H, hI_M, hI_B, hI_P, hI_R, xu, Nat.add_assoc]
theorem hN_1 {G : xG} {h : xH} {sz : Nat} : hN8 G h sz (sz + 1) = some (xz0 G 1 160) := by simp [hN8, hN7, hN6, hN5, hN4, hN3, hN2, hN1, hI_L, hI_T, hI_S, hI_H, hI_M, hI_B, hI_P, hI_R, xu, Nat.add_assoc]
theorem hN_2 {G : xG} {h : xH} {sz : Nat} : hN8 G h sz (sz + 2) = some (.inr (3, [.ref sz, .ref (sz + 3), .ref (sz + 4), .ref (sz + 5), .ref (sz + 6), .ref (sz + 7), .int 0])) := by simp [hN8, hN7, hN6, hN5, hN4, hN3, hN2, hN1, hI_L, hI_T, hI_S, hI_H, hI_M, hI_B, hI_P, hI_R, xu, Nat.add_assoc]
theorem hN_3 {G : xG} {h : xH} {sz : Nat} : hN8 G h sz (sz + 3) = some (xzT G 61) := by simp [hN8, hN7, hN6, hN5, hN4, hN3, hN2, hN1, hI_L, hI_T, hI_S, hI_H, hI_M, hI_B, hI_P, hI_R, xu, Nat.add_assoc]
theorem hN_4 {G : xG} {h : xH} {sz : Nat} : hN8 G h sz (sz + 4) = some (xz0 G 0 61) := by simp [hN8, hN7, hN6, hN5, hN4, hN3, hN2, hN1, hI_L, hI_T, hI_S, hI_H, hI_M, hI_B, hI_P, hI_R, xu, Nat.add_assoc]
theorem hN_5 {G : xG} {h : xH} {sz : Nat} : hN8 G h sz (sz + 5) = some (xz0 G 0 61) := by simp [hN8, hN7, hN6, hN5, hN4, hN3, hN2, hN1, hI_L, hI_T, hI_S, hI_H, hI_M, hI_B, hI_P, hI_R, xu, Nat.add_assoc]
theorem hN_6 {G : xG} {h : xH} {sz : Nat} : hN8 G h sz (sz + 6) = some (xzJ G 61) := by simp [hN8, hN7, hN6, hN5, hN4, hN3, hN2, hN1, hI_L, hI_T, hI_S, hI_H, hI_M, hI_B, hI_P, hI_R, xu, Nat.add_assoc]
theorem hN_7 {G : xG} {h : xH} {sz : Nat} : hN8 G h sz (sz + 7) = some (xz0 G 0 61) := by simp [hN8, hN7, hN6, hN5, hN4, hN3, hN2, hN1, hI_L, hI_T, hI_S, hI_H, hI_M, hI_B, hI_P, hI_R, xu, Nat.add_assoc]
theorem hN_8 {G : xG} {h : xH} {sz : Nat} : hN8 G h sz (sz + 8) = some (.inr (4, [.ref (sz + 9), .ref (sz + 10), .ref (sz + 11), .int 0])) := by simp [hN8, hN7, hN6, hN5, hN4, hN3, hN2, hN1, hI_L, hI_T, hI_S, hI_H, hI_M, hI_B, hI_P, hI_R, xu, Nat.add_assoc]
theorem hN_9 {G : xG} {h : xH} {sz : Nat} : hN8 G h sz (sz + 9) = some (xz0 G 0 61) := by simp [hN8, hN7, hN6, hN5, hN4, hN3, hN2, hN1, hI_L, hI_T, hI_S, hI_H, hI_M, hI_B, hI_P, hI_R, xu, Nat.add_assoc]
theorem hN_10 {G : xG} {h : xH} {sz : Nat} : hN8 G h sz (sz + 10) = some (xz0 G 0 61) := by simp [hN8, hN7, hN6, hN5, hN4, hN3, hN2, hN1, hI_L, hI_T, hI_S, hI_H, hI_M, hI_B, hI_P, hI_R, xu, Nat.add_assoc]
theorem hN_11 {G : xG} {h : xH} {sz : Nat} : hN8 G h sz (sz + 11) = some (xz0 G 0 61) := by simp [hN8, hN7, hN6, hN5, hN4, hN3, hN2, hN1, hI_L, hI_T, hI_S, hI_H, hI_M, hI_B, hI_P, hI_R, xu, Nat.add_assoc]
theorem hN_12 {G : xG} {h : xH} {sz : Nat} : hN8 G h sz (sz + 12) = some (.inr (5, [.ref (sz + 13), .ref (sz + 14), .ref (sz + 15), .ref (sz + 16), .ref (sz + 17), .ref (sz + 18), .ref (sz + 19), .ref (sz + 20), .int 0])) := by simp [hN8, hN7, hN6, hN5, hN4, hN3, hN2, hN1, hI_L, hI_T, hI_S, hI_H, hI_M, hI_B, hI_P, hI_R, xu, Nat.add_assoc]
theorem hN_13 {G : xG} {h : xH} {sz : Nat} : hN8 G h sz (sz + 13) = some (xz0 G 0 60) := by simp [hN8, hN7, hN6, hN5, hN4, hN3, hN2, hN1, hI_L, hI_T, hI_S, hI_H, hI_M, hI_B, hI_P, hI_R, xu, Nat.add_assoc]
theorem hN_14 {G : xG} {h : xH} {sz : Nat} : hN8 G h sz (sz + 14) = some (xz0 G 0 60) := by simp [hN8, hN7, hN6, hN5, hN4, hN3, hN2, hN1, hI_L, hI_T, hI_S, hI_H, hI_M, hI_B, hI_P, hI_R, xu, Nat.add_assoc]
theorem hN_15 {G : xG} {h : xH} {sz : Nat} : hN8 G h sz (sz + 15) = some (xz0 G 0 60) := by simp [hN8, hN7, hN6, hN5, hN4, hN3, hN2, hN1, hI_L, hI_T, hI_S, hI_H, hI_M, hI_B, hI_P, hI_R, xu, Nat.add_assoc]
theorem hN_16 {G : xG} {h : xH} {sz : Nat} : hN8 G h sz (sz + 16) = some (xz0 G 0 60) := by simp [hN8, hN7, hN6, hN5, hN4, hN3, hN2, hN1, hI_L, hI_T, hI_S, hI_H, hI_M, hI_B, hI_P, hI_R, xu, Nat.add_assoc]
theorem hN_17 {G : xG} {h : xH} {sz : Nat} : hN8 G h sz (sz + 17) = some (xz0 G 0 60) := by simp [hN8, hN7, hN6, hN5, hN4, hN3, hN2, hN1, hI_L, hI_T, hI_S, hI_H, hI_M, hI_B, hI_P, hI_R, xu, Nat.add_assoc]
theorem hN_18 {G : xG} {h : xH} {sz : Nat} : hN8 G h sz (sz + 18) = some (xz0 G 0 60) := by simp [hN8, hN7, hN6, hN5, hN4, hN3, hN2, hN1, hI_L, hI_T, hI_S, hI_H, hI_M, hI_B, hI_P, hI_R, xu, Nat.add_assoc]
theorem hN_19 {G : xG} {h : xH} {sz : Nat} : hN8 G h sz (sz + 19) = some (xz0 G 0 60) := by simp [hN8, hN7, hN6, hN5, hN4, hN3, hN2, hN1, hI_L, hI_T, hI_S, hI_H, hI_M, hI_B, hI_P, hI_R, xu, Nat.add_assoc]
theorem hN_20 {G : xG} {h : xH} {sz : Nat} : hN8 G h sz (sz + 20) = some (xz0 G 2 60) := by simp [hN8, hN7, hN6, hN5, hN4, hN3, hN2, hN1, hI_L, hI_T, hI_S, hI_H, hI_M, hI_B, hI_P, hI_R, xu, Nat.add_assoc]
theorem hN_21 {G : xG} {h : xH} {sz : Nat} : hN8 G h sz (sz + 21) = some (.inr (6, [.ref (sz + 22), .ref (sz + 23), .ref (sz + 24)])) := by simp [hN8, hN7, hN6, hN5, hN4, hN3, hN2, hN1, hI_L, hI_T, hI_S, hI_H, hI_M, hI_B, hI_P, hI_R, xu, Nat.add_assoc]
theorem hN_22 {G : xG} {h : xH} {sz : Nat} : hN8 G h sz (sz + 22) = some (xz0 G 0 60) := by simp [hN8, hN7, hN6, hN5, hN4, hN3, hN2, hN1, hI_L, hI_T, hI_S, hI_H, hI_M, hI_B, hI_P, hI_R, xu, Nat.add_assoc]
theorem hN_23 {G : xG} {h : xH} {sz : Nat} : hN8 G h sz (sz + 23) = some (xz0 G 0 60) := by simp [hN8, hN7, hN6, hN5, hN4, hN3, hN2, hN1, hI_L, hI_T, hI_S, hI_H, hI_M, hI_B, hI_P, hI_R, xu, Nat.add_assoc]
theorem hN_24 {G : xG} {h : xH} {sz : Nat} : hN8 G h sz (sz + 24) = some (xz0 G 2 60) := by simp [hN8, hN7, hN6, hN5, hN4, hN3, hN2, hN1, hI_L, hI_T, hI_S, hI_H, hI_M, hI_B, hI_P, hI_R, xu, Nat.add_assoc]
theorem hN_25 {G : xG} {h : xH} {sz : Nat} : hN8 G h sz (sz + 25) = some (.inr (7, [.ref (sz + 2), .ref (sz + 8), .ref (sz + 12), .ref (sz + 21), .ref (sz + 26), .ref (sz + 27), .ref (sz + 28), .int 0, .int 0])) := by simp [hN8, hN7, hN6, hN5, hN4, hN3, hN2, hN1, hI_L, hI_T, hI_S, hI_H, hI_M, hI_B, hI_P, hI_R, xu, Nat.add_assoc]
theorem hN_26 {G : xG} {h : xH} {sz : Nat} : hN8 G h sz (sz + 26) = some (xz0 G 0 60) := by simp [hN8, hN7, hN6, hN5, hN4, hN3, hN2, hN1, hI_L, hI_T, hI_S, hI_H, hI_M, hI_B, hI_P, hI_R, xu, Nat.add_assoc]
theorem hN_27 {G : xG} {h : xH} {sz : Nat} : hN8 G h sz (sz + 27) = some (xz0 G 0 60) := by simp [hN8, hN7, hN6, hN5, hN4, hN3, hN2, hN1, hI_L, hI_T, hI_S, hI_H, hI_M, hI_B, hI_P, hI_R, xu, Nat.add_assoc]
theorem hN_28 {G : xG} {h : xH} {sz : Nat} : hN8 G h sz (sz + 28) = some (xz0 G 2 60) := by simp [hN8, hN7, hN6, hN5, hN4, hN3, hN2, hN1, hI_L, hI_T, hI_S, hI_H, hI_M, hI_B, hI_P, hI_R, xu, Nat.add_assoc]
theorem hN_29 {G : xG} {h : xH} {sz : Nat} : hN8 G h sz (sz + 29) = some (.inr (8, [.ref (sz + 2), .ref (sz + 8), .ref (sz + 21), .ref (sz + 25), .int 0, .int 0])) := by simp [hN8, hN7, hN6, hN5, hN4, hN3, hN2, hN1, hI_L, hI_T, hI_S, hI_H, hI_M, hI_B, hI_P, hI_R, xu, Nat.add_assoc]
theorem hN_30 {G : xG} {h : xH} {sz : Nat} : hN8 G h sz (sz + 30) = some (.inr (9, [.ref sz, .ref (sz + 2), .ref (sz + 8), .ref (sz + 12), .ref (sz + 21), .ref (sz + 25), .ref (sz + 29)])) := by simp [hN8, hN7, hN6, hN5, hN4, hN3, hN2, hN1, hI_L, hI_T, hI_S, hI_H, hI_M, hI_B, hI_P, hI_R, xu, Nat.add_assoc]
theorem hN_lo {G : xG} {h : xH} {sz q : Nat} (hq : q < sz) : hN8 G h sz q = h q := by
  have e : ∀ i, q ≠ sz + i := fun i => by omega
  have e0 : q ≠ sz := by omega
  simp [hN8, hN7, hN6, hN5, hN4, hN3, hN2, hN1, hI_L, hI_T, hI_S, hI_H, hI_M, hI_B, hI_P, hI_R, xu, Nat.add_assoc, e, e0]
theorem hN_hi {G : xG} {h : xH} {sz q : Nat} (hq : sz + 31 ≤ q) : hN8 G h sz q = h q := by
  have e0 : q ≠ sz := by omega
  have e1 : q ≠ sz + 1 := by omega
  have e2 : q ≠ sz + 2 := by omega
  have e3 : q ≠ sz + 3 := by omega
  have e4 : q ≠ sz + 4 := by omega
  have e5 : q ≠ sz + 5 := by omega
  have e6 : q ≠ sz + 6 := by omega
  have e7 : q ≠ sz + 7 := by omega
  have e8 : q ≠ sz + 8 := by omega
  have e9 : q ≠ sz + 9 := by omega
  have e10 : q ≠ sz + 10 := by omega
  have e11 : q ≠ sz + 11 := by omega
  have e12 : q ≠ sz + 12 := by omega
  have e13 : q ≠ sz + 13 := by omega
  have e14 : q ≠ sz + 14 := by omega
  have e15 : q ≠ sz + 15 := by omega
  have e16 : q ≠ sz + 16 := by omega
  have e17 : q ≠ sz + 17 := by omega
  have e18 : q ≠ sz + 18 := by omega
  have e19 : q ≠ sz + 19 := by omega
  have e20 : q ≠ sz + 20 := by omega
  have e21 : q ≠ sz + 21 := by omega
  have e22 : q ≠ sz + 22 := by omega
  have e23 : q ≠ sz + 23 := by omega
  have e24 : q ≠ sz + 24 := by omega
  have e25 : q ≠ sz + 25 := by omega
  have e26 : q ≠ sz + 26 := by omega
  have e27 : q ≠ sz + 27 := by omega
  have e28 : q ≠ sz + 28 := by omega
  have e29 : q ≠ sz + 29 := by omega
  have e30 : q ≠ sz + 30 := by omega
  simp [hN8, hN7, hN6, hN5, hN4, hN3, hN2, hN1, hI_L, hI_T, hI_S, hI_H, hI_M, hI_B, hI_P, hI_R, xu, Nat.add_assoc, e0, e1, e2, e3, e4, e5, e6, e7, e8, e9, e10, e11, e12, e13, e14, e15, e16, e17, e18, e19, e20, e21, e22, e23, e24, e25, e26, e27, e28, e29, e30]
