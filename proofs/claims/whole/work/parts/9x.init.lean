/-! PURE: the beginning -/
theorem pLex_nil : pLex [] = [(26, 0, 0)] := by
  have e : pScan pBlank [] 0 = 0 := pScan_end (Nat.le_refl _)
  unfold pLex
  rw [e]
  exact lex_end [] 60
theorem prog_nil : prog [] := by
  have k0 : kT [] 0 = 26 := by unfold kT; rw [pLex_nil]; rfl
  refine ⟨by decide, fun i => by rw [nil_pc]; decide, 0, 0, q0.2.2.2, ?_⟩
  refine q_run_of (m := 1) (by omega) ?_ (.inr ⟨_, _, _, rfl⟩)
  have e : qStep (kT []) (wT' []) (dT []) q0 = .inr ([], 0, 0, q0.2.2.2) := by
    show qLst (kT []) 1 26 0 [] 0 0 q0.2.2.2 = _
    unfold qLst
    rw [if_neg (fun h => h k0), if_neg (by decide)]
  rw [qGo, e]
  rfl
theorem bits_1023 : rBits (fun r => (fun _ => true) r = true) (1023 : Int32) := by
  refine ⟨1023, by decide, rfl, ?_⟩
  intro r hr
  have : ∀ r, r < 10 → (1023 : Nat).testBit r = true := by decide
  rw [this r hr]
/-- the memory of both -/
def mJ (n : Nat) (MD MN : xMem) : xMem := (fun q => if q < n then MD.1 q else MN.1 q, MD.2)
theorem init_D {a : Nat} {M : xMem} (h1 : M.1 = (m0D a).1) (hR : M.2.2.2 = (m0D a).2.2.2) : ∃ M1, f_R_study (a + 5) M = some (-1, M1) ∧ dA (wI M1 a 4 (-1)) a (fun _ => true) [] [] [] (-1) 0 ∧ outR a (a + 67) M (wI M1 a 4 (-1)) ∧ M1.2.2.2 = M.2.2.2 := by
  have z : ∀ q k, ¬ (q = a + 3 ∧ k = 2) → M.1 q k = 0 := fun q k h => by rw [h1]; exact if_neg h
  have t0 : pTx M (a + 5) [] := pTx_nil (z _ _ (by omega))
  obtain ⟨tok, sc, hq⟩ := prog_nil.run
  rcases p_study t0 with ⟨e, M2, s1, _⟩ | ⟨tok2, sc2, L2, M2, s1, s2, s3, s4⟩
  · rw [hq] at s1; cases s1
  have eL := Lof_eq s1
  subst eL
  have on1 : ∀ q, a + 1 ≤ q → (wI M2 a 4 (-1)).1 q = M2.1 q := fun q hq => wI_ne _ _ _ (by omega)
  refine ⟨M2, s2, ⟨prog_nil, ⟨a + 5, a + 36, ⟨?_, ?_, .inl ⟨rfl, rfl⟩⟩, ?_, ?_⟩, ?_, mI_s rfl rfl, ?_⟩, ?_, s4.2⟩
  · show M2.2.2.2 0 = a + 5
    rw [s4.2, hR]; rfl
  · show M2.2.2.2 1 = a + 36
    rw [s4.2, hR]; rfl
  · refine ⟨?_, by decide, ?_, fun i hi => absurd hi (by simp), fun x hx => absurd hx (by simp)⟩
    · rw [on1 _ (by omega), (s4.1 (a + 3) (by omega)).1, z _ _ (by omega)]; rfl
    · rw [on1 _ (by omega), (s4.1 (a + 3) (by omega)).1]
      have : M.1 (a + 3) 2 = 1023 := by rw [h1]; exact if_pos ⟨rfl, rfl⟩
      rw [this]
      exact bits_1023
  · exact rEnd.on s3 (fun q h1 _ => ⟨on1 q (by omega), rfl, rfl⟩)
  · refine pTx_nil ?_
    rw [on1 _ (by omega), (s4.1 (a + 1) (by omega)).1]
    exact z _ _ (by omega)
  · rw [mI_k (by decide), (s4.1 a (by omega)).1]
    exact z _ _ (by omega)
  · exact (s4.out (by omega)).trans (fun q hq => ⟨wI_ne _ _ _ (by omega), rfl, rfl⟩)
theorem init_N {n : Nat} : ∃ M1, f_N_scans n (m0N n) = some ((), M1) ∧ mA M1 n (fun _ => true) [] [] [] (-1) 0 := by
  have z : ∀ q k, ¬ (q = n ∧ k = 3) → (m0N n).1 q k = 0 := fun q k h => if_neg h
  have t0 : rTx (m0N n) n [] := ⟨z _ _ (by omega), by decide, fun i hi => absurd hi (by simp), fun i => by rw [nil_pc]; decide⟩
  obtain ⟨tok, sc, hq⟩ := prog_nil.run
  rcases r_scan t0 with ⟨e, M2, s1, _⟩ | ⟨tok2, sc2, L2, M2, s1, s2, s3, s4, s5⟩
  · rw [hq] at s1; cases s1
  have eL := Lof_eq s1
  subst eL
  have f2 := s5.2
  refine ⟨M2, s2, ⟨s4, ?_, by decide, fun i hi => absurd hi (by simp), ?_, fun x hx => absurd hx (by simp)⟩, ⟨?_, fun i hi => absurd hi (by simp)⟩, ?_, ?_⟩
  · rw [f2 _ _ (by unfold rScS; omega), z _ _ (by omega)]; rfl
  · intro r hr
    rw [f2 _ _ (by unfold rScS; omega), z _ _ (by omega)]; rfl
  · rw [f2 _ _ (by unfold rScS; omega), z _ _ (by omega)]; rfl
  · rw [f2 _ _ (by unfold rScS; omega)]; exact if_pos ⟨rfl, rfl⟩
  · rw [f2 _ _ (by unfold rScS; omega), z _ _ (by omega)]; rfl
theorem init_J {a n : Nat} {MD MN : xMem} (hn : a + 67 ≤ n) (hd : dA MD a (fun _ => true) [] [] [] (-1) 0) (hN : mA MN n (fun _ => true) [] [] [] (-1) 0) : jR (mJ n MD MN) a n := by
  refine ⟨_, _, _, _, _, _, hd.on (fun q _ h2 => ⟨if_pos (by omega), rfl, rfl⟩) rfl, hN.on (fun q h => if_neg (by omega))⟩
