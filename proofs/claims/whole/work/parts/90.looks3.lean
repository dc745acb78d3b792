/-! PURE: the reference's looks() finds what the class has marked -/
def isFix (t : List Nat) (L : qL) (k : Nat) : Bool := decide ((qg (L 1) (qg (L 6) k).2.1).2.2.1 = 0 ∧ (qg (L 1) (qg (L 6) k).2.1).2.2.2.1 = 1 ∧ qWr t L (qg (L 6) k).2.1 = 1)
theorem q_wr {t : List Nat} {L : qL} (hF : qFin t L) (hT : ∀ i, i < (L 1).length → (qg (L 1) i).2.2.2.1 ≤ 60 ∧ (qg (L 1) i).2.2.2.2 ≤ (qg (L 1) i).2.2.2.1) {i : Nat} (hi : i < (L 1).length) : qWr t L i ≤ 1000 := by
  have := cW_le (t := t) (L := L) (L 2).length i
  have := hT i hi
  have := hF.2.2.2.1
  unfold qWr
  omega
theorem r_looks_301 {b : Nat} {on : Nat → Bool} {gv : List (List Nat)} {t : List Nat} {L : qL} {D : Nat → Bool} (hP : qPg t L) (hT : ∀ i, i < (L 1).length → (qg (L 1) i).2.2.2.1 ≤ 60 ∧ (qg (L 1) i).2.2.2.2 ≤ (qg (L 1) i).2.2.2.1) (hD : ∀ x, D x = true → x % 10 ≠ 7) : ∀ (m v fuel : Nat) (M : xMem), v + m = (L 6).length → m < fuel → nLk M b on gv t L (dK 7 (isFix t L) (L 6) D v) → ∃ M', f_N_looks_301 b fuel (nI v) M = f_N_looks_378 b xFuel 0 M' ∧ nLk M' b on gv t L (dK 7 (isFix t L) (L 6) D (L 6).length) ∧ rF (rFdS b) M M' := by
  have hF := hP.2.1
  obtain ⟨f1, f2, f3, f4, f5, f6⟩ := hP.2.1
  have l60 := q_len60 hP.2.2.2.1 (f := 6) (by decide)
  intro m
  induction m with
  | zero =>
    intro v fuel M hv hf h
    obtain ⟨f, rfl⟩ : ∃ f, fuel = f + 1 := ⟨fuel - 1, by omega⟩
    have e : v = (L 6).length := by omega
    subst e
    refine ⟨M, ?_, h, rF.rfl⟩
    obtain ⟨hx, k0, k1, k22, k2, k26, k14, k15, k16, k6, _⟩ := h.1.1
    rw [f_N_looks_301, if_pos (show M.1 b 57 ≤ nI (L 6).length by rw [k6.1]; exact nI_le (Nat.le_refl _) (by omega))]
  | succ m ih =>
    intro v fuel M hv hf h
    obtain ⟨f, rfl⟩ : ∃ f, fuel = f + 1 := ⟨fuel - 1, by omega⟩
    have hvl : v < (L 6).length := by omega
    obtain ⟨hx, k0, k1, k22, k2, k26, k14, k15, k16, k6, _⟩ := h.1.1
    have fx := hP.2.2.2.2.2.2.1 _ (qg_mem hvl)
    have kd := hP.2.2.2.2.2.1.1 _ (qg_mem hvl)
    have kr := kT_real (t := t) (i := (qg (L 6) v).1) (by omega)
    have e31 : M.1 (b + 31) v = nI (pS (pLex t) (qg (L 6) v).1) := k6.at (c := (31, fun e => nI (pS (pLex t) e.1))) (by simp [c6]) hvl
    have e32 : M.1 (b + 32) v = nI (qg (L 6) v).2.1 := k6.at (c := (32, fun e => nI e.2.1)) (by simp [c6]) hvl
    have e20 : M.1 (b + 20) (qg (L 6) v).2.1 = nI (qg (L 1) (qg (L 6) v).2.1).2.2.1 := k1.at (c := (20, fun e => nI e.2.2.1)) (by simp [c1s]) fx.1
    have e21 : M.1 (b + 21) (qg (L 6) v).2.1 = nI (qg (L 1) (qg (L 6) v).2.1).2.2.2.1 := k1.at (c := (21, fun e => nI e.2.2.2.1)) (by simp [c1s]) fx.1
    have e23 : M.1 (b + 23) (qg (L 6) v).2.1 = nI (qWr t L (qg (L 6) v).2.1) := (k22 _ fx.1).2
    have b1 := (f5 _ fx.1).2.2
    have b2 := (hT _ fx.1).1
    have b3 := q_wr hF hT fx.1
    obtain ⟨M1, o1, l1, fr1⟩ := h.find (p := (qg (L 6) v).1) (r := 7) (is := isFix t L v) hP (by omega) (by unfold kok; rw [(code_mod (by omega)).1, (code_mod (by omega)).2]; exact ⟨kr, by omega⟩) (by
      cases q : dK 7 (isFix t L) (L 6) D v (10 * (qg (L 6) v).1 + 7) with
      | false => rfl
      | true =>
        rcases dK_mem (by omega) q with q | ⟨u, u1, u2, _⟩
        · have := hD _ q; omega
        · rw [(code_mod (by omega)).2] at u2
          have := q_inc hP.2.2.2.1 (f := 6) (by decide) u1 hvl
          omega) (fun _ e => absurd e.1 (by decide))
    obtain ⟨M', o2, r2, fr2⟩ := ih (v + 1) f M1 (by omega) (by omega) l1
    refine ⟨M', ?_, r2, fr1.trans fr2⟩
    rw [← o2]
    have x64 : xin (nI v) 64 = true := xin_T (by omega) (by omega)
    have cv : (nI v).toNatClampNeg = v := nI_clampT (by omega)
    have xt : xin (nI (qg (L 6) v).2.1) 64 = true := xin_T (by omega) (by omega)
    have ct : (nI (qg (L 6) v).2.1).toNatClampNeg = (qg (L 6) v).2.1 := nI_clampT (by omega)
    have last : ∀ is : Bool, is = isFix t L v → f_N_looks_359 b (f_N_looks_301 b f) (nI v) (bI is) M = f_N_looks_301 b f (nI (v + 1)) M1 := by
      intro is his
      subst his
      have o1 : f_N_finds b (bI (isFix t L v)) 7 (nI (pS (pLex t) (qg (L 6) v).1)) M = some ((), M1) := o1
      unfold f_N_looks_359
      rw [if_pos x64, cv, e31]
      simp only [xval]
      rw [o1, xb_some, nI_inc]
    unfold isFix at last
    rw [f_N_looks_301, if_neg (show ¬ M.1 b 57 ≤ nI v by rw [k6.1]; exact nI_ge (by omega) (by omega)), if_pos x64, cv, e32, if_pos xt, ct, e20, e21, e23, if_pos x64, if_pos xt]
    unfold f_N_looks_358
    by_cases d1 : (qg (L 1) (qg (L 6) v).2.1).2.2.1 = 0
    · rw [if_pos (show nI (qg (L 1) (qg (L 6) v).2.1).2.2.1 = 0 by rw [d1]; rfl)]
      by_cases d2 : (qg (L 1) (qg (L 6) v).2.1).2.2.2.1 = 1
      · rw [if_pos (show nI (qg (L 1) (qg (L 6) v).2.1).2.2.2.1 = 1 by rw [d2]; rfl), if_pos x64, if_pos xt]
        by_cases d3 : qWr t L (qg (L 6) v).2.1 = 1
        · rw [if_pos (show nI (qWr t L (qg (L 6) v).2.1) = 1 by rw [d3]; rfl)]
          exact last true (decide_eq_true ⟨d1, d2, d3⟩).symm
        · rw [if_neg (show ¬ nI (qWr t L (qg (L 6) v).2.1) = 1 from fun e => d3 ((nI_eq (b := 1) (by omega) (by omega)).mp e))]
          exact last false (decide_eq_false (fun e => d3 e.2.2)).symm
      · rw [if_neg (show ¬ nI (qg (L 1) (qg (L 6) v).2.1).2.2.2.1 = 1 from fun e => d2 ((nI_eq (b := 1) (by omega) (by omega)).mp e))]
        exact last false (decide_eq_false (fun e => d2 e.2.1)).symm
    · rw [if_neg (show ¬ nI (qg (L 1) (qg (L 6) v).2.1).2.2.1 = 0 from fun e => d1 ((nI_eq (b := 0) (by omega) (by omega)).mp e))]
      exact last false (decide_eq_false (fun e => d1 e.1)).symm
/-- all that looks() looks at -/
def dAll1 (t : List Nat) (L : qL) : Nat → Bool := dU t L (fun _ => false) (L 2).length
def dAll2 (t : List Nat) (L : qL) : Nat → Bool := dT2 t L (dAll1 t L) (L 1).length
def dAll3 (t : List Nat) (L : qL) : Nat → Bool := dK 4 (fun _ => true) (L 14) (dAll2 t L) (L 14).length
def dAll4 (t : List Nat) (L : qL) : Nat → Bool := dK 5 (fun _ => true) (L 15) (dAll3 t L) (L 15).length
def dAll5 (t : List Nat) (L : qL) : Nat → Bool := dK 6 (fun _ => true) (L 16) (dAll4 t L) (L 16).length
def dAll6 (t : List Nat) (L : qL) : Nat → Bool := dK 7 (isFix t L) (L 6) (dAll5 t L) (L 6).length
def dAll7 (t : List Nat) (L : qL) : Nat → Bool := dK 8 (fun _ => true) (L 18) (dAll6 t L) (L 18).length
def dAll (t : List Nat) (L : qL) : Nat → Bool := dK 9 (fun _ => true) (L 19) (dAll7 t L) (L 19).length
theorem dAll1_r {t : List Nat} {L : qL} {x : Nat} (h : dAll1 t L x = true) : x % 10 = 0 ∨ x % 10 = 2 ∨ x % 10 = 3 := by
  rcases dU_mem h with h | ⟨u, _, _, h⟩
  · cases h
  · exact h
theorem dAll2_r {t : List Nat} {L : qL} {x : Nat} (h : dAll2 t L x = true) : x % 10 ≤ 4 ∧ (x % 10 = 4 → ∃ u, u < (L 1).length ∧ x / 10 = (qg (L 1) u).1) := by
  rcases dT2_mem h with h | ⟨u, h1, h2, h3⟩
  · have := dAll1_r h; exact ⟨by omega, fun e => by omega⟩
  · exact ⟨by omega, fun _ => ⟨u, h1, h2⟩⟩
theorem dAll3_r {t : List Nat} {L : qL} {x : Nat} (h : dAll3 t L x = true) : x % 10 ≤ 4 := by
  rcases dK_mem (by omega) h with h | ⟨u, _, _, h, _⟩
  · exact (dAll2_r h).1
  · omega
theorem dAll4_r {t : List Nat} {L : qL} {x : Nat} (h : dAll4 t L x = true) : x % 10 ≤ 5 := by
  rcases dK_mem (by omega) h with h | ⟨u, _, _, h, _⟩
  · have := dAll3_r h; omega
  · omega
theorem dAll5_r {t : List Nat} {L : qL} {x : Nat} (h : dAll5 t L x = true) : x % 10 ≤ 6 := by
  rcases dK_mem (by omega) h with h | ⟨u, _, _, h, _⟩
  · have := dAll4_r h; omega
  · omega
theorem dAll6_r {t : List Nat} {L : qL} {x : Nat} (h : dAll6 t L x = true) : x % 10 ≤ 7 := by
  rcases dK_mem (by omega) h with h | ⟨u, _, _, h, _⟩
  · have := dAll5_r h; omega
  · omega
theorem dAll7_r {t : List Nat} {L : qL} {x : Nat} (h : dAll7 t L x = true) : x % 10 ≤ 8 := by
  rcases dK_mem (by omega) h with h | ⟨u, _, _, h, _⟩
  · have := dAll6_r h; omega
  · omega
theorem nTrue {b : Bool} (h : b = true → False) : b = false := by cases b with
  | false => rfl
  | true => exact absurd rfl h
theorem kok_r {t : List Nat} {p r : Nat} (hr : r < 10) (h : p < nT t ∧ ((kT t p = 23 ∧ r ≤ 4) ∨ r = 5 ∨ (r = 6 ∧ kT t p = 9) ∨ (r = 7 ∧ kT t p = 0) ∨ (r = 8 ∧ kT t p = 18) ∨ (r = 9 ∧ kT t p = 20))) : kok t (10 * p + r) := by
  unfold kok; rw [(code_mod hr).1, (code_mod hr).2]; exact h
theorem r_looks0 {M : xMem} {b : Nat} {on : Nat → Bool} {gv : List (List Nat)} {t : List Nat} {L : qL} (hP : qPg t L) (hT : ∀ i, i < (L 1).length → (qg (L 1) i).2.2.2.1 ≤ 60 ∧ (qg (L 1) i).2.2.2.2 ≤ (qg (L 1) i).2.2.2.1) (h : nCx M b on gv t L) : ∃ M', f_N_looks b M = some ((), M') ∧ nLk M' b on gv t L (dAll t L) ∧ rF (rFdS b) M M' := by
  obtain ⟨f1, f2, f3, f4, f5, f6⟩ := hP.2.1
  have hI := hP.2.2.2.1
  have hM := hP.2.2.2.2.2.1
  have l14 := q_len60 hI (f := 14) (by decide)
  have l15 := q_len60 hI (f := 15) (by decide)
  have l16 := q_len60 hI (f := 16) (by decide)
  have l6 := q_len60 hI (f := 6) (by decide)
  have l18 := q_len60 hI (f := 18) (by decide)
  have l19 := q_len60 hI (f := 19) (by decide)
  have fr0 : rF (rFdS b) M (wI (wI M b 63 (nI 0)) b 64 (nI 0)) := (rF.I (by unfold rFdS; omega)).trans (rF.I (by unfold rFdS; omega))
  have z : ∀ (P : Nat → Bool) n, cnt (fun c => false && P c) n = 0 := by
    intro P n
    induction n with
    | zero => rfl
    | succ n ih => rw [cnt, ih]; rfl
  have n0 : nLk (wI (wI M b 63 (nI 0)) b 64 (nI 0)) b on gv t L (dU t L (fun _ => false) 0) := by
    refine ⟨h.fd fr0, ?_, ?_, (fun c hc => absurd (show false = true from hc) (by decide)), (fun c hc => absurd (show (false && _) = true from hc) (by simp))⟩
    · show _ = nI (cnt (fun c => false && _) _)
      rw [z, mI_k (by omega), mI_s rfl rfl]
    · show _ = nI (cnt (fun c => false && _) _)
      rw [z, mI_s rfl rfl]
  obtain ⟨M1, o1, q1, g1⟩ := r_looks_12 hP (L 2).length 0 xFuel _ (by omega) (by unfold xFuel; omega) n0
  obtain ⟨M2, o2, q2, g2⟩ := r_looks_120 (D := dAll1 t L) hP (fun x hx => dAll1_r hx) (L 1).length 0 xFuel M1 (by omega) (by unfold xFuel; omega) q1
  obtain ⟨M3, o3, q3, g3⟩ := r_loop (b := b) (sz := 54) (col := 28) (r := 4) (f := 14) (on := on) (gv := gv) (D := dAll2 t L) (F := f_N_looks_216 b) (K := f_N_looks_244 b xFuel 0) hP (by omega) (by omega) (by decide) (fun _ _ _ => rfl) (fun M h => by
      obtain ⟨⟨hx, k0, k1, k22, k2, k26, k14, k15, k16, k6, _⟩, _⟩ := h
      exact ⟨k14.1, fun i hi => k14.at (c := (28, fun e => nI (pS (pLex t) e.1))) (by simp [c14]) hi⟩) (fun i hi => by
      have := hM.2.1 _ (qg_mem hi)
      exact kok_name this (by omega)) (fun i hi => nTrue (fun e => by
      obtain ⟨u, u1, u2⟩ := (dAll2_r e).2 (code_mod (by omega)).1
      rw [(code_mod (by omega)).2] at u2
      exact hP.2.2.2.2.1 _ (qg_mem hi) u u1 u2)) (L 14).length 0 xFuel M2 (by omega) (by unfold xFuel; omega) q2
  obtain ⟨M4, o4, q4, g4⟩ := r_loop (b := b) (sz := 55) (col := 29) (r := 5) (f := 15) (on := on) (gv := gv) (D := dAll3 t L) (F := f_N_looks_244 b) (K := f_N_looks_272 b xFuel 0) hP (by omega) (by omega) (by decide) (fun _ _ _ => rfl) (fun M h => by
      obtain ⟨⟨hx, k0, k1, k22, k2, k26, k14, k15, k16, k6, _⟩, _⟩ := h
      exact ⟨k15.1, fun i hi => k15.at (c := (29, fun e => nI (pS (pLex t) e.1))) (by simp [c15]) hi⟩) (fun i hi => kok_r (by omega) ⟨q_bnd hI (by decide) hi, by omega⟩) (fun i hi => nTrue (fun e => by
      have := dAll3_r e; omega)) (L 15).length 0 xFuel M3 (by omega) (by unfold xFuel; omega) q3
  obtain ⟨M5, o5, q5, g5⟩ := r_loop (b := b) (sz := 56) (col := 30) (r := 6) (f := 16) (on := on) (gv := gv) (D := dAll4 t L) (F := f_N_looks_272 b) (K := f_N_looks_301 b xFuel 0) hP (by omega) (by omega) (by decide) (fun _ _ _ => rfl) (fun M h => by
      obtain ⟨⟨hx, k0, k1, k22, k2, k26, k14, k15, k16, k6, _⟩, _⟩ := h
      exact ⟨k16.1, fun i hi => k16.at (c := (30, fun e => nI (pS (pLex t) e.1))) (by simp [c16]) hi⟩) (fun i hi => kok_r (by omega) ⟨q_bnd hI (by decide) hi, by have := hM.2.2.1 _ (qg_mem hi); omega⟩) (fun i hi => nTrue (fun e => by
      have := dAll4_r e; omega)) (L 16).length 0 xFuel M4 (by omega) (by unfold xFuel; omega) q4
  obtain ⟨M6, o6, q6, g6⟩ := r_looks_301 (D := dAll5 t L) hP hT (fun x hx => by have := dAll5_r hx; omega) (L 6).length 0 xFuel M5 (by omega) (by unfold xFuel; omega) q5
  obtain ⟨M7, o7, q7, g7⟩ := r_loop (b := b) (sz := 58) (col := 33) (r := 8) (f := 18) (on := on) (gv := gv) (D := dAll6 t L) (F := f_N_looks_378 b) (K := f_N_looks_407 b xFuel 0) hP (by omega) (by omega) (by decide) (fun _ _ _ => rfl) (fun M h => by
      obtain ⟨⟨hx, k0, k1, k22, k2, k26, k14, k15, k16, k6, k18, _⟩, _⟩ := h
      exact ⟨k18.1, fun i hi => k18.at (c := (33, fun e => nI (pS (pLex t) e.1))) (by simp [c18]) hi⟩) (fun i hi => kok_r (by omega) ⟨q_bnd hI (by decide) hi, by have := (hM.2.2.2.1 _ (qg_mem hi)).1; omega⟩) (fun i hi => nTrue (fun e => by
      have := dAll6_r e; omega)) (L 18).length 0 xFuel M6 (by omega) (by unfold xFuel; omega) q6
  obtain ⟨M8, o8, q8, g8⟩ := r_loop (b := b) (sz := 59) (col := 35) (r := 9) (f := 19) (on := on) (gv := gv) (D := dAll7 t L) (F := f_N_looks_407 b) (K := fun M => some ((), M)) hP (by omega) (by omega) (by decide) (fun _ _ _ => rfl) (fun M h => by
      obtain ⟨⟨hx, k0, k1, k22, k2, k26, k14, k15, k16, k6, k18, k19, _⟩, _⟩ := h
      exact ⟨k19.1, fun i hi => k19.at (c := (35, fun e => nI (pS (pLex t) e.1))) (by simp [c19]) hi⟩) (fun i hi => kok_r (by omega) ⟨q_bnd hI (by decide) hi, by have := hM.2.2.2.2 _ (qg_mem hi); omega⟩) (fun i hi => nTrue (fun e => by
      have := dAll7_r e; omega)) (L 19).length 0 xFuel M7 (by omega) (by unfold xFuel; omega) q7
  refine ⟨M8, ?_, q8, (((((((fr0.trans g1).trans g2).trans g3).trans g4).trans g5).trans g6).trans g7).trans g8⟩
  have e0 : f_N_looks b M = f_N_looks_12 b xFuel (nI 0) (wI (wI M b 63 (nI 0)) b 64 (nI 0)) := rfl
  have o2 : f_N_looks_120 b xFuel 0 M1 = f_N_looks_216 b xFuel 0 M2 := o2
  have o3 : f_N_looks_216 b xFuel 0 M2 = f_N_looks_244 b xFuel 0 M3 := o3
  have o4 : f_N_looks_244 b xFuel 0 M3 = f_N_looks_272 b xFuel 0 M4 := o4
  have o5 : f_N_looks_272 b xFuel 0 M4 = f_N_looks_301 b xFuel 0 M5 := o5
  have o6 : f_N_looks_301 b xFuel 0 M5 = f_N_looks_378 b xFuel 0 M6 := o6
  have o7 : f_N_looks_378 b xFuel 0 M6 = f_N_looks_407 b xFuel 0 M7 := o7
  rw [e0, o1, o2, o3, o4, o5, o6, o7]
  exact o8
