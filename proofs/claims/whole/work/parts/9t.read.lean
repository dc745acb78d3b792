/-! PURE: read, mend -/
theorem r_keep {n : Nat} {t : List Nat} (ht : t.length ≤ 160) {K : Int32 → xMem → Option (Int32 × xMem)} : ∀ (m v f : Nat) (M : xMem), v + m = t.length → m < f → (∀ i, i < t.length → M.1 (n + 2) i = nI (pc t i)) → (∀ i, i < v → M.1 (n + 3) i = nI (pc t i)) → ∃ M' g, f_N_read_12 n f (nI t.length) (nI v) M = f_N_read_12 n (g + 1) (nI t.length) (nI t.length) M' ∧ (∀ i, i < t.length → M'.1 (n + 3) i = nI (pc t i)) ∧ rF (fun a _ => a = n + 3) M M' := by
  intro m
  induction m with
  | zero =>
    intro v f M e hf h1 h2
    have : v = t.length := by omega
    subst this
    exact ⟨M, f - 1, by rw [show f - 1 + 1 = f by omega], fun i hi => h2 i (by omega), .rfl⟩
  | succ m ih =>
    intro v f M e hf h1 h2
    obtain ⟨g, ef⟩ : ∃ g, f = g + 1 := ⟨f - 1, by omega⟩
    subst ef
    have e1 : nI v + Int32.ofInt 1 = nI (v + 1) := nI_1 v
    obtain ⟨M', g', w1, w2, w3⟩ := ih (v + 1) g (wI M (n + 3) v (nI (pc t v))) (by omega) (by omega) (fun i hi => by rw [mI_n (by omega)]; exact h1 i hi) (fun i hi => by
      by_cases c : i = v
      · subst c; rw [mI_s rfl rfl]
      · rw [mI_k c]; exact h2 i (by omega))
    refine ⟨M', g', ?_, w2, (rF.I (S := fun a _ => a = n + 3) rfl).trans w3⟩
    rw [← w1, f_N_read_12, if_neg (nI_ge (by omega) (by omega)), if_pos (xin_nI (by omega) (by decide)), nI_clamp (by omega), h1 v (by omega), e1]
    unfold xval xlet
    dsimp only
    rw [if_pos (xin_nI (by omega) (by decide))]
/-- what read() of the reference may write -/
def rRdS (n : Nat) (a k : Nat) : Prop := (a = n ∧ (k = 0 ∨ k = 1 ∨ k = 2 ∨ k = 3 ∨ k = 4 ∨ (7 ≤ k ∧ k ≤ 9) ∨ (27 ≤ k ∧ k ≤ 64))) ∨ a = n + 2 ∨ a = n + 3 ∨ (n + 8 ≤ a ∧ a ≤ n + 41)
theorem nSt.rd {M M' : xMem} {b : Nat} {on : Nat → Bool} {gv : List (List Nat)} (h : nSt M b on gv) (f : rF (rRdS b) M M') : nSt M' b on gv := by
  obtain ⟨s1, s2, s3, s4, s5⟩ := h
  refine ⟨by rw [f.2 _ _ (by unfold rRdS; omega)]; exact s1, s2, ?_, ?_, s5⟩
  · intro i hi
    have := s3 i hi
    exact ⟨by rw [f.2 _ _ (by unfold rRdS; omega)]; exact this.1, fun k hk => by rw [f.2 _ _ (by unfold rRdS; omega)]; exact this.2 k hk⟩
  · intro r hr
    rw [f.2 _ _ (by unfold rRdS; omega)]; exact s4 r hr
theorem nil_pc (i : Nat) : pc [] i = 0 := by unfold pc; simp
theorem j_read {M : xMem} {b n : Nat} (hn : b + 67 ≤ n) (h : jR M b n) : ∃ res M1 r M', f_D_read b M = some (res, M1) ∧ f_N_read n M1 = some (r, M') ∧ ansI (fun _ => 1) res r (M'.1 n 0) ∧ jR M' b n ∧ outR b (b + 67) M M1 ∧ rF (rAll n) M1 M' := by
  obtain ⟨on, gv, t, w, wp, rd, hd, hN⟩ := h
  obtain ⟨hp, ⟨r0, r1, hS⟩, hw, h4, h5⟩ := id hd
  have w160 := hw.2.1
  have hr := hS.1.2.2
  have r15 : r1 = b + 5 ∨ r1 = b + 36 := by omega
  have r05 : r0 = b + 5 ∨ r0 = b + 36 := by omega
  -- the class: the letters
  have fA : pFr r1 (r1 + 31) M (wI M r1 1 0) := pFr.I (by omega)
  obtain ⟨MB, b1, b2, b3⟩ := p_addPart (M := wI M r1 1 0) (b := r1) (a := b + 1) (p := 0) (q := w.length) (x := []) (s := w) (pTx_nil (mI_s rfl rfl)) (hw.on (fA.on (by omega))) (by omega) (Nat.zero_le _) (Nat.le_refl _) (by simp; omega)
  rw [List.nil_append, sl_all] at b2
  have fB : pFr r1 (r1 + 31) M MB := fA.trans (b3.mono (by omega) (by omega))
  -- written is cleared
  have fC : pFr (b + 1) (b + 2) MB (wI MB (b + 1) 1 0) := pFr.I (by omega)
  have tC : pTx (wI MB (b + 1) 1 0) r1 w := b2.on (fC.on (by omega))
  have hSB := hS.fr fB
  have hSC : dS (wI MB (b + 1) 1 0) b r0 r1 on gv t (Lof t) := ⟨hSB.1, hSB.2.1.on (fC.on (by omega)), hSB.2.2.on (fC.on (by omega))⟩
  have wC : pTx (wI MB (b + 1) 1 0) (b + 1) [] := pTx_nil (mI_s rfl rfl)
  have oC : outR b (b + 67) M (wI MB (b + 1) 1 0) := (fB.out (by omega)).trans (fC.out (by omega))
  have b5C : (wI MB (b + 1) 1 0).1 b 5 = nI rd := by rw [mI_n (by omega), (fB.1 b (by omega)).1]; exact h5
  -- the class as far as study
  have eD : f_D_read b M = xbind (f_R_study r1 (wI MB (b + 1) 1 0)) fun r27 M => xlet (wI M b 4 r27) fun M => if M.1 b 4 < 0 then (xbind (f_D_takeSpare b M) fun r30 M => xsrc b (M.2.2.2 0) fun z32 => xbind (f_G_findingsIn (b + 3) z32 M) fun r33 M => some (.inl r33, M)) else (some (.inr 0, M)) := by
    have bw : (wI M r1 1 0).1 (b + 1) 1 = nI w.length := by rw [mI_n (by omega)]; exact hw.1
    have b1 : f_L_addPart r1 (b + 1) 0 (nI w.length) (wI M r1 1 0) = some ((), MB) := b1
    have R1 : MB.2.2.2 1 = r1 := hSB.1.2.1
    have Ra : (wI M r1 1 0).2.2.2 1 = r1 := hS.1.2.1
    have Rc : (wI MB (b + 1) 1 0).2.2.2 1 = r1 := R1
    unfold f_D_read xsrc f_L_clear xlet xval
    rw [hS.1.2.1, if_pos r15]
    dsimp only
    rw [xb_some, Ra, if_pos r15, bw, b1, xb_some, xb_some, Rc, if_pos r15]
  -- the reference: the old text is kept, the new one taken
  have ref : ∀ M1 : xMem, mA M1 n on gv t w wp rd → ∃ MD ME g, f_N_read n M1 = (xval (ME.1 n 1) fun x18 => xbind (f_N_becomes n (n + 1) 160 x18 ME) fun r19 M => xlet (wI M n 1 0) fun M => xval (M.1 n 4) fun x21 => xlet (wI M n 3 x21) fun M => if M.1 n 4 < 0 then (f_N_read_76 n (nI t.length) (nI t.length) M) else (xbind (f_N_becomes n (n + 3) 160 (nI t.length) M) fun r23 M => f_N_read_76 n (nI t.length) (nI t.length) M)) ∧ f_N_becomes n (n + 1) 160 (nI w.length) ME = xbind (f_N_scans n MD) (fun _ M => some ((), M)) ∧ ME.1 n 1 = nI w.length ∧ rTx MD n w ∧ (∀ i, i < t.length → MD.1 (n + 3) i = nI (pc t i)) ∧ MD.1 n 0 = 0 ∧ nSt MD n on gv ∧ MD.1 n 5 = nI rd ∧ rF (rRdS n) M1 MD ∧ g = 0 := by
    intro M1 hN1
    have tx := hN1.er (v := 0)
    obtain ⟨ME, g, k1, k2, k3⟩ := r_keep (n := n) (t := t) hp.1 (K := fun _ _ => none) t.length 0 xFuel (wI M1 n 0 0) (by omega) (by have := xFuel_200; have := hp.1; omega) tx.1.1.1.1.2.2.1 (fun i hi => by omega)
    have e1 : ME.1 n 1 = nI w.length := by rw [k3.2 _ _ (by omega)]; exact tx.2.1.1
    obtain ⟨MD, d1, d2, d3⟩ := r_becomes (M := ME) (b := n) (p1 := n + 1) (p1n := 160) w160 w160 (by omega) ⟨by omega, by omega⟩ hw.2.2.2 (fun k hk => by rw [k3.2 _ _ (by omega)]; exact tx.2.1.2 k hk)
    have fD : rF (rRdS n) M1 MD := ((rF.I (by unfold rRdS; omega)).trans (k3.mono (by intro a k; unfold rRdS; omega))).trans (d3.mono (by intro a k; unfold rRdS; omega))
    refine ⟨MD, ME, 0, ?_, d1, e1, d2, fun i hi => by rw [d3.2 _ _ (by omega)]; exact k2 i hi, ?_, hN1.1.2.rd fD, ?_, fD, rfl⟩
    · have sz : (wI M1 n 0 0).1 n 2 = nI t.length := tx.1.1.1.1.1
      have k1 : f_N_read_12 n xFuel (nI t.length) 0 (wI M1 n 0 0) = _ := k1
      unfold f_N_read xlet
      dsimp only
      rw [sz, k1, f_N_read_12, if_pos (nI_le (Nat.le_refl _) (by have := hp.1; omega))]
      rfl
    · rw [d3.2 _ _ (by omega), k3.2 _ _ (by omega), mI_s rfl rfl]
    · rw [d3.2 _ _ (by omega), k3.2 _ _ (by omega)]; exact tx.2.2.2
  rcases p_study tC with ⟨e, M2, s1, s2, s3, s4, s5⟩ | ⟨tok2, sc2, L2, M2, s1, s2, s3, s4⟩
  · -- no PROGRAM
    have pe := (pS_le w e).1
    have f2 : pFr r1 (r1 + 31) (wI MB (b + 1) 1 0) M2 := s5.mono (by omega) (by omega)
    have hS2 := hSC.fr f2
    have n0 : ¬ nI (pS (pLex w) e) < 0 := nI_pos (by omega)
    have on1 : ∀ a, b + 1 ≤ a → (wI M2 b 4 (nI (pS (pLex w) e))).1 a = M2.1 a := fun a ha => wI_ne _ _ _ (by omega)
    have out1 : outR b (b + 67) M (wI M2 b 4 (nI (pS (pLex w) e))) := (oC.trans (f2.out (by omega))).trans (fun a ha => ⟨wI_ne _ _ _ (by omega), rfl, rfl⟩)
    have hd1 : dA (wI M2 b 4 (nI (pS (pLex w) e))) b on gv t [] (nI (pS (pLex w) e)) rd := by
      refine ⟨hp, ⟨r0, r1, hS2.1, hS2.2.1.on (fun a ha _ => ⟨on1 a (by omega), rfl, rfl⟩), hS2.2.2.on (fun a ha _ => ⟨on1 a (by omega), rfl, rfl⟩)⟩, ?_, mI_s rfl rfl, ?_⟩
      · exact (wC.on (f2.on (by omega))).on (fun a ha _ => ⟨on1 a (by omega), rfl, rfl⟩)
      · rw [mI_k (by decide), (f2.1 b (by omega)).1]; exact b5C
    have hN1 := hN.fr out1 hn
    obtain ⟨MD, ME, g, q1, q2, q3, q4, q5, q6, q7, q8, q9, _⟩ := ref _ hN1
    rcases r_scan q4 with ⟨e', M4, u1, u2, u3, u4, u5⟩ | ⟨tok3, sc3, L3, M4, u1, _⟩
    · rw [s1] at u1
      injection u1 with u1
      subst u1
      -- the old text is read again
      have fu := u5.2
      have e41 : (wI M4 n 1 0).1 n 4 = nI (pS (pLex w) e) := by rw [mI_k (by decide)]; exact u4
      generalize e5 : wI (wI M4 n 1 0) n 3 (nI (pS (pLex w) e)) = M5 at *
      have f45 : rF (fun a k => a = n ∧ (k = 1 ∨ k = 3)) M4 M5 := by rw [← e5]; exact (rF.I ⟨rfl, .inl rfl⟩).trans (rF.I ⟨rfl, .inr rfl⟩)
      have t3 : ∀ k, k < t.length → M5.1 (n + 3) k = nI (pc t k) := fun k hk => by
        rw [f45.2 _ _ (by omega), fu _ _ (by unfold rScS; omega)]; exact q5 k hk
      obtain ⟨M6, v1, v2, v3⟩ := r_becomes (M := M5) (b := n) (p1 := n + 3) (p1n := 160) hp.1 hp.1 (by omega) ⟨by omega, by omega⟩ hp.2.1 t3
      obtain ⟨tk, sk, hqt⟩ := hp.run
      rcases r_scan v2 with ⟨e', M7, x1, _⟩ | ⟨tok3, sc3, L3, M7, x1, x2, x3, x4, x5⟩
      · rw [hqt] at x1; cases x1
      have eL := Lof_eq x1
      subst eL
      have f57 : rF (rRdS n) M5 M7 := (v3.mono (by intro a k; unfold rRdS; omega)).trans (x5.mono (by intro a k; unfold rScS rRdS; omega))
      have f17 : rF (rRdS n) (wI M2 b 4 (nI (pS (pLex w) e))) M7 := ((q9.trans (u5.mono (by intro a k; unfold rScS rRdS; omega))).trans (f45.mono (by intro a k; unfold rRdS; omega))).trans f57
      have k0 : M7.1 n 0 = 0 := by rw [x5.2 _ _ (by unfold rScS; omega), v3.2 _ _ (by omega), f45.2 _ _ (by omega), fu _ _ (by unfold rScS; omega)]; exact q6
      have k1 : M7.1 n 1 = 0 := by rw [x5.2 _ _ (by unfold rScS; omega), v3.2 _ _ (by omega), ← e5, mI_k (by decide), mI_s rfl rfl]
      have k3 : M7.1 n 3 = nI (pS (pLex w) e) := by rw [x5.2 _ _ (by unfold rScS; omega), v3.2 _ _ (by omega), ← e5, mI_s rfl rfl]
      have k5 : M7.1 n 5 = nI rd := by rw [x5.2 _ _ (by unfold rScS; omega), v3.2 _ _ (by omega), f45.2 _ _ (by omega), fu _ _ (by unfold rScS; omega)]; exact q8
      have A7 : mA M7 n on gv t [] (nI (pS (pLex w) e)) rd := ⟨⟨x4, hN1.1.2.rd f17⟩, ⟨k1, fun i hi => absurd hi (by simp)⟩, k3, k5⟩
      obtain ⟨M8, l1, l2, l3, l4, l5⟩ := A7.looks hp
      have fin : rF (rAll n) (wI M2 b 4 (nI (pS (pLex w) e))) (wI M8 n 0 1) := ((f17.mono (by intro a k; unfold rRdS rAll; omega)).trans l5).trans (rF.I (by unfold rAll; omega))
      refine ⟨.inr 0, wI M2 b 4 (nI (pS (pLex w) e)), 0, wI M8 n 0 1, ?_, ?_, .inr ⟨0, rfl, mI_s rfl rfl⟩, ⟨on, gv, t, [], nI (pS (pLex w) e), rd, hd1.fr fin hn, l3.er⟩, out1, fin⟩
      · rw [eD, s3, xb_some]
        unfold xlet
        dsimp only
        rw [mI_s rfl rfl, if_neg n0]
      · rw [q1]
        unfold xval
        dsimp only
        rw [q3, q2, u3, xb_some, xb_some]
        unfold xlet
        dsimp only
        rw [e41, e5]
        have k4 : M5.1 n 4 = nI (pS (pLex w) e) := by rw [← e5, mI_k (by decide)]; exact e41
        rw [k4, if_neg n0, v1, x2, xb_some, xb_some]
        unfold f_N_read_76
        rw [l1, xb_some, l3.2.2.1, if_neg n0]
        unfold f_N_read_93
        rw [r_fails1 (by decide) (by rw [l4]; exact k0), xb_some, if_neg (by decide)]
    · rw [s1] at u1; cases u1
  · -- a PROGRAM
    have hpw : prog w := ⟨w160, hw.2.2.2, _, _, _, s1⟩
    have eL := Lof_eq s1
    subst eL
    have f2 : pFr r1 (r1 + 31) (wI MB (b + 1) 1 0) M2 := s4.mono (by omega) (by omega)
    have hS2 := hSC.fr f2
    have on1 : ∀ a, b + 1 ≤ a → (wR (wR (wI M2 b 4 (-1)) 0 r1) 1 r0).1 a = M2.1 a := fun a ha => wI_ne _ _ _ (by omega)
    have out1 : outR b (b + 67) M (wR (wR (wI M2 b 4 (-1)) 0 r1) 1 r0) := (oC.trans (f2.out (by omega))).trans (fun a ha => ⟨wI_ne _ _ _ (by omega), rfl, rfl⟩)
    have hS3 : dS (wR (wR (wI M2 b 4 (-1)) 0 r1) 1 r0) b r1 r0 on gv w (Lof w) := ⟨⟨rfl, rfl, by omega⟩, hS2.2.1.on (fun a ha _ => ⟨on1 a (by omega), rfl, rfl⟩), s3.on (fun a ha _ => ⟨on1 a (by omega), rfl, rfl⟩)⟩
    have hd1 : dA (wR (wR (wI M2 b 4 (-1)) 0 r1) 1 r0) b on gv w [] (-1) rd := by
      refine ⟨hpw, ⟨r1, r0, hS3⟩, ?_, mI_s rfl rfl, ?_⟩
      · exact (wC.on (f2.on (by omega))).on (fun a ha _ => ⟨on1 a (by omega), rfl, rfl⟩)
      · show (wI M2 b 4 (-1)).1 b 5 = nI rd
        rw [mI_k (by decide), (f2.1 b (by omega)).1]; exact b5C
    have fI := p_findingsIn (hS3.gfd w160 s1)
    have hN1 := hN.fr out1 hn
    obtain ⟨MD, ME, g, q1, q2, q3, q4, q5, q6, q7, q8, q9, _⟩ := ref _ hN1
    rcases r_scan q4 with ⟨e', M4, u1, _⟩ | ⟨tok3, sc3, L3, M4, u1, u2, u3, u4, u5⟩
    · rw [s1] at u1; cases u1
    have eL := Lof_eq u1
    subst eL
    have fu := u5.2
    have e41 : (wI M4 n 1 0).1 n 4 = -1 := by rw [mI_k (by decide)]; exact u3
    generalize e5 : wI (wI M4 n 1 0) n 3 (-1) = M5 at *
    have f45 : rF (fun a k => a = n ∧ (k = 1 ∨ k = 3)) M4 M5 := by rw [← e5]; exact (rF.I ⟨rfl, .inl rfl⟩).trans (rF.I ⟨rfl, .inr rfl⟩)
    have f15 : rF (rRdS n) (wR (wR (wI M2 b 4 (-1)) 0 r1) 1 r0) M5 := (q9.trans (u5.mono (by intro a k; unfold rScS rRdS; omega))).trans (f45.mono (by intro a k; unfold rRdS; omega))
    have c4 : nCx M4 n on gv w (Lof w) := ⟨u4, hN1.1.2.rd (q9.trans (u5.mono (by intro a k; unfold rScS rRdS; omega)))⟩
    have k0 : M5.1 n 0 = 0 := by rw [f45.2 _ _ (by omega), fu _ _ (by unfold rScS; omega)]; exact q6
    have A5 : mA M5 n on gv w [] (-1) rd := ⟨c4.nx (by intro a k; omega) f45, ⟨by rw [← e5, mI_k (by decide), mI_s rfl rfl]; rfl, fun i hi => absurd hi (by simp)⟩, by rw [← e5, mI_s rfl rfl], by rw [f45.2 _ _ (by omega), fu _ _ (by unfold rScS; omega)]; exact q8⟩
    obtain ⟨M8, l1, l2, l3, l4, l5⟩ := A5.looks hpw
    have z8 : M8.1 n 0 = 0 := by rw [l4]; exact k0
    have fin : rF (rAll n) (wR (wR (wI M2 b 4 (-1)) 0 r1) 1 r0) M8 := (f15.mono (by intro a k; unfold rRdS rAll; omega)).trans l5
    refine ⟨.inl (nI (cnt (sP on gv w (qEnd w (Lof w)) ((Lof w) 4)) (10 * nT w))), _, nI (cnt (sP on gv w (qEnd w (Lof w)) ((Lof w) 4)) (10 * nT w)), M8, ?_, ?_, .inl ⟨_, rfl, rfl, z8⟩, ⟨on, gv, w, [], -1, rd, hd1.fr fin hn, l3⟩, out1, fin⟩
    · rw [eD, s2, xb_some]
      unfold xlet
      dsimp only
      rw [mI_s rfl rfl, if_pos (by decide)]
      have ts : f_D_takeSpare b (wI M2 b 4 (-1)) = some ((), wR (wR (wI M2 b 4 (-1)) 0 r1) 1 r0) := by
        unfold f_D_takeSpare xsrc xlet
        have a0 : (wI M2 b 4 (-1)).2.2.2 0 = r0 := hS2.1.1
        have a1 : (wI M2 b 4 (-1)).2.2.2 1 = r1 := hS2.1.2.1
        rw [a0, a1, if_pos r05]
        dsimp only
        rw [if_pos r15]
      rw [ts, xb_some, hS3.srcS, fI, xb_some]
    · rw [q1]
      unfold xval
      dsimp only
      rw [q3, q2, u2, xb_some, xb_some]
      unfold xlet
      dsimp only
      rw [e41, e5]
      have k4 : M5.1 n 4 = -1 := by rw [← e5, mI_k (by decide)]; exact e41
      rw [k4, if_pos (by decide)]
      unfold f_N_read_76
      rw [l1, xb_some, l3.2.2.1, if_pos (by decide)]
      unfold f_N_read_93
      rw [r_fails0 z8, xb_some, if_pos rfl, l2.2.1]
      rfl
/-- mend -/
theorem j_mend {M : xMem} {b n : Nat} (hn : b + 67 ≤ n) (h : jR M b n) : ∃ r M1 M', f_D_mend b M = some (r, M1) ∧ f_N_mend n M1 = some (r, M') ∧ jR M' b n ∧ outR b (b + 67) M M1 ∧ rF (rAll n) M1 M' := by
  obtain ⟨on, gv, t, w, wp, rd, hd, hN⟩ := h
  obtain ⟨hp, ⟨r0, r1, hS⟩, hw, h4, h5⟩ := id hd
  obtain ⟨M1, s0, s1, w1, w2, w3, w4, w5, w6, w7⟩ := p_mend hp hS
  have out1 : outR b (b + 67) M M1 := w7
  have hN1 := hN.fr out1 hn
  obtain ⟨M2, v1, v2, v3, v4, v5⟩ := r_mend hp hN1.1
  have f2 : rF (rAll n) M1 M2 := v5.mono (by intro a k; unfold rMdS rAll; omega)
  have hd1 : dA M1 b on gv (mAll on gv 4 t).2.2 w wp (mAll on gv 4 t).2.1 := ⟨w2, ⟨s0, s1, w3⟩, hw.on (fun a h1 h2 => w5 a h1 (by omega)), by rw [w6 4 (by decide)]; exact h4, w4⟩
  have hN2 : mA M2 n on gv (mAll on gv 4 t).2.2 w wp (mAll on gv 4 t).2.1 := ⟨v2, ⟨by rw [v5.2 _ _ (by unfold rMdS; omega)]; exact hN1.2.1.1, fun i hi => by rw [v5.2 _ _ (by unfold rMdS; omega)]; exact hN1.2.1.2 i hi⟩, by rw [v5.2 _ _ (by unfold rMdS; omega)]; exact hN1.2.2.1, v3⟩
  exact ⟨nI (mAll on gv 4 t).1, M1, M2, w1, v1, ⟨on, gv, (mAll on gv 4 t).2.2, w, wp, (mAll on gv 4 t).2.1, hd1.fr f2 hn, hN2⟩, out1, f2⟩
