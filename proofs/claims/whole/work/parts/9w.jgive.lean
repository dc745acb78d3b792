/-! PURE: give, side by side -/
theorem rk_1 : ∀ k, k < 24 → (k = 23 ∨ k < 8) → (nI (rk k) = 1 ↔ k = 23) := by decide
theorem nSt.add {M M' : xMem} {n N : Nat} {on : Nat → Bool} {gv : List (List Nat)} (h : nSt M n on gv) (hl : gv.length < 8) (hw : gNm (wOf N)) (h6 : M'.1 n 6 = nI (gv.length + 1)) (hs : M'.1 (n + 6) gv.length = nI (wOf N).length) (hc : ∀ i, i < (wOf N).length → M'.1 (n + 5) (8 * gv.length + i) = nI (oc N i)) (f : rF (fun a k => (a = n ∧ k = 6) ∨ (a = n + 6 ∧ k = gv.length) ∨ (a = n + 5 ∧ 8 * gv.length ≤ k)) M M') : nSt M' n on (gv ++ [wOf N]) := by
  obtain ⟨s1, s2, s3, s4, s5⟩ := h
  have f2 := f.2
  refine ⟨by rw [h6]; simp, by simp; omega, ?_, fun r hr => by rw [f2 _ _ (by omega)]; exact s4 r hr, ?_⟩
  · intro i hi
    have hi : i < gv.length + 1 := by simpa using hi
    by_cases c : i = gv.length
    · subst c
      have e : (gv ++ [wOf N]).getD gv.length [] = wOf N := by simp
      rw [e]
      exact ⟨hs, fun k hk => by rw [hc k hk, wOf_at hk]⟩
    · have e : (gv ++ [wOf N]).getD i [] = gv.getD i [] := by
        rw [List.getD_eq_getElem?_getD, List.getD_eq_getElem?_getD, List.getElem?_append_left (by omega)]
      rw [e]
      have a := s3 i (by omega)
      have nm := s5 _ (getD_mem (gv := gv) (i := i) (by omega))
      exact ⟨by rw [f2 _ _ (by omega)]; exact a.1, fun k hk => by rw [f2 _ _ (by have := nm.2.1; omega)]; exact a.2 k hk⟩
  · intro x hx
    rcases List.mem_append.mp hx with hx | hx
    · exact s5 x hx
    · rw [List.mem_singleton] at hx
      rw [hx]; exact hw
theorem r_give {M : xMem} {n N : Nat} {on : Nat → Bool} {gv : List (List Nat)} {t w : List Nat} {wp : Int32} {rd : Nat} (hN : N < 2 ^ 64) (hp : prog t) (h : mA M n on gv t w wp rd) : ∃ r M', f_N_give n (lN N) M = some (r, M') ∧ rF (rAll n) M M' ∧ ((¬ (wW N = true ∧ pKwOf (gOc (wOf N)) = 23) ∧ M'.1 n 0 = 1 ∧ mA M' n on gv t w wp rd) ∨ ((wW N = true ∧ pKwOf (gOc (wOf N)) = 23) ∧ ((wOf N ∈ gv ∧ M'.1 n 0 = 2 ∧ mA M' n on gv t w wp rd) ∨ (wOf N ∉ gv ∧ ((¬ gv.length < 8 ∧ M'.1 n 0 = 3 ∧ mA M' n on gv t w wp rd) ∨ (gv.length < 8 ∧ M'.1 n 0 = 0 ∧ r = nI (gv.length + 1) ∧ mA M' n on (gv ++ [wOf N]) t w wp rd)))))) := by
  have h8 := wOf_len N
  have sp := wOf_spec N
  have ht := hp.1
  have z0 : (wI M n 0 0).1 n 0 = 0 := mI_s rfl rfl
  have f0 : rF (rAll n) M (wI M n 0 0) := rF.I (by unfold rAll; omega)
  have A0 := h.er (v := 0)
  have lt0 := oc_lt N 0
  -- the shape
  have e1 : f_N_give n (lN N) M = f_N_give_92 n (lN N) (nI (wOf N).length) (bI (wW N)) (nI (wOf N).length) (bI (!wW N)) (wI M n 0 0) := by
    have go : ∀ fl : Bool, fl = pSmall (oc N 0) → f_N_give_30 n (lN N) (nI (wOf N).length) (bI fl) (wI M n 0 0) = f_N_give_92 n (lN N) (nI (wOf N).length) (bI (wW N)) (nI (wOf N).length) (bI (!wW N)) (wI M n 0 0) := by
      intro fl hfl
      unfold f_N_give_30
      have := r_give_35 (M := wI M n 0 0) (n := n) hN (wOf N).length 0 xFuel fl (by omega) (by have := xFuel_200; omega)
      have e : (fl && decide (∀ i, i < (wOf N).length → 0 ≤ i → pWordC (oc N i) = true)) = wW N := by
        unfold wW
        rw [hfl]
        congr 1
        apply Bool.eq_iff_iff.mpr
        rw [decide_eq_true_iff, decide_eq_true_iff]
        exact ⟨fun h i hi => h i hi (Nat.zero_le _), fun h i hi _ => h i hi⟩
      rw [e] at this
      exact this
    have o0 : ∀ M : xMem, f_N_octet (lN N) 0 M = some (nI (oc N 0), M) := fun M => r_octet (k := 0) hN (by omega)
    unfold f_N_give xlet
    dsimp only
    rw [r_sizeOf hN, xb_some]
    by_cases c : (wOf N).length = 0
    · have oz := sp.2 (by omega)
      rw [c] at oz
      rw [if_pos (show nI (wOf N).length ≤ 0 by rw [c]; decide)]
      unfold f_N_give_29
      exact go false (by rw [oz]; rfl)
    · rw [if_neg (show ¬ nI (wOf N).length ≤ 0 from nI_ge (a := 0) (by omega) (by omega)), o0, xb_some, r_isLetter lt0, xb_some]
      cases c1 : pSmall (oc N 0) with
      | false =>
        rw [if_pos (show bI false = 0 from rfl)]
        unfold f_N_give_29
        exact go false c1.symm
      | true =>
        rw [if_neg (by decide)]
        exact go true c1.symm
  cases cw : wW N with
  | false =>
    have f1 : rF (rAll n) M (wI (wI M n 0 0) n 0 1) := f0.trans (rF.I (by unfold rAll; omega))
    refine ⟨0, wI (wI M n 0 0) n 0 1, ?_, f1, .inl ⟨(fun h => absurd h.1 (by decide)), mI_s rfl rfl, A0.er⟩⟩
    rw [e1, cw]
    unfold f_N_give_92
    rw [show bI (!false) = 1 from rfl, r_fails1 (by decide) z0, xb_some, if_neg (by decide)]
  | true =>
    have nm := wW_nm cw
    have tx := A0.1.1.1.1
    obtain ⟨M1, a1, a2, a3⟩ := r_give_110 (n := n) (N := N) (t := t) (v4 := bI true) ht t.length 0 xFuel (wI M n 0 0) (by omega) (by have := xFuel_200; omega) tx.2.2.1 (fun i hi => by omega)
    obtain ⟨M2, b1, b2, b3, b4, b5⟩ := r_give_140 (n := n) (v4 := bI true) (v5 := nI t.length) hN (wOf N).length 0 xFuel M1 (by omega) (by have := xFuel_200; omega) (fun i hi => by omega)
    have e2 : f_N_give n (lN N) M = (xbind (f_N_word n 62 M2) fun r67 M => if r67 = 1 then (f_N_give_196 n (lN N) (nI (wOf N).length) (bI true) (nI t.length) (nI (wOf N).length) 0 M) else (f_N_give_196 n (lN N) (nI (wOf N).length) (bI true) (nI t.length) (nI (wOf N).length) 1 M)) := by
      rw [e1, cw]
      unfold f_N_give_92
      rw [show bI (!true) = 0 from rfl, r_fails0 z0, xb_some, if_pos rfl, tx.1]
      exact a1.trans b1
    have y2 : rTy M2 n (wOf N) := ⟨by omega, fun i hi => by rw [b2 i hi, wOf_at hi], wOf_256 N⟩
    have wd : f_N_word n 62 M2 = some (nI (rk (pKwOf (gOc (wOf N)))), M2) := by
      have := r_wordY (k := 62) (p := 0) (e := (wOf N).length) y2 (by omega) b3 b4 (by omega) (Nat.le_refl _) (fun i _ hi => by rw [wOf_at hi]; exact sp.1 i hi)
      rw [wOf_oct] at this
      exact this
    have klt := pKwOf_lt (gOc (wOf N))
    have k1 := rk_1 (pKwOf (gOc (wOf N))) (by omega) klt
    -- isGiven
    have f02 : rF (fun a k => (a = n ∧ k = 0) ∨ a = n + 2 ∨ a = n + 3 ∨ (a = n + 9 ∧ k = 62) ∨ (a = n + 10 ∧ k = 62)) M M2 := ((rF.I (by omega)).trans (a3.mono (by intro a k; omega))).trans (b5.mono (by intro a k; omega))
    have st2 : nSt M2 n on gv := by
      obtain ⟨s1, s2, s3, s4, s5⟩ := h.1.2
      have f2 := f02.2
      refine ⟨by rw [f2 _ _ (by omega)]; exact s1, s2, ?_, ?_, s5⟩
      · intro i hi
        have := s3 i hi
        exact ⟨by rw [f2 _ _ (by omega)]; exact this.1, fun k hk => by rw [f2 _ _ (by omega)]; exact this.2 k hk⟩
      · intro r hr
        rw [f2 _ _ (by omega)]; exact s4 r hr
    have ig : f_N_isGiven n 62 M2 = some (bI (decide (wOf N ∈ gv)), M2) := r_isGiven (j := 62) (w := wOf N) st2 (by omega) b3 b4 (Nat.zero_le _) (by omega) (by omega) (fun i hi => by rw [Nat.zero_add, b2 i hi, wOf_at hi]) (wOf_256 N)
    -- back
    have kp : ∀ i, i < t.length → M2.1 (n + 3) i = nI (pc t i) := fun i hi => by rw [b5.2 _ _ (by omega)]; exact a2 i hi
    have back : ∀ w0 : Int32, ∃ M3, f_N_give_196 n (lN N) (nI (wOf N).length) (bI true) (nI t.length) (nI (wOf N).length) w0 M2 = (xbind (f_N_fails n w0 1 M3) fun r52 M => if r52 = 0 then (xbind (f_N_fails n (bI (decide (wOf N ∈ gv))) 2 M) fun r55 M => if r55 = 0 then (if M.1 n 6 = 8 then (f_N_give_271 n (lN N) (nI (wOf N).length) (bI true) (nI t.length) w0 (bI (decide (wOf N ∈ gv))) (nI t.length) 1 M) else (f_N_give_271 n (lN N) (nI (wOf N).length) (bI true) (nI t.length) w0 (bI (decide (wOf N ∈ gv))) (nI t.length) 0 M)) else (some (0, M))) else (some (0, M))) ∧ mA M3 n on gv t w wp rd ∧ M3.1 n 0 = 0 ∧ rF (rAll n) M M3 := by
      intro w0
      obtain ⟨M3, c1, c2, c3⟩ := r_give_209 (n := n) (N := N) (t := t) (v4 := bI true) (v6 := w0) (v7 := bI (decide (wOf N ∈ gv))) ht t.length 0 xFuel M2 (by omega) (by have := xFuel_200; omega) kp (fun i hi => by omega)
      have f03 := f02.trans (c3.mono (S' := fun a k => (a = n ∧ k = 0) ∨ a = n + 2 ∨ a = n + 3 ∨ (a = n + 9 ∧ k = 62) ∨ (a = n + 10 ∧ k = 62)) (by intro a k; omega))
      refine ⟨M3, ?_, h.gv f03 c2, ?_, f03.mono (by intro a k; unfold rAll; omega)⟩
      · unfold f_N_give_196
        rw [ig, xb_some]
        exact c1
      · rw [c3.2 _ _ (by omega), b5.2 _ _ (by omega), a3.2 _ _ (by omega)]; exact z0
    rw [e2, wd, xb_some]
    by_cases ck : pKwOf (gOc (wOf N)) = 23
    · rw [if_pos (k1.mpr ck)]
      obtain ⟨M3, c1, c2, c3, c4⟩ := back 0
      rw [c1, r_fails0 c3, xb_some, if_pos rfl]
      by_cases cg : wOf N ∈ gv
      · rw [decide_eq_true cg, show bI true = 1 from rfl, r_fails1 (by decide) c3, xb_some, if_neg (by decide)]
        exact ⟨0, wI M3 n 0 2, rfl, c4.trans (rF.I (by unfold rAll; omega)), .inr ⟨⟨rfl, ck⟩, .inl ⟨cg, mI_s rfl rfl, c2.er⟩⟩⟩
      · rw [decide_eq_false cg, show bI false = 0 from rfl, r_fails0 c3, xb_some, if_pos rfl, c2.1.2.1]
        have g8 := c2.1.2.2.1
        unfold f_N_give_271
        by_cases cl : gv.length < 8
        · rw [if_neg (show ¬ nI gv.length = 8 from fun e => by have := (nI_eq (b := 8) (by omega) (by omega)).mp e; omega), r_fails0 c3, xb_some, if_pos rfl]
          obtain ⟨M4, d1, d2, d3, d4, d5⟩ := r_give_283 (n := n) (g0 := gv.length) (v4 := bI true) (v5 := nI t.length) (v6 := 0) (v7 := 0) hN cl (wOf N).length 0 xFuel M3 (by omega) (by have := xFuel_200; omega) c2.1.2.1 (fun i hi => by omega)
          have d1 : f_N_give_283 n (lN N) xFuel (nI (wOf N).length) (bI true) (nI t.length) 0 0 0 M3 = some (nI (gv.length + 1), M4) := d1
          have d1 : f_N_give_283 n (lN N) xFuel (nI (wOf N).length) 1 (nI t.length) 0 0 0 M3 = some (nI (gv.length + 1), M4) := d1
          rw [show bI true = 1 from rfl, d1]
          refine ⟨_, M4, rfl, c4.trans (d5.mono (by intro a k; unfold rAll; omega)), .inr ⟨⟨rfl, ck⟩, .inr ⟨cg, .inr ⟨cl, ?_, rfl, ?_⟩⟩⟩⟩
          · rw [d5.2 _ _ (by omega)]; exact c3
          · exact c2.set (d5.mono (by intro a k; omega)) (c2.1.2.add cl nm d2 d3 d4 d5)
        · rw [if_pos (show nI gv.length = 8 by rw [show gv.length = 8 by omega]; rfl), r_fails1 (by decide) c3, xb_some, if_neg (by decide)]
          exact ⟨0, wI M3 n 0 3, rfl, c4.trans (rF.I (by unfold rAll; omega)), .inr ⟨⟨rfl, ck⟩, .inr ⟨cg, .inl ⟨cl, mI_s rfl rfl, c2.er⟩⟩⟩⟩
    · rw [if_neg (fun e => ck (k1.mp e))]
      obtain ⟨M3, c1, c2, c3, c4⟩ := back 1
      rw [c1, r_fails1 (by decide) c3, xb_some, if_neg (by decide)]
      exact ⟨0, wI M3 n 0 1, rfl, c4.trans (rF.I (by unfold rAll; omega)), .inl ⟨fun h => ck h.2, mI_s rfl rfl, c2.er⟩⟩
theorem j_give {M : xMem} {b n : Nat} {x : Int64} (hn : b + 67 ≤ n) (h : jR M b n) : ∃ res M1 r M', f_D_give b x M = some (res, M1) ∧ f_N_give n x M1 = some (r, M') ∧ ansI (fun e => e + 1) res r (M'.1 n 0) ∧ jR M' b n ∧ outR b (b + 67) M M1 ∧ rF (rAll n) M1 M' := by
  obtain ⟨on, gv, t, w, wp, rd, hd, hN⟩ := h
  obtain ⟨N, hX, ex⟩ := wb_of x
  subst ex
  obtain ⟨hp, ⟨r0, r1, hS⟩, hd'⟩ := id hd
  have eD := p_give hX hS.2.1
  by_cases c : wW N = true ∧ pKwOf (gOc (wOf N)) = 23
  · rw [if_pos c] at eD
    by_cases cg : wOf N ∈ gv
    · rw [if_pos cg] at eD
      obtain ⟨r, M', v1, v2, v3⟩ := r_give hX hp hN
      rcases v3 with v3 | ⟨_, v3 | v3⟩
      · exact absurd c v3.1
      · exact ⟨.inr 1, M, r, M', eD, v1, .inr ⟨1, rfl, v3.2.1⟩, ⟨on, gv, t, w, wp, rd, hd.fr v2 hn, v3.2.2⟩, .rfl, v2⟩
      · exact absurd cg v3.1
    · rw [if_neg cg] at eD
      by_cases cl : gv.length < 8
      · rw [if_pos cl] at eD
        have f1 : pFr (b + 3) (b + 5) M (wI (wJ M (b + 4) gv.length (gOc (wOf N))) (b + 3) 1 (nI (gv.length + 1))) := (pFr.J (by omega)).trans (pFr.I (by omega))
        have hd1 := hd.set f1 (hS.2.1.add (N := N) cl (wW_nm c.1))
        have out1 : outR b (b + 67) M (wI (wJ M (b + 4) gv.length (gOc (wOf N))) (b + 3) 1 (nI (gv.length + 1))) := f1.out (by omega)
        have hN1 := hN.fr out1 hn
        obtain ⟨r, M', v1, v2, v3⟩ := r_give hX hp hN1
        rcases v3 with v3 | ⟨_, v3 | ⟨_, v3 | v3⟩⟩
        · exact absurd c v3.1
        · exact absurd v3.1 cg
        · exact absurd cl v3.1
        · exact ⟨_, _, r, M', eD, v1, .inl ⟨_, rfl, v3.2.2.1, v3.2.1⟩, ⟨on, gv ++ [wOf N], t, w, wp, rd, hd1.fr v2 hn, v3.2.2.2⟩, out1, v2⟩
      · rw [if_neg cl] at eD
        obtain ⟨r, M', v1, v2, v3⟩ := r_give hX hp hN
        rcases v3 with v3 | ⟨_, v3 | ⟨_, v3 | v3⟩⟩
        · exact absurd c v3.1
        · exact absurd v3.1 cg
        · exact ⟨.inr 2, M, r, M', eD, v1, .inr ⟨2, rfl, v3.2.1⟩, ⟨on, gv, t, w, wp, rd, hd.fr v2 hn, v3.2.2⟩, .rfl, v2⟩
        · exact absurd v3.1 cl
  · rw [if_neg c] at eD
    obtain ⟨r, M', v1, v2, v3⟩ := r_give hX hp hN
    rcases v3 with v3 | v3
    · exact ⟨.inr 0, M, r, M', eD, v1, .inr ⟨0, rfl, v3.2.1⟩, ⟨on, gv, t, w, wp, rd, hd.fr v2 hn, v3.2.2⟩, .rfl, v2⟩
    · exact absurd v3.1 c
