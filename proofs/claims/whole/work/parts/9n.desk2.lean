/-! PURE: found, place, declared, count -/
theorem sNth_hit {P : Nat → Bool} {c j : Nat} (hc : P c = true) (hj : cnt P c = j) (hc2 : c < 1000) : ∀ (m x : Nat), x ≤ c → c < x + m → sNth P (nI j) m x = nI c := by
  intro m
  induction m with
  | zero => intro x h1 h2; omega
  | succ m ih =>
    intro x h1 h2
    rw [sNth]
    by_cases e : x = c
    · subst e
      rw [if_pos ⟨hc, by rw [hj]⟩]
    · rw [if_neg ?_, ih (x + 1) (by omega) (by omega)]
      intro h
      have l1 := cnt_le (P := P) x
      have l2 := cnt_le (P := P) c
      have := (nI_eq (a := cnt P x) (b := j) (by omega) (by omega)).mp h.2
      have := cnt_lt (c := c) h.1 (by omega)
      omega
theorem sNth_miss {P : Nat → Bool} {k : Int32} {n : Nat} (hn : n < 1000) (hk : xin k (cnt P n) = false) : ∀ (m x : Nat), x + m ≤ n → sNth P k m x = -1 := by
  intro m
  induction m with
  | zero => intro x _; rfl
  | succ m ih =>
    intro x h1
    rw [sNth, if_neg ?_, ih (x + 1) (by omega)]
    intro h
    have l2 := cnt_le (P := P) n
    have lt := cnt_lt (c := n) h.1 (by omega)
    rw [← h.2, xin_nI lt (by omega)] at hk
    cases hk
theorem div10 : ∀ c, c < 600 → nI c / 10 = nI (c / 10) ∧ nI c - nI c / 10 * 10 = nI (c % 10) := by decide +kernel
section
variable {M : xMem} {b n : Nat} {on : Nat → Bool} {gv : List (List Nat)} {t w : List Nat} {wp : Int32} {rd : Nat}
theorem dS.srcS {r0 r1 : Nat} {L : qL} {k : Nat → Option ((Int32 ⊕ Nat) × xMem)} (h : dS M b r0 r1 on gv t L) : xsrc b (M.2.2.2 0) k = k r0 := by
  rw [h.1.1]; unfold xsrc; rw [if_pos (by have := h.1.2.2; omega)]
/-- a FINDING by its number -/
theorem j_find {k : Int32} (hn : b + 67 ≤ n) (hd : dA M b on gv t w wp rd) (hN : mA M n on gv t w wp rd) : ∃ M1, f_N_looks n (wI M n 0 0) = some ((), M1) ∧ dA M1 b on gv t w wp rd ∧ mA M1 n on gv t w wp rd ∧ rF (rAll n) M M1 ∧ M1.1 n 0 = 0 ∧ nLk M1 n on gv t (Lof t) (sMk (qEnd t (Lof t))) ∧ M1.1 n 63 = nI (cnt (sP on gv t (qEnd t (Lof t)) ((Lof t) 4)) (10 * nT t)) ∧ cnt (sP on gv t (qEnd t (Lof t)) ((Lof t) 4)) (10 * nT t) ≤ 360 ∧ ∃ r0 r1, dS M b r0 r1 on gv t (Lof t) ∧ ((xin k (cnt (sP on gv t (qEnd t (Lof t)) ((Lof t) 4)) (10 * nT t)) = false ∧ f_G_findingOf (b + 3) r0 k M = some (-1, M)) ∨ (xin k (cnt (sP on gv t (qEnd t (Lof t)) ((Lof t) 4)) (10 * nT t)) = true ∧ ∃ c, c < 10 * nT t ∧ f_G_findingOf (b + 3) r0 k M = some (nI c, M) ∧ M1.1 (n + 40) k.toNatClampNeg = nI (c % 10) ∧ M1.1 (n + 41) k.toNatClampNeg = nI (pS (pLex t) (c / 10)) ∧ k.toNatClampNeg < 400)) := by
  have f0 : rF (rAll n) M (wI M n 0 0) := rF.I (by unfold rAll; omega)
  obtain ⟨hp, ⟨r0, r1, hS⟩, hd'⟩ := id hd
  obtain ⟨tok, sc, hq⟩ := hp.run
  obtain ⟨M1, l1, l2, l3, l4, l5⟩ := hN.er.looks hp (M := wI M n 0 0)
  have f1 := f0.trans l5
  have hM := l2.md hp.1 hq
  have N := hM.N
  have hT := nT_le t
  refine ⟨M1, l1, hd.fr f1 hn, l3, f1, by rw [l4, mI_s rfl rfl], l2, hM.2.1, N, r0, r1, hS, ?_⟩
  have fo := p_findingOf (k := k) (hS.gfd hp.1 hq)
  cases q : xin k (cnt (sP on gv t (qEnd t (Lof t)) ((Lof t) 4)) (10 * nT t)) with
  | false =>
    left
    refine ⟨rfl, ?_⟩
    rw [fo, sNth_miss (by omega) q (10 * nT t) 0 (by omega)]
  | true =>
    right
    obtain ⟨j, j1, j2, j3⟩ := xin_ex q
    obtain ⟨c, c1, c2, c3⟩ := cnt_ex (P := sP on gv t (qEnd t (Lof t)) ((Lof t) 4)) (10 * nT t) j j1
    have a := hM.2.2.2.1 c c2
    refine ⟨rfl, c, c1, ?_, ?_, ?_, by omega⟩
    · rw [fo, j2, sNth_hit c2 c3 (by omega) (10 * nT t) 0 (by omega) (by omega)]
    · rw [j3, ← c3]; exact a.1
    · rw [j3, ← c3]; exact a.2
end
theorem j_found {M : xMem} {b n : Nat} {k : Int32} (hn : b + 67 ≤ n) (h : jR M b n) : ∃ res r M', f_D_found b k M = some (res, M) ∧ f_N_found n k M = some (r, M') ∧ ansI (fun _ => 1) res r (M'.1 n 0) ∧ jR M' b n ∧ rF (rAll n) M M' := by
  obtain ⟨on, gv, t, w, wp, rd, hd, hN⟩ := h
  obtain ⟨M1, l1, hd1, hN1, f1, z0, l2, l63, N, r0, r1, hS, hh⟩ := j_find (k := k) hn hd hN
  have hT := nT_le t
  have eN : f_N_found n k M = if xin k (cnt (sP on gv t (qEnd t (Lof t)) ((Lof t) 4)) (10 * nT t)) = true then f_N_found_29 n k 0 M1 else f_N_found_29 n k 1 M1 := by
    unfold f_N_found xlet xval
    dsimp only
    rw [l1, xb_some, l63, r_in, xb_some, in_iff (by omega)]
    cases xin k (cnt (sP on gv t (qEnd t (Lof t)) ((Lof t) 4)) (10 * nT t)) with
    | true => rw [if_neg (by decide), if_pos rfl]
    | false => rw [if_pos (show bI false = 0 from rfl), if_neg (by decide)]
  rcases hh with ⟨q, fo⟩ | ⟨q, c, c1, fo, a1, a2, a3⟩
  · rw [q, if_neg (by decide)] at eN
    have f2 : rF (rAll n) M1 (wI M1 n 0 1) := rF.I (by unfold rAll; omega)
    refine ⟨.inr 2, 0, wI M1 n 0 1, ?_, ?_, .inr ⟨2, rfl, mI_s rfl rfl⟩, ⟨on, gv, t, w, wp, rd, hd1.fr f2 hn, hN1.er⟩, f1.trans f2⟩
    · unfold f_D_found
      rw [hS.srcS, fo, xb_some, if_neg (by decide)]
    · rw [eN]
      unfold f_N_found_29
      rw [r_fails1 (by decide) z0, xb_some, if_neg (by decide)]
  · rw [q, if_pos rfl] at eN
    refine ⟨.inl (nI (c % 10)), nI (c % 10), M1, ?_, ?_, .inl ⟨_, rfl, rfl, z0⟩, ⟨on, gv, t, w, wp, rd, hd1, hN1⟩, f1⟩
    · unfold f_D_found
      rw [hS.srcS, fo, xb_some, if_pos (show (0 : Int32) ≤ nI c from nI_le (a := 0) (Nat.zero_le _) (by omega)), (div10 c (by omega)).2]
    · rw [eN]
      unfold f_N_found_29
      obtain ⟨j, j1, j2, j3⟩ := xin_ex q
      rw [r_fails0 z0, xb_some, if_pos rfl, if_pos (by rw [j2]; exact xin_nI (by omega) (by decide)), a1]
theorem j_place {M : xMem} {b n : Nat} {k : Int32} (hn : b + 67 ≤ n) (h : jR M b n) : ∃ res r M', f_D_place b k M = some (res, M) ∧ f_N_place n k M = some (r, M') ∧ ansI (fun _ => 1) res r (M'.1 n 0) ∧ jR M' b n ∧ rF (rAll n) M M' := by
  obtain ⟨on, gv, t, w, wp, rd, hd, hN⟩ := h
  obtain ⟨M1, l1, hd1, hN1, f1, z0, l2, l63, N, r0, r1, hS, hh⟩ := j_find (k := k) hn hd hN
  have hT := nT_le t
  have eN : f_N_place n k M = if xin k (cnt (sP on gv t (qEnd t (Lof t)) ((Lof t) 4)) (10 * nT t)) = true then f_N_place_29 n k 0 M1 else f_N_place_29 n k 1 M1 := by
    unfold f_N_place xlet xval
    dsimp only
    rw [l1, xb_some, l63, r_in, xb_some, in_iff (by omega)]
    cases xin k (cnt (sP on gv t (qEnd t (Lof t)) ((Lof t) 4)) (10 * nT t)) with
    | true => rw [if_neg (by decide), if_pos rfl]
    | false => rw [if_pos (show bI false = 0 from rfl), if_neg (by decide)]
  rcases hh with ⟨q, fo⟩ | ⟨q, c, c1, fo, a1, a2, a3⟩
  · rw [q, if_neg (by decide)] at eN
    have f2 : rF (rAll n) M1 (wI M1 n 0 1) := rF.I (by unfold rAll; omega)
    refine ⟨.inr 2, 0, wI M1 n 0 1, ?_, ?_, .inr ⟨2, rfl, mI_s rfl rfl⟩, ⟨on, gv, t, w, wp, rd, hd1.fr f2 hn, hN1.er⟩, f1.trans f2⟩
    · unfold f_D_place
      rw [hS.srcS, fo, xb_some, if_neg (by decide)]
    · rw [eN]
      unfold f_N_place_29
      rw [r_fails1 (by decide) z0, xb_some, if_neg (by decide)]
  · rw [q, if_pos rfl] at eN
    have l := nT_len t
    refine ⟨.inl (nI (pS (pLex t) (c / 10))), nI (pS (pLex t) (c / 10)), M1, ?_, ?_, .inl ⟨_, rfl, rfl, z0⟩, ⟨on, gv, t, w, wp, rd, hd1, hN1⟩, f1⟩
    · unfold f_D_place
      rw [hS.srcS, fo, xb_some, if_pos (show (0 : Int32) ≤ nI c from nI_le (a := 0) (Nat.zero_le _) (by omega)), hS.srcS, (div10 c (by omega)).1, p_startOf hS.lx (by omega), xb_some]
    · rw [eN]
      unfold f_N_place_29
      obtain ⟨j, j1, j2, j3⟩ := xin_ex q
      rw [r_fails0 z0, xb_some, if_pos rfl, if_pos (by rw [j2]; exact xin_nI (by omega) (by decide)), a2]
/-! declared -/
theorem neg_add (k : Nat) : (-1 : Int32) + nI (k + 1) = nI k := by
  rw [← nI_1 k]
  generalize nI k = x
  grind
theorem r_level {M : xMem} {n : Nat} {l : List qE} {p1 p2 : Int32} (h0 : nL M n 27 l c0) (hs : qSc l) (hl : l.length ≤ 61) : ∀ (s f : Nat) (v : Int32), s < l.length → s + 2 ≤ f → f_N_declared_142 n p1 p2 f v (nI s) M = some (v + nI ((qg l s).2.2.2.1 + 1), M) := by
  intro s
  induction s using Nat.strongRecOn with
  | _ s ih =>
    intro f v hsl hf
    obtain ⟨g, ef⟩ : ∃ g, f = g + 1 := ⟨f - 1, by omega⟩
    subst ef
    have e15 : M.1 (n + 15) s = if (qg l s).2.2.2.1 = 0 then -1 else nI (qg l s).1 := h0.2 (15, fun e => if e.2.2.2.1 = 0 then -1 else nI e.1) (by simp [c0]) s hsl
    rw [f_N_declared_142, if_neg (nI_pos (by omega)), if_pos (xin_nI (by omega) (by decide)), nI_clamp (by omega), e15]
    have lv := hs.level hsl
    by_cases c : s = 0
    · rw [if_pos (lv.1.mpr c), lv.1.mpr c]
      obtain ⟨g2, ef2⟩ : ∃ g2, g = g2 + 1 := ⟨g - 1, by omega⟩
      subst ef2
      rw [f_N_declared_142, if_pos (by decide)]
      rfl
    · rw [if_neg (fun e => c (lv.1.mp e)), ih (qg l s).1 (by have := (lv.2 c).1; omega) g (v + Int32.ofInt 1) (by have := (lv.2 c).1; omega) (by have := (lv.2 c).1; omega)]
      rw [(lv.2 c).2]
      have e1 : (Int32.ofInt 1) = nI 1 := rfl
      congr 2
      rw [e1, Int32.add_assoc, nI_add, show 1 + ((qg l (qg l s).1).2.2.2.1 + 1) = (qg l (qg l s).1).2.2.2.1 + 1 + 1 by omega]
theorem j_declared {M : xMem} {b n : Nat} {k k2 : Int32} (hn : b + 67 ≤ n) (h : jR M b n) : ∃ res r M', f_D_declared b k k2 M = some (res, M) ∧ f_N_declared n k k2 M = some (r, M') ∧ ansI (fun e => if e = 0 then 2 else 1) res r (M'.1 n 0) ∧ jR M' b n ∧ rF (rAll n) M M' := by
  obtain ⟨on, gv, t, w, wp, rd, hd, hN⟩ := h
  have f0 : rF (rAll n) M (wI M n 0 0) := rF.I (by unfold rAll; omega)
  obtain ⟨hp, ⟨r0, r1, hS⟩, hd'⟩ := id hd
  obtain ⟨tok, sc, hq⟩ := hp.run
  have hF := (q_pg hp.1 hq).2.1
  have h160 := hp.1
  have z0 : (wI M n 0 0).1 n 0 = 0 := mI_s rfl rfl
  have cx := hN.er (v := 0)
  have k1 := cx.1.1.2.2.1
  have sz : (wI M n 0 0).1 n 36 = nI ((Lof t) 1).length := k1.1
  have l60 := hF.2.2.1
  have rS := hS.2.2.2.1
  have rT := hS.2.2.2.2.1
  have sz1 : M.1 (r0 + 12) 8 = nI ((Lof t) 1).length := rT.1
  have r05 : r0 = b + 5 ∨ r0 = b + 36 := by have := hS.1.2.2; omega
  have eN : f_N_declared n k k2 M = if xin k ((Lof t) 1).length = true then f_N_declared_25 n k k2 0 (wI M n 0 0) else f_N_declared_25 n k k2 1 (wI M n 0 0) := by
    unfold f_N_declared xlet xval
    dsimp only
    rw [sz, r_in, xb_some, in_iff (by omega)]
    cases xin k ((Lof t) 1).length with
    | true => rw [if_neg (by decide), if_pos rfl]
    | false => rw [if_pos (show bI false = 0 from rfl), if_neg (by decide)]
  have jr0 : jR (wI M n 0 0) b n := ⟨on, gv, t, w, wp, rd, hd.fr f0 hn, hN.er⟩
  have er : ∀ v : Int32, jR (wI (wI M n 0 0) n 0 v) b n ∧ rF (rAll n) M (wI (wI M n 0 0) n 0 v) := fun v => by
    have f1 : rF (rAll n) M (wI (wI M n 0 0) n 0 v) := f0.trans (rF.I (by unfold rAll; omega))
    exact ⟨⟨on, gv, t, w, wp, rd, hd.fr f1 hn, hN.er.er⟩, f1⟩
  cases q : xin k ((Lof t) 1).length with
  | false =>
    rw [q, if_neg (by decide)] at eN
    refine ⟨.inr 2, 0, wI (wI M n 0 0) n 0 1, ?_, ?_, .inr ⟨2, rfl, mI_s rfl rfl⟩, (er 1).1, (er 1).2⟩
    · unfold f_D_declared f_D_declared_20
      rw [hS.srcS, if_pos r05, sz1]
      rcases not_in (by omega) q with c | c
      · rw [if_pos c]
      · rw [if_neg c]
        by_cases c0 : k < 0
        · rw [if_pos c0]
        · rw [if_neg c0]
    · rw [eN]
      unfold f_N_declared_25
      rw [r_fails1 (by decide) z0, xb_some, if_neg (by decide)]
  | true =>
    obtain ⟨j, j1, j2, j3⟩ := xin_ex q
    rw [q, if_pos rfl] at eN
    have x60 : xin k 60 = true := by rw [j2]; exact xin_nI (by omega) (by decide)
    have x64 : xin k 64 = true := by rw [j2]; exact xin_nI (by omega) (by decide)
    have ek : f_D_declared b k k2 M = (if k2 = 0 then (xsrc b (M.2.2.2 0) fun z18 => if xin k 60 = true then xval (M.1 (r0 + 13) k.toNatClampNeg) fun x20 => xbind (f_T_startOf z18 x20 M) fun r21 M => some (.inl r21, M) else none) else if k2 = 1 then (if xin k 60 = true then some (.inl (M.1 (r0 + 15) k.toNatClampNeg), M) else none) else if k2 = 2 then (if xin k 60 = true then some (.inl (M.1 (r0 + 17) k.toNatClampNeg), M) else none) else if k2 = 3 then (if xin k 60 = true then some (.inl (M.1 (r0 + 18) k.toNatClampNeg), M) else none) else if k2 = 4 then (if xin k 60 = true then some (.inl (M.1 (r0 + 19) k.toNatClampNeg), M) else none) else if k2 = 5 then (xsrc b (M.2.2.2 0) fun z32 => if xin k 60 = true then xval (M.1 (r0 + 16) k.toNatClampNeg) fun x34 => xbind (f_S_levelOf z32 x34 M) fun r35 M => some (.inl r35, M) else none) else (some (.inr 0, M))) := by
      unfold f_D_declared
      rw [hS.srcS, if_neg (by rw [j2]; exact nI_pos (by omega)), sz1, if_pos (by rw [j2]; exact nI_lt j1 (by omega))]
    rw [hS.srcS, hS.srcS, x60, j3] at ek
    simp only [↓reduceIte] at ek
    have e25 : f_N_declared_25 n k k2 0 (wI M n 0 0) = if xin k2 6 = true then f_N_declared_47 n k k2 0 (wI M n 0 0) else f_N_declared_47 n k k2 1 (wI M n 0 0) := by
      unfold f_N_declared_25
      rw [r_fails0 z0, xb_some, if_pos rfl, r_in, xb_some]
      have := in_lit (k := k2) (n := 5) (by omega)
      rw [show decide (0 ≤ k2 ∧ k2 ≤ 5) = xin k2 6 from this]
      cases xin k2 6 with
      | true => rw [if_neg (by decide), if_pos rfl]
      | false => rw [if_pos (show bI false = 0 from rfl), if_neg (by decide)]
    rw [e25] at eN
    have hth := hF.2.2.2.2.1 j j1
    have nm : kT t (qg ((Lof t) 1) j).1 = 23 := hth.2.1
    have nr := kT_real (t := t) (i := (qg ((Lof t) 1) j).1) (by omega)
    have hT := nT_le t
    have lT := nT_len t
    cases q2 : xin k2 6 with
    | false =>
      rw [q2, if_neg (by decide)] at eN
      refine ⟨.inr 0, 0, wI (wI M n 0 0) n 0 2, ?_, ?_, .inr ⟨0, rfl, mI_s rfl rfl⟩, (er 2).1, (er 2).2⟩
      · rw [ek]
        have ne : ∀ i, i < 6 → k2 ≠ nI i := fun i hi e => by rw [e, xin_nI hi (by decide)] at q2; cases q2
        rw [if_neg (show ¬ k2 = 0 from ne 0 (by omega)), if_neg (show ¬ k2 = 1 from ne 1 (by omega)), if_neg (show ¬ k2 = 2 from ne 2 (by omega)), if_neg (show ¬ k2 = 3 from ne 3 (by omega)), if_neg (show ¬ k2 = 4 from ne 4 (by omega)), if_neg (show ¬ k2 = 5 from ne 5 (by omega))]
      · rw [eN]
        unfold f_N_declared_47
        rw [r_fails1 (by decide) z0, xb_some, if_neg (by decide)]
    | true =>
      rw [q2, if_pos rfl] at eN
      obtain ⟨i, i1, i2, i3⟩ := xin_ex q2
      unfold f_N_declared_47 at eN
      rw [r_fails0 z0, xb_some, if_pos rfl, x64, j3] at eN
      simp only [↓reduceIte] at eN
      have e18 : (wI M n 0 0).1 (n + 18) j = nI (qg ((Lof t) 1) j).1 := k1.2 (18, fun e => nI e.1) (by simp [c1s]) j j1
      have e19 : (wI M n 0 0).1 (n + 19) j = nI (qg ((Lof t) 1) j).2.1 := k1.2 (19, fun e => nI e.2.1) (by simp [c1s]) j j1
      have e20 : (wI M n 0 0).1 (n + 20) j = nI (qg ((Lof t) 1) j).2.2.1 := k1.2 (20, fun e => nI e.2.2.1) (by simp [c1s]) j j1
      have e21 : (wI M n 0 0).1 (n + 21) j = nI (qg ((Lof t) 1) j).2.2.2.1 := k1.2 (21, fun e => nI e.2.2.2.1) (by simp [c1s]) j j1
      have e22 := cx.1.1.2.2.2.1 j j1
      have d13 : M.1 (r0 + 13) j = nI (qg ((Lof t) 1) j).1 := rT.2.1 j j1
      have d15 : M.1 (r0 + 15) j = nI (qg ((Lof t) 1) j).2.2.1 := rT.2.2.2.1 j j1
      have d16 : M.1 (r0 + 16) j = nI (qg ((Lof t) 1) j).2.1 := rT.2.2.2.2.1 j j1
      have d17 : M.1 (r0 + 17) j = nI (qRd t (Lof t) j) := rT.2.2.2.2.2.1 j j1
      have d18 : M.1 (r0 + 18) j = nI (qWr t (Lof t) j) := rT.2.2.2.2.2.2.1 j j1
      have d19 : M.1 (r0 + 19) j = nI (qg ((Lof t) 1) j).2.2.2.1 := rT.2.2.2.2.2.2.2.1 j j1
      have c6 : i = 0 ∨ i = 1 ∨ i = 2 ∨ i = 3 ∨ i = 4 ∨ i = 5 := by omega
      have fin : ∀ v : Int32, f_D_declared b k k2 M = some (.inl v, M) → f_N_declared n k k2 M = some (v, wI M n 0 0) → ∃ res r M', f_D_declared b k k2 M = some (res, M) ∧ f_N_declared n k k2 M = some (r, M') ∧ ansI (fun e => if e = 0 then 2 else 1) res r (M'.1 n 0) ∧ jR M' b n ∧ rF (rAll n) M M' := fun v h1 h2 => ⟨.inl v, v, wI M n 0 0, h1, h2, .inl ⟨v, rfl, rfl, z0⟩, jr0, f0⟩
      rcases c6 with c | c | c | c | c | c
      · subst c i2
        rw [if_pos (show nI 0 = 0 from rfl)] at ek eN
        refine fin (nI (pS (pLex t) (qg ((Lof t) 1) j).1)) ?_ ?_
        · rw [ek]
          unfold xval
          dsimp only
          rw [d13, p_startOf hS.lx (by omega), xb_some]
        · rw [eN, e18, if_pos (xin_nI (by omega) (by decide)), nI_clamp (by omega), (cx.1.1.1.2.2.1 _ nr).2.1]
      · subst c i2
        rw [if_neg (show ¬ nI 1 = 0 by decide), if_pos (show nI 1 = 1 from rfl)] at ek eN
        exact fin (nI (qg ((Lof t) 1) j).2.2.1) (by rw [ek, d15]) (by rw [eN, e20])
      · subst c i2
        rw [if_neg (show ¬ nI 2 = 0 by decide), if_neg (show ¬ nI 2 = 1 by decide), if_pos (show nI 2 = 2 from rfl)] at ek eN
        exact fin (nI (qRd t (Lof t) j)) (by rw [ek, d17]) (by rw [eN, e22.1]; rfl)
      · subst c i2
        rw [if_neg (show ¬ nI 3 = 0 by decide), if_neg (show ¬ nI 3 = 1 by decide), if_neg (show ¬ nI 3 = 2 by decide), if_pos (show nI 3 = 3 from rfl)] at ek eN
        exact fin (nI (qWr t (Lof t) j)) (by rw [ek, d18]) (by rw [eN, e22.2]; rfl)
      · subst c i2
        rw [if_neg (show ¬ nI 4 = 0 by decide), if_neg (show ¬ nI 4 = 1 by decide), if_neg (show ¬ nI 4 = 2 by decide), if_neg (show ¬ nI 4 = 3 by decide), if_pos (show nI 4 = 4 from rfl)] at ek eN
        exact fin (nI (qg ((Lof t) 1) j).2.2.2.1) (by rw [ek, d19]) (by rw [eN, e21])
      · subst c i2
        rw [if_neg (show ¬ nI 5 = 0 by decide), if_neg (show ¬ nI 5 = 1 by decide), if_neg (show ¬ nI 5 = 2 by decide), if_neg (show ¬ nI 5 = 3 by decide), if_neg (show ¬ nI 5 = 4 by decide)] at ek eN
        rw [if_pos (show nI 5 = 5 from rfl)] at ek
        have hs1 := hth.1
        have l61 := hF.2.1
        refine fin (nI (qg ((Lof t) 0) (qg ((Lof t) 1) j).2.1).2.2.2.1) ?_ ?_
        · rw [ek]
          unfold xval
          dsimp only
          rw [d16]
          unfold f_S_levelOf f_S_isThere
          rw [if_neg (nI_pos (by omega)), rS.1, if_neg (nI_ge hs1 (by omega)), xb_some, if_neg (by decide), if_pos (xin_nI (by omega) (by decide)), nI_clamp (by omega), rS.2.2.2 _ hs1]
          rfl
        · rw [eN, e19, r_level cx.1.1.2.1 hF.1 l61 _ _ _ hs1 (by unfold xFuel; omega), neg_add]
