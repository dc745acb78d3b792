/-! the law: rule; its switch; its loop (printed by gen/run6.py) -/
set_option maxRecDepth 100000 in
set_option maxHeartbeats 400000 in
theorem lc_rule_289 {p : Program} {l : Launch} {e : Env} {R : Room} {s : State} {m : MethodId} {args : Array Value} {below : List Frame} {meth : Method} {c : Code} {Q : State → Prop} {G : xG} {b Ln : Nat} {xs : Nat → Int32} {kk bs : Nat → Nat} {o a n : Nat} {f : Nat → Int64} {i : Int32} {sz cells slots : Nat} {M1 M2 : xMem} {p1 p2 r kv : Int32} {cells' slots' : Nat} (hc : xC p s m args meth c G 7 code "LintDeskLaw" ret) (hw : xLw l G R s b Ln xs kk bs o a n) (hf : cells + 1 ≤ R.cells ∧ slots + 6 ≤ R.slots) (hk : xKo p l e R s m args below meth c G Q kk bs b o a n i cells slots) (e2 : f_N_rule n p1 p2 M1 = some (r, M2)) (hJ2 : jR M2 a n) (h0 : M2.1 n 0 = kv) (hkv : kv = 0 → f (0 : Int32).toNatClampNeg = if r = 0 then 0 else 1) (h1 : cells' ≤ cells + 1) (h2 : slots' ≤ slots + 6) : xW p l e R s m args below meth c G 7 Q (xo G (yO G kk bs o f) M1) sz cells' slots' 289 [some (.ref b), some (.ref a), some (.ref n), some (.ref o), some (.int i), some (.int kv), none] [.int p2, .int p1, .ref n] := by
  obtain ⟨hT, hl, hX, hbl, hbA, hR, hn, hD, hN, ho⟩ := hw
  have e3 : f_N_thrown n M2 = some (M2.1 n 0, M2) := rfl
  refine x_callV hc (As := [.int p1, .int p2]) (n := 2) (s_N_rule (hN _) e2) (c_N (hN _) _) rfl (hR.call (by decide) (by decide)) ⟨by decide, by decide, by decide⟩ rfl rfl xw1393 xw18 xw1390 xw1391 xw1392 (Nat.le_of_ble_eq_true rfl) ⟨by omega, by omega⟩ (xd dk_W_law 149 rfl) ?_
  refine x_istore hc (xd dk_W_law 150 rfl) (by decide) rfl ?_
  refine x_aload_n hc (xd dk_W_law 151 rfl) rfl rfl ?_
  refine x_callV hc (As := []) (n := 0) (s_N_thrown (hN _) e3) (c_N (hN _) _) rfl (hR.call (by decide) (by decide)) ⟨by decide, by decide, by decide⟩ rfl rfl xw1342 xw18 xw1339 xw1340 xw1341 (Nat.le_of_ble_eq_true rfl) ⟨by omega, by omega⟩ (xd dk_W_law 152 rfl) ?_
  refine x_iload hc (xd dk_W_law 153 rfl) rfl ?_
  refine x_icmp_eq hc (tgt := 305) (xd dk_W_law 154 rfl) rfl (fun _ => ?_) (fun hne => ?_)
  case refine_2 => exact absurd h0 hne
  refine x_iload hc (xd dk_W_law 157 rfl) rfl ?_
  refine x_if_ne hc (tgt := 329) (xd dk_W_law 158 rfl) rfl (fun hne => ?_) (fun heq => ?_)
  · skip
    refine x_goto hc (tgt := 725) (xd dk_W_law 171 rfl) rfl ?_
    refine x_drop 5 (x_drop 6 ?_)
    exact hk _ _ _ _ _ hJ2 (by omega) (by omega)
  · have hv := hkv heq
    refine x_aload_n hc (xd dk_W_law 159 rfl) rfl rfl ?_
    refine x_iconst hc (v := 0) (xd dk_W_law 160 rfl) (by decide) ?_
    refine x_lald hc (cO ho) (xin_in (by decide)) (xd dk_W_law 161 rfl) ?_
    refine x_iload hc (xd dk_W_law 162 rfl) rfl ?_
    refine x_if_eq hc (tgt := 322) (xd dk_W_law 163 rfl) rfl (fun qr => ?_) (fun qr => ?_)
    · skip
      refine x_lconst hc (v := 0) (xd dk_W_law 166 rfl) (by decide) ?_
      refine x_lcmp hc (xd dk_W_law 167 rfl) ?_
      refine x_if_eq hc (tgt := 329) (xd dk_W_law 168 rfl) rfl (fun _ => ?_) (fun hne => ?_)
      case refine_2 => exact absurd (cmp0 (hv.trans (if_pos qr))) hne
      refine x_goto hc (tgt := 725) (xd dk_W_law 171 rfl) rfl ?_
      refine x_drop 5 (x_drop 6 ?_)
      exact hk _ _ _ _ _ hJ2 (by omega) (by omega)
    · skip
      refine x_lconst hc (v := 1) (xd dk_W_law 164 rfl) (by decide) ?_
      refine x_goto hc (tgt := 323) (xd dk_W_law 165 rfl) rfl ?_
      refine x_lcmp hc (xd dk_W_law 167 rfl) ?_
      refine x_if_eq hc (tgt := 329) (xd dk_W_law 168 rfl) rfl (fun _ => ?_) (fun hne => ?_)
      case refine_2 => exact absurd (cmp0 (hv.trans (if_neg qr))) hne
      refine x_goto hc (tgt := 725) (xd dk_W_law 171 rfl) rfl ?_
      refine x_drop 5 (x_drop 6 ?_)
      exact hk _ _ _ _ _ hJ2 (by omega) (by omega)
set_option maxRecDepth 100000 in
set_option maxHeartbeats 400000 in
theorem lc_rule_266 {p : Program} {l : Launch} {e : Env} {R : Room} {s : State} {m : MethodId} {args : Array Value} {below : List Frame} {meth : Method} {c : Code} {Q : State → Prop} {G : xG} {b Ln : Nat} {xs : Nat → Int32} {kk bs : Nat → Nat} {o a n : Nat} {f : Nat → Int64} {i : Int32} {sz cells slots : Nat} {M1 M2 : xMem} {p2 r kv : Int32} {cells' slots' : Nat} (hc : xC p s m args meth c G 7 code "LintDeskLaw" ret) (hw : xLw l G R s b Ln xs kk bs o a n) (hf : cells + 1 ≤ R.cells ∧ slots + 6 ≤ R.slots) (hk : xKo p l e R s m args below meth c G Q kk bs b o a n i cells slots) (i1 : vp_in (i + 1) Ln) (i2 : vp_in (i + 2) Ln) (hp : p2 = if (xs (i + 2).toNatClampNeg) = 0 then 0 else 1) (e2 : f_N_rule n (xs (i + 1).toNatClampNeg) p2 M1 = some (r, M2)) (hJ2 : jR M2 a n) (h0 : M2.1 n 0 = kv) (hkv : kv = 0 → f (0 : Int32).toNatClampNeg = if r = 0 then 0 else 1) (h1 : cells' ≤ cells + 1) (h2 : slots' ≤ slots + 6) : xW p l e R s m args below meth c G 7 Q (xo G (yO G kk bs o f) M1) sz cells' slots' 266 [some (.ref b), some (.ref a), some (.ref n), some (.ref o), some (.int i), none, none] [.int kv] := by
  have hw2 := hw
  obtain ⟨hT, hl, hX, hbl, hbA, hR, hn, hD, hN, ho⟩ := hw
  refine x_istore hc (xd dk_W_law 133 rfl) (by decide) rfl ?_
  refine x_aload_n hc (xd dk_W_law 134 rfl) rfl rfl ?_
  refine x_aload_n hc (xd dk_W_law 135 rfl) rfl rfl ?_
  refine x_iload hc (xd dk_W_law 136 rfl) rfl ?_
  refine x_iconst hc (v := 1) (xd dk_W_law 137 rfl) (by decide) ?_
  refine x_iadd hc (xd dk_W_law 138 rfl) ?_
  refine x_sld hc hX hbl hbA i1 (xd dk_W_law 139 rfl) ?_
  refine x_aload_n hc (xd dk_W_law 140 rfl) rfl rfl ?_
  refine x_iload hc (xd dk_W_law 141 rfl) rfl ?_
  refine x_iconst hc (v := 2) (xd dk_W_law 142 rfl) (by decide) ?_
  refine x_iadd hc (xd dk_W_law 143 rfl) ?_
  refine x_sld hc hX hbl hbA i2 (xd dk_W_law 144 rfl) ?_
  refine x_if_eq hc (tgt := 288) (xd dk_W_law 145 rfl) rfl (fun q => ?_) (fun q => ?_)
  · have hp : p2 = 0 := hp.trans (if_pos q)
    subst hp
    refine x_iconst hc (v := 0) (xd dk_W_law 148 rfl) (by decide) ?_
    exact lc_rule_289 hc hw2 hf hk e2 hJ2 h0 hkv h1 h2
  · have hp : p2 = 1 := hp.trans (if_neg q)
    subst hp
    refine x_iconst hc (v := 1) (xd dk_W_law 146 rfl) (by decide) ?_
    refine x_goto hc (tgt := 289) (xd dk_W_law 147 rfl) rfl ?_
    exact lc_rule_289 hc hw2 hf hk e2 hJ2 h0 hkv h1 h2
set_option maxRecDepth 100000 in
set_option maxHeartbeats 400000 in
theorem lc_rule_262 {p : Program} {l : Launch} {e : Env} {R : Room} {s : State} {m : MethodId} {args : Array Value} {below : List Frame} {meth : Method} {c : Code} {Q : State → Prop} {G : xG} {b Ln : Nat} {xs : Nat → Int32} {kk bs : Nat → Nat} {o a n : Nat} {f : Nat → Int64} {M : xMem} {i : Int32} {sz cells slots : Nat} {p2 : Int32} (hc : xC p s m args meth c G 7 code "LintDeskLaw" ret) (hw : xLw l G R s b Ln xs kk bs o a n) (hJ : jR M a n) (h1 : vp_in (i + 1) Ln) (h2 : vp_in (i + 2) Ln) (hf : cells + 1 ≤ R.cells ∧ slots + 6 ≤ R.slots) (hk : xKo p l e R s m args below meth c G Q kk bs b o a n i cells slots) (hp : p2 = if (xs (i + 2).toNatClampNeg) = 0 then 0 else 1) : xW p l e R s m args below meth c G 7 Q (xo G (yO G kk bs o f) M) sz cells slots 262 [some (.ref b), some (.ref a), some (.ref n), some (.ref o), some (.int i), none, none] [.int p2, .int (xs (i + 1).toNatClampNeg), .ref a] := by
  have hw2 := hw
  obtain ⟨hT, hl, hX, hbl, hbA, hR, hn, hD, hN, ho⟩ := hw
  refine x_aload_n hc (xd dk_W_law 131 rfl) rfl rfl ?_
  obtain ⟨res, M1, r, M2, e1, e2, an, hJ2, -, -⟩ := j_rule (k := (xs (i + 1).toNatClampNeg)) (k2 := p2) hn hJ
  rcases an with ⟨v, rfl, hr, h0⟩ | ⟨er, rfl, h0⟩
  · skip
    refine x_callSW hc hT (As := [.ref a, .int (xs (i + 1).toNatClampNeg), .int p2, .ref o]) (n := 4) (w_rule_r (hD _) ho e1) (hR.call (by decide) (by decide)) ⟨by decide, by decide, by decide⟩ rfl rfl xcw_rule xw0 xw918 xw919 (Nat.le_of_ble_eq_true rfl) hf (xd dk_W_law 132 rfl) ?_
    exact lc_rule_266 hc hw2 hf hk h1 h2 hp e2 hJ2 h0 (fun _ => by rw [updL0, hr]) (by omega) (by omega)
  · skip
    obtain ⟨kv, hkv⟩ : ∃ kv, kv = nI ((fun e => 1) er) := ⟨_, rfl⟩
    refine x_callSW hc hT (As := [.ref a, .int (xs (i + 1).toNatClampNeg), .int p2, .ref o]) (n := 4) (w_rule_t (hD _) ho hl e1 hkv) (hR.call (by decide) (by decide)) ⟨by decide, by decide, by decide⟩ rfl rfl xcw_rule xw0 xw918 xw919 (Nat.le_of_ble_eq_true rfl) hf (xd dk_W_law 132 rfl) ?_
    exact lc_rule_266 hc hw2 hf hk h1 h2 hp e2 hJ2 (h0.trans hkv.symm) (fun hz => absurd (show nI 1 = 0 from hkv.symm.trans hz) (by decide)) (by omega) (by omega)
set_option maxRecDepth 100000 in
set_option maxHeartbeats 400000 in
theorem lc_rule {p : Program} {l : Launch} {e : Env} {R : Room} {s : State} {m : MethodId} {args : Array Value} {below : List Frame} {meth : Method} {c : Code} {Q : State → Prop} {G : xG} {b Ln : Nat} {xs : Nat → Int32} {kk bs : Nat → Nat} {o a n : Nat} {f : Nat → Int64} {M : xMem} {i : Int32} {sz cells slots : Nat} (hc : xC p s m args meth c G 7 code "LintDeskLaw" ret) (hw : xLw l G R s b Ln xs kk bs o a n) (hJ : jR M a n) (h1 : vp_in (i + 1) Ln) (h2 : vp_in (i + 2) Ln) (hf : cells + 1 ≤ R.cells ∧ slots + 6 ≤ R.slots) (hk : xKo p l e R s m args below meth c G Q kk bs b o a n i cells slots) : xW p l e R s m args below meth c G 7 Q (xo G (yO G kk bs o f) M) sz cells slots 241 [some (.ref b), some (.ref a), some (.ref n), some (.ref o), some (.int i), none, none] [] := by
  have hw2 := hw
  obtain ⟨hT, hl, hX, hbl, hbA, hR, hn, hD, hN, ho⟩ := hw
  refine x_aload_n hc (xd dk_W_law 116 rfl) rfl rfl ?_
  refine x_aload_n hc (xd dk_W_law 117 rfl) rfl rfl ?_
  refine x_iload hc (xd dk_W_law 118 rfl) rfl ?_
  refine x_iconst hc (v := 1) (xd dk_W_law 119 rfl) (by decide) ?_
  refine x_iadd hc (xd dk_W_law 120 rfl) ?_
  refine x_sld hc hX hbl hbA h1 (xd dk_W_law 121 rfl) ?_
  refine x_aload_n hc (xd dk_W_law 122 rfl) rfl rfl ?_
  refine x_iload hc (xd dk_W_law 123 rfl) rfl ?_
  refine x_iconst hc (v := 2) (xd dk_W_law 124 rfl) (by decide) ?_
  refine x_iadd hc (xd dk_W_law 125 rfl) ?_
  refine x_sld hc hX hbl hbA h2 (xd dk_W_law 126 rfl) ?_
  refine x_if_eq hc (tgt := 261) (xd dk_W_law 127 rfl) rfl (fun q => ?_) (fun q => ?_)
  · refine x_iconst hc (v := 0) (xd dk_W_law 130 rfl) (by decide) ?_
    exact lc_rule_262 hc hw2 hJ h1 h2 hf hk (if_pos q).symm
  · refine x_iconst hc (v := 1) (xd dk_W_law 128 rfl) (by decide) ?_
    refine x_goto hc (tgt := 262) (xd dk_W_law 129 rfl) rfl ?_
    exact lc_rule_262 hc hw2 hJ h1 h2 hf hk (if_neg q).symm
set_option maxRecDepth 100000 in
set_option maxHeartbeats 400000 in
theorem lc_top {p : Program} {l : Launch} {e : Env} {R : Room} {s : State} {m : MethodId} {args : Array Value} {below : List Frame} {meth : Method} {c : Code} {Q : State → Prop} {G : xG} {b Ln : Nat} {xs : Nat → Int32} {kk bs : Nat → Nat} {o a n : Nat} {f : Nat → Int64} {M : xMem} {k sz cells slots : Nat} (hc : xC p s m args meth c G 7 code "LintDeskLaw" ret) (hw : xLw l G R s b Ln xs kk bs o a n) (hLn : Ln ≤ 1536) (hend : ∀ (hh : xH) (sz cells slots : Nat) (L : List (Option Value)), cells ≤ R.cells → slots ≤ R.slots → xW p l e R s m args below meth c G 7 Q hh sz cells slots 732 L [.int 1]) (hJ : jR M a n) (g2 : 3 * k ≤ Ln) (g3 : cells ≤ R.cells) (g4 : slots ≤ R.slots) (hin : 3 * k + 3 ≤ Ln → xW p l e R s m args below meth c G 7 Q (xo G (yO G kk bs o f) M) sz cells slots 32 (lL b a n o (nI (3 * k))) []) : xW p l e R s m args below meth c G 7 Q (xo G (yO G kk bs o f) M) sz cells slots 23 (lL b a n o (nI (3 * k))) [] := by
  obtain ⟨hT, hl, hX, hbl, hbA, hR, hn, hD, hN, ho⟩ := hw
  refine x_iload hc (xd dk_W_law 13 rfl) rfl ?_
  refine x_aload_n hc (xd dk_W_law 14 rfl) rfl rfl ?_
  refine x_slen2 hc hX hbl hbA (xd dk_W_law 15 rfl) ?_
  refine x_iconst hc (v := 3) (xd dk_W_law 16 rfl) (by decide) ?_
  refine x_isub hc (xd dk_W_law 17 rfl) ?_
  refine x_icmp_gt hc (tgt := 731) (xd dk_W_law 18 rfl) rfl (fun _ => ?_) (fun q => ?_)
  · refine x_iconst hc (v := 1) (xd dk_W_law 425 rfl) (by decide) ?_
    exact hend _ _ _ _ _ g3 g4
  · refine hin ?_
    by_cases h : 3 * k + 3 ≤ Ln
    · exact h
    · refine absurd ?_ q
      rw [Int32.lt_iff_toInt_lt, Int32.toInt_sub, show (Int32.ofNat Ln) = nI Ln from rfl, nI_toInt (by omega), nI_toInt (by omega)]
      have e : (3 : Int32).toInt = 3 := by decide
      rw [e, Int.bmod_eq_of_le (by omega) (by omega)]
      omega
set_option maxRecDepth 100000 in
set_option maxHeartbeats 400000 in
theorem lc_switch {p : Program} {l : Launch} {e : Env} {R : Room} {s : State} {m : MethodId} {args : Array Value} {below : List Frame} {meth : Method} {c : Code} {Q : State → Prop} {G : xG} {b Ln : Nat} {xs : Nat → Int32} {kk bs : Nat → Nat} {o a n : Nat} {f : Nat → Int64} {M : xMem} {i : Int32} {sz cells slots : Nat} (hc : xC p s m args meth c G 7 code "LintDeskLaw" ret) (hw : xLw l G R s b Ln xs kk bs o a n) (hJ : jR M a n) (h1 : vp_in (i + 1) Ln) (h2 : vp_in (i + 2) Ln) (hf : cells + 1 ≤ R.cells ∧ slots + 6 ≤ R.slots) (hk : xKo p l e R s m args below meth c G Q kk bs b o a n i cells slots) (h0 : vp_in i Ln) : xW p l e R s m args below meth c G 7 Q (xo G (yO G kk bs o f) M) sz cells slots 32 [some (.ref b), some (.ref a), some (.ref n), some (.ref o), some (.int i), none, none] [] := by
  have hw2 := hw
  obtain ⟨hT, hl, hX, hbl, hbA, hR, hn, hD, hN, ho⟩ := hw
  refine x_aload_n hc (xd dk_W_law 19 rfl) rfl rfl ?_
  refine x_iload hc (xd dk_W_law 20 rfl) rfl ?_
  refine x_sld hc hX hbl hbA h0 (xd dk_W_law 21 rfl) ?_
  refine x_bipush hc (v := 15) (xd dk_W_law 22 rfl) (by decide) ?_
  refine x_iand hc (xd dk_W_law 23 rfl) ?_
  generalize (xs i.toNatClampNeg &&& 15) = y
  by_cases q0 : y = 0
  case pos =>
    refine x_tableIn hc (off := 57) (tgt := 96) (xd dk_W_law 24 rfl) (by rw [q0]; decide) (by rw [q0]; decide) (by rw [q0]; rfl) rfl ?_
    exact lc_write hc hw2 hJ h1 h2 hf hk
  by_cases q1 : y = 1
  case pos =>
    refine x_tableIn hc (off := 145) (tgt := 184) (xd dk_W_law 24 rfl) (by rw [q1]; decide) (by rw [q1]; decide) (by rw [q1]; rfl) rfl ?_
    exact lc_read hc hw2 hJ h1 h2 hf hk
  by_cases q2 : y = 2
  case pos =>
    refine x_tableIn hc (off := 189) (tgt := 228) (xd dk_W_law 24 rfl) (by rw [q2]; decide) (by rw [q2]; decide) (by rw [q2]; rfl) rfl ?_
    exact lc_wrong hc hw2 hJ h1 h2 hf hk
  by_cases q3 : y = 3
  case pos =>
    refine x_tableIn hc (off := 202) (tgt := 241) (xd dk_W_law 24 rfl) (by rw [q3]; decide) (by rw [q3]; decide) (by rw [q3]; rfl) rfl ?_
    exact lc_rule hc hw2 hJ h1 h2 hf hk
  by_cases q4 : y = 4
  case pos =>
    refine x_tableIn hc (off := 293) (tgt := 332) (xd dk_W_law 24 rfl) (by rw [q4]; decide) (by rw [q4]; decide) (by rw [q4]; rfl) rfl ?_
    exact lc_give hc hw2 hJ h1 h2 hf hk
  by_cases q5 : y = 5
  case pos =>
    refine x_tableIn hc (off := 381) (tgt := 420) (xd dk_W_law 24 rfl) (by rw [q5]; decide) (by rw [q5]; decide) (by rw [q5]; rfl) rfl ?_
    exact lc_found hc hw2 hJ h1 h2 hf hk
  by_cases q6 : y = 6
  case pos =>
    refine x_tableIn hc (off := 437) (tgt := 476) (xd dk_W_law 24 rfl) (by rw [q6]; decide) (by rw [q6]; decide) (by rw [q6]; rfl) rfl ?_
    exact lc_place hc hw2 hJ h1 h2 hf hk
  by_cases q7 : y = 7
  case pos =>
    refine x_tableIn hc (off := 493) (tgt := 532) (xd dk_W_law 24 rfl) (by rw [q7]; decide) (by rw [q7]; decide) (by rw [q7]; rfl) rfl ?_
    exact lc_mend hc hw2 hJ h1 h2 hf hk
  by_cases q8 : y = 8
  case pos =>
    refine x_tableIn hc (off := 506) (tgt := 545) (xd dk_W_law 24 rfl) (by rw [q8]; decide) (by rw [q8]; decide) (by rw [q8]; rfl) rfl ?_
    exact lc_letter hc hw2 hJ h1 h2 hf hk
  by_cases q9 : y = 9
  case pos =>
    refine x_tableIn hc (off := 562) (tgt := 601) (xd dk_W_law 24 rfl) (by rw [q9]; decide) (by rw [q9]; decide) (by rw [q9]; rfl) rfl ?_
    exact lc_declared hc hw2 hJ h1 h2 hf hk
  by_cases q10 : y = 10
  case pos =>
    refine x_tableIn hc (off := 630) (tgt := 669) (xd dk_W_law 24 rfl) (by rw [q10]; decide) (by rw [q10]; decide) (by rw [q10]; rfl) rfl ?_
    exact lc_count hc hw2 hJ h1 h2 hf hk
  refine x_tableOut hc (tgt := 725) (xd dk_W_law 24 rfl) (by have n0 := xne (v := 0) q0 (by decide); have n1 := xne (v := 1) q1 (by decide); have n2 := xne (v := 2) q2 (by decide); have n3 := xne (v := 3) q3 (by decide); have n4 := xne (v := 4) q4 (by decide); have n5 := xne (v := 5) q5 (by decide); have n6 := xne (v := 6) q6 (by decide); have n7 := xne (v := 7) q7 (by decide); have n8 := xne (v := 8) q8 (by decide); have n9 := xne (v := 9) q9 (by decide); have n10 := xne (v := 10) q10 (by decide); omega) rfl ?_
  exact hk _ _ _ _ _ hJ (by omega) (by omega)
set_option maxRecDepth 100000 in
set_option maxHeartbeats 400000 in
theorem lc_loop {p : Program} {l : Launch} {e : Env} {R : Room} {s : State} {m : MethodId} {args : Array Value} {below : List Frame} {meth : Method} {c : Code} {Q : State → Prop} {G : xG} {b Ln : Nat} {xs : Nat → Int32} {kk bs : Nat → Nat} {o a n : Nat} (hc : xC p s m args meth c G 7 code "LintDeskLaw" ret) (hw : xLw l G R s b Ln xs kk bs o a n) (hLn : Ln ≤ 1536) (hend : ∀ (hh : xH) (sz cells slots : Nat) (L : List (Option Value)), cells ≤ R.cells → slots ≤ R.slots → xW p l e R s m args below meth c G 7 Q hh sz cells slots 732 L [.int 1]) : ∀ (j k : Nat) (f : Nat → Int64) (M : xMem) (sz cells slots : Nat), jR M a n → Ln ≤ 3 * k + 3 * j + 2 → 3 * k ≤ Ln → cells + j ≤ R.cells → slots + 6 * j ≤ R.slots → xW p l e R s m args below meth c G 7 Q (xo G (yO G kk bs o f) M) sz cells slots 23 (lL b a n o (nI (3 * k))) [] := by
  intro j
  induction j with
  | zero =>
    intro k f M sz cells slots hJ g1 g2 g3 g4
    exact lc_top hc hw hLn hend hJ g2 (by omega) (by omega) (fun h => absurd h (by omega))
  | succ j ih =>
    intro k f M sz cells slots hJ g1 g2 g3 g4
    refine lc_top hc hw hLn hend hJ g2 (by omega) (by omega) (fun h => ?_)
    have e1 : nI (3 * k) + 1 = nI (3 * k + 1) := nI_1 _
    have e2 : nI (3 * k) + 2 = nI (3 * k + 2) := nI_add _ 2
    refine lc_switch (i := nI (3 * k)) hc hw hJ (by rw [e1]; exact nI_in (by omega) (by omega)) (by rw [e2]; exact nI_in (by omega) (by omega)) ⟨by omega, by omega⟩ ?_ (nI_in (by omega) (by omega))
    intro f2 M2 sz2 cells2 slots2 hJ2 c1 c2
    refine x_iinc hc (xd dk_W_law 423 rfl) rfl (by decide) rfl ?_
    refine x_goto hc (tgt := 23) (xd dk_W_law 424 rfl) rfl ?_
    have e3 : nI (3 * k) + Int32.ofInt 3 = nI (3 * (k + 1)) := nI_add _ 3
    have := ih (k + 1) f2 M2 sz2 cells2 slots2 hJ2 (by omega) (by omega) (by omega) (by omega)
    rw [← e3] at this
    exact this
