/-! the law: its rows, what holds all through it, its cases -/
section
variable {p : Program} {l : Launch} {e : Env} {R : Room} {s : State} {m : MethodId} {args : Array Value} {below : List Frame} {meth : Method} {c : Code} {Q : State → Prop} {G : xG} {nL : Nat} {cc : ByteArray} {own : String} {ret : Option FieldType} {hh : xH} {sz cells slots pc : Nat} {L : List (Option Value)} {rest st : List Value}
theorem x_sld (hc : xC p s m args meth c G nL cc own ret) {b Ln : Nat} {xs : Nat → Int32} (hX : va_X b Ln xs s s.heap) (hbl : b < s.heap.size) (hbA : ¬ xA G b) {i : Int32} (hin : vp_in i Ln) (hdg : decode cc pc = .ok (.iaload, 1)) (kk : xW p l e R s m args below meth c G nL Q hh sz cells slots (pc + 1) L (.int (xs i.toNatClampNeg) :: rest)) : xW p l e R s m args below meth c G nL Q hh sz cells slots pc L (.int i :: .ref b :: rest) := fun H locs ls hP hz hS hL => va_sld hc.1 hc.2.1 hX hbl hbA hS hin hdg (kk H locs ls hP hz hS hL)
theorem x_slen2 (hc : xC p s m args meth c G nL cc own ret) {b Ln : Nat} {xs : Nat → Int32} (hX : va_X b Ln xs s s.heap) (hbl : b < s.heap.size) (hbA : ¬ xA G b) (hdg : decode cc pc = .ok (.arraylength, 1)) (kk : xW p l e R s m args below meth c G nL Q hh sz cells slots (pc + 1) L (.int (Int32.ofNat Ln) :: rest)) : xW p l e R s m args below meth c G nL Q hh sz cells slots pc L (.ref b :: rest) := fun H locs ls hP hz hS hL => va_slen hc.1 hc.2.1 hX hbl hbA hS hdg (kk H locs ls hP hz hS hL)
end
/-- what holds all through the law: k, bs the layout, o the out array, a the desk, n the reference, b the script -/
def xLw (l : Launch) (G : xG) (R : Room) (s : State) (b Ln : Nat) (xs : Nat → Int32) (kk bs : Nat → Nat) (o a n : Nat) : Prop :=
  xT G s ∧ xNT l ∧ va_X b Ln xs s s.heap ∧ b < s.heap.size ∧ ¬ xA G b ∧ xRm R 163 ∧ a + 67 ≤ n ∧ (∀ f, xDk (yO G kk bs o f) a) ∧ (∀ f, xMd (yO G kk bs o f) n) ∧ kk o = 0
def lL (b a n o : Nat) (i : Int32) : List (Option Value) := [some (.ref b), some (.ref a), some (.ref n), some (.ref o), some (.int i), none, none]
/-- behind a case -/
def xKo (p : Program) (l : Launch) (e : Env) (R : Room) (s : State) (m : MethodId) (args : Array Value) (below : List Frame) (meth : Method) (c : Code) (G : xG) (Q : State → Prop) (kk bs : Nat → Nat) (b o a n : Nat) (i : Int32) (cells slots : Nat) : Prop :=
  ∀ (f : Nat → Int64) (M : xMem) (sz cells' slots' : Nat), jR M a n → cells' ≤ cells + 1 → slots' ≤ slots + 6 → xW p l e R s m args below meth c G 7 Q (xo G (yO G kk bs o f) M) sz cells' slots' 725 (lL b a n o i) []
theorem updL0 (f : Nat → Int64) (v : Int64) : vp_updL f 0 v (0 : Int32).toNatClampNeg = v := if_pos rfl
theorem cmp0 {x y : Int64} (h : x = y) : lg_cmp x y = 0 := (lg_cmp_eq x y).mpr h
set_option maxRecDepth 100000 in
set_option maxHeartbeats 400000 in
theorem lc_wrong {p : Program} {l : Launch} {e : Env} {R : Room} {s : State} {m : MethodId} {args : Array Value} {below : List Frame} {meth : Method} {c : Code} {Q : State → Prop} {G : xG} {b Ln : Nat} {xs : Nat → Int32} {kk bs : Nat → Nat} {o a n : Nat} {f : Nat → Int64} {M : xMem} {i : Int32} {sz cells slots : Nat} (hc : xC p s m args meth c G 7 code "LintDeskLaw" ret) (hw : xLw l G R s b Ln xs kk bs o a n) (hJ : jR M a n) (h1 : vp_in (i + 1) Ln) (h2 : vp_in (i + 2) Ln) (hf : cells + 1 ≤ R.cells ∧ slots + 6 ≤ R.slots) (hk : xKo p l e R s m args below meth c G Q kk bs b o a n i cells slots) : xW p l e R s m args below meth c G 7 Q (xo G (yO G kk bs o f) M) sz cells slots 228 [some (.ref b), some (.ref a), some (.ref n), some (.ref o), some (.int i), none, none] [] := by
  obtain ⟨hT, hl, hX, hbl, hbA, hR, hn, hD, hN, ho⟩ := hw
  obtain ⟨r, M2, e1, e2, hJ2, -⟩ := j_wrong hn hJ
  refine x_aload_n hc (xd dk_W_law 109 rfl) rfl rfl ?_
  refine x_callV hc (As := []) (n := 0) (s_D_wrong (hD _) e1) (c_D (hD _) _) rfl (hR.call (by decide) (by decide)) ⟨by decide, by decide, by decide⟩ rfl rfl xw710 xw1 xw707 xw708 xw709 (Nat.le_of_ble_eq_true rfl) ⟨by omega, by omega⟩ (xd dk_W_law 110 rfl) ?_
  refine x_aload_n hc (xd dk_W_law 111 rfl) rfl rfl ?_
  refine x_callV hc (As := []) (n := 0) (s_N_wrong (hN _) e2) (c_N (hN _) _) rfl (hR.call (by decide) (by decide)) ⟨by decide, by decide, by decide⟩ rfl rfl xw1389 xw18 xw1386 xw1387 xw1388 (Nat.le_of_ble_eq_true rfl) ⟨by omega, by omega⟩ (xd dk_W_law 112 rfl) ?_
  refine x_icmp_eq hc (tgt := 725) (xd dk_W_law 113 rfl) rfl (fun _ => ?_) (fun hne => absurd rfl hne)
  exact hk _ _ _ _ _ hJ2 (by omega) (by omega)
set_option maxRecDepth 100000 in
set_option maxHeartbeats 400000 in
theorem lc_mend {p : Program} {l : Launch} {e : Env} {R : Room} {s : State} {m : MethodId} {args : Array Value} {below : List Frame} {meth : Method} {c : Code} {Q : State → Prop} {G : xG} {b Ln : Nat} {xs : Nat → Int32} {kk bs : Nat → Nat} {o a n : Nat} {f : Nat → Int64} {M : xMem} {i : Int32} {sz cells slots : Nat} (hc : xC p s m args meth c G 7 code "LintDeskLaw" ret) (hw : xLw l G R s b Ln xs kk bs o a n) (hJ : jR M a n) (h1 : vp_in (i + 1) Ln) (h2 : vp_in (i + 2) Ln) (hf : cells + 1 ≤ R.cells ∧ slots + 6 ≤ R.slots) (hk : xKo p l e R s m args below meth c G Q kk bs b o a n i cells slots) : xW p l e R s m args below meth c G 7 Q (xo G (yO G kk bs o f) M) sz cells slots 532 [some (.ref b), some (.ref a), some (.ref n), some (.ref o), some (.int i), none, none] [] := by
  obtain ⟨hT, hl, hX, hbl, hbA, hR, hn, hD, hN, ho⟩ := hw
  obtain ⟨r, M1, M2, e1, e2, hJ2, -, -⟩ := j_mend hn hJ
  refine x_aload_n hc (xd dk_W_law 301 rfl) rfl rfl ?_
  refine x_callV hc (As := []) (n := 0) (s_D_mend (hD _) e1) (c_D (hD _) _) rfl (hR.call (by decide) (by decide)) ⟨by decide, by decide, by decide⟩ rfl rfl xw714 xw1 xw711 xw712 xw713 (Nat.le_of_ble_eq_true rfl) ⟨by omega, by omega⟩ (xd dk_W_law 302 rfl) ?_
  refine x_aload_n hc (xd dk_W_law 303 rfl) rfl rfl ?_
  refine x_callV hc (As := []) (n := 0) (s_N_mend (hN _) e2) (c_N (hN _) _) rfl (hR.call (by decide) (by decide)) ⟨by decide, by decide, by decide⟩ rfl rfl xw1409 xw18 xw1406 xw1407 xw1408 (Nat.le_of_ble_eq_true rfl) ⟨by omega, by omega⟩ (xd dk_W_law 304 rfl) ?_
  refine x_icmp_eq hc (tgt := 725) (xd dk_W_law 305 rfl) rfl (fun _ => ?_) (fun hne => absurd rfl hne)
  exact hk _ _ _ _ _ hJ2 (by omega) (by omega)
set_option maxRecDepth 100000 in
set_option maxHeartbeats 400000 in
theorem lc_write {p : Program} {l : Launch} {e : Env} {R : Room} {s : State} {m : MethodId} {args : Array Value} {below : List Frame} {meth : Method} {c : Code} {Q : State → Prop} {G : xG} {b Ln : Nat} {xs : Nat → Int32} {kk bs : Nat → Nat} {o a n : Nat} {f : Nat → Int64} {M : xMem} {i : Int32} {sz cells slots : Nat} (hc : xC p s m args meth c G 7 code "LintDeskLaw" ret) (hw : xLw l G R s b Ln xs kk bs o a n) (hJ : jR M a n) (h1 : vp_in (i + 1) Ln) (h2 : vp_in (i + 2) Ln) (hf : cells + 1 ≤ R.cells ∧ slots + 6 ≤ R.slots) (hk : xKo p l e R s m args below meth c G Q kk bs b o a n i cells slots) : xW p l e R s m args below meth c G 7 Q (xo G (yO G kk bs o f) M) sz cells slots 96 [some (.ref b), some (.ref a), some (.ref n), some (.ref o), some (.int i), none, none] [] := by
  obtain ⟨hT, hl, hX, hbl, hbA, hR, hn, hD, hN, ho⟩ := hw
  refine x_aload_n hc (xd dk_W_law 25 rfl) rfl rfl ?_
  refine x_aload_n hc (xd dk_W_law 26 rfl) rfl rfl ?_
  refine x_iload hc (xd dk_W_law 27 rfl) rfl ?_
  refine x_iconst hc (v := 1) (xd dk_W_law 28 rfl) (by decide) ?_
  refine x_iadd hc (xd dk_W_law 29 rfl) ?_
  refine x_sld hc hX hbl hbA h1 (xd dk_W_law 30 rfl) ?_
  refine x_i2l hc (xd dk_W_law 31 rfl) rfl ?_
  refine x_bipush hc (v := 32) (xd dk_W_law 32 rfl) (by decide) ?_
  refine x_lshl hc (xd dk_W_law 33 rfl) rfl ?_
  refine x_aload_n hc (xd dk_W_law 34 rfl) rfl rfl ?_
  refine x_iload hc (xd dk_W_law 35 rfl) rfl ?_
  refine x_iconst hc (v := 2) (xd dk_W_law 36 rfl) (by decide) ?_
  refine x_iadd hc (xd dk_W_law 37 rfl) ?_
  refine x_sld hc hX hbl hbA h2 (xd dk_W_law 38 rfl) ?_
  refine x_i2l hc (xd dk_W_law 39 rfl) rfl ?_
  refine x_ldc2 hc xw1434 (xd dk_W_law 40 rfl) ?_
  refine x_land hc (xd dk_W_law 41 rfl) ?_
  refine x_lor hc (xd dk_W_law 42 rfl) ?_
  refine x_aload_n hc (xd dk_W_law 43 rfl) rfl rfl ?_
  obtain ⟨res, M1, r, M2, e1, e2, an, hJ2, -, -⟩ := j_write (x := (((xs (i + 1).toNatClampNeg).toInt64 <<< ((32 : Int32).toInt64 &&& 63)) ||| ((xs (i + 2).toNatClampNeg).toInt64 &&& 4294967295))) hn hJ
  have e3 : f_N_thrown n M2 = some (M2.1 n 0, M2) := rfl
  rcases an with ⟨v, rfl, hr, h0⟩ | ⟨er, rfl, h0⟩
  · skip
    refine x_callSW hc hT (As := [.ref a, .long (((xs (i + 1).toNatClampNeg).toInt64 <<< ((32 : Int32).toInt64 &&& 63)) ||| ((xs (i + 2).toNatClampNeg).toInt64 &&& 4294967295)), .ref o]) (n := 3) (w_write_r (hD _) ho e1) (hR.call (by decide) (by decide)) ⟨by decide, by decide, by decide⟩ rfl rfl xcw_write xw0 xw798 xw799 (Nat.le_of_ble_eq_true rfl) hf (xd dk_W_law 44 rfl) ?_
    refine x_istore hc (xd dk_W_law 45 rfl) (by decide) rfl ?_
    refine x_aload_n hc (xd dk_W_law 46 rfl) rfl rfl ?_
    refine x_aload_n hc (xd dk_W_law 47 rfl) rfl rfl ?_
    refine x_iload hc (xd dk_W_law 48 rfl) rfl ?_
    refine x_iconst hc (v := 1) (xd dk_W_law 49 rfl) (by decide) ?_
    refine x_iadd hc (xd dk_W_law 50 rfl) ?_
    refine x_sld hc hX hbl hbA h1 (xd dk_W_law 51 rfl) ?_
    refine x_i2l hc (xd dk_W_law 52 rfl) rfl ?_
    refine x_bipush hc (v := 32) (xd dk_W_law 53 rfl) (by decide) ?_
    refine x_lshl hc (xd dk_W_law 54 rfl) rfl ?_
    refine x_aload_n hc (xd dk_W_law 55 rfl) rfl rfl ?_
    refine x_iload hc (xd dk_W_law 56 rfl) rfl ?_
    refine x_iconst hc (v := 2) (xd dk_W_law 57 rfl) (by decide) ?_
    refine x_iadd hc (xd dk_W_law 58 rfl) ?_
    refine x_sld hc hX hbl hbA h2 (xd dk_W_law 59 rfl) ?_
    refine x_i2l hc (xd dk_W_law 60 rfl) rfl ?_
    refine x_ldc2 hc xw1434 (xd dk_W_law 61 rfl) ?_
    refine x_land hc (xd dk_W_law 62 rfl) ?_
    refine x_lor hc (xd dk_W_law 63 rfl) ?_
    refine x_callV hc (As := [.long (((xs (i + 1).toNatClampNeg).toInt64 <<< ((32 : Int32).toInt64 &&& 63)) ||| ((xs (i + 2).toNatClampNeg).toInt64 &&& 4294967295))]) (n := 1) (s_N_write (hN _) e2) (c_N (hN _) _) rfl (hR.call (by decide) (by decide)) ⟨by decide, by decide, by decide⟩ rfl rfl xw1346 xw18 xw1343 xw1344 xw1345 (Nat.le_of_ble_eq_true rfl) ⟨by omega, by omega⟩ (xd dk_W_law 64 rfl) ?_
    refine x_istore hc (xd dk_W_law 65 rfl) (by decide) rfl ?_
    refine x_aload_n hc (xd dk_W_law 66 rfl) rfl rfl ?_
    refine x_callV hc (As := []) (n := 0) (s_N_thrown (hN _) e3) (c_N (hN _) _) rfl (hR.call (by decide) (by decide)) ⟨by decide, by decide, by decide⟩ rfl rfl xw1342 xw18 xw1339 xw1340 xw1341 (Nat.le_of_ble_eq_true rfl) ⟨by omega, by omega⟩ (xd dk_W_law 67 rfl) ?_
    refine x_iload hc (xd dk_W_law 68 rfl) rfl ?_
    refine x_icmp_eq hc (tgt := 164) (xd dk_W_law 69 rfl) rfl (fun _ => ?_) (fun hne => ?_)
    case refine_2 => exact absurd h0 hne
    refine x_iload hc (xd dk_W_law 72 rfl) rfl ?_
    refine x_if_ne hc (tgt := 181) (xd dk_W_law 73 rfl) rfl (fun hne => ?_) (fun heq => ?_)
    case refine_1 => exact absurd rfl hne
    refine x_aload_n hc (xd dk_W_law 74 rfl) rfl rfl ?_
    refine x_iconst hc (v := 0) (xd dk_W_law 75 rfl) (by decide) ?_
    refine x_lald hc (cO ho) (xin_in (by decide)) (xd dk_W_law 76 rfl) ?_
    refine x_iload hc (xd dk_W_law 77 rfl) rfl ?_
    refine x_i2l hc (xd dk_W_law 78 rfl) rfl ?_
    refine x_lcmp hc (xd dk_W_law 79 rfl) ?_
    refine x_if_eq hc (tgt := 181) (xd dk_W_law 80 rfl) rfl (fun _ => ?_) (fun hne => ?_)
    case refine_2 => exact absurd (cmp0 ((updL0 _ _).trans (congrArg Int32.toInt64 hr.symm))) hne
    refine x_goto hc (tgt := 725) (xd dk_W_law 83 rfl) rfl ?_
    refine x_drop 5 (x_drop 6 ?_)
    exact hk _ _ _ _ _ hJ2 (by omega) (by omega)
  · skip
    obtain ⟨kv, hkv⟩ : ∃ kv, kv = nI ((fun e => if e = 0 then 1 else 2) er) := ⟨_, rfl⟩
    refine x_callSW hc hT (As := [.ref a, .long (((xs (i + 1).toNatClampNeg).toInt64 <<< ((32 : Int32).toInt64 &&& 63)) ||| ((xs (i + 2).toNatClampNeg).toInt64 &&& 4294967295)), .ref o]) (n := 3) (w_write_t (hD _) ho hl e1 hkv) (hR.call (by decide) (by decide)) ⟨by decide, by decide, by decide⟩ rfl rfl xcw_write xw0 xw798 xw799 (Nat.le_of_ble_eq_true rfl) hf (xd dk_W_law 44 rfl) ?_
    refine x_istore hc (xd dk_W_law 45 rfl) (by decide) rfl ?_
    refine x_aload_n hc (xd dk_W_law 46 rfl) rfl rfl ?_
    refine x_aload_n hc (xd dk_W_law 47 rfl) rfl rfl ?_
    refine x_iload hc (xd dk_W_law 48 rfl) rfl ?_
    refine x_iconst hc (v := 1) (xd dk_W_law 49 rfl) (by decide) ?_
    refine x_iadd hc (xd dk_W_law 50 rfl) ?_
    refine x_sld hc hX hbl hbA h1 (xd dk_W_law 51 rfl) ?_
    refine x_i2l hc (xd dk_W_law 52 rfl) rfl ?_
    refine x_bipush hc (v := 32) (xd dk_W_law 53 rfl) (by decide) ?_
    refine x_lshl hc (xd dk_W_law 54 rfl) rfl ?_
    refine x_aload_n hc (xd dk_W_law 55 rfl) rfl rfl ?_
    refine x_iload hc (xd dk_W_law 56 rfl) rfl ?_
    refine x_iconst hc (v := 2) (xd dk_W_law 57 rfl) (by decide) ?_
    refine x_iadd hc (xd dk_W_law 58 rfl) ?_
    refine x_sld hc hX hbl hbA h2 (xd dk_W_law 59 rfl) ?_
    refine x_i2l hc (xd dk_W_law 60 rfl) rfl ?_
    refine x_ldc2 hc xw1434 (xd dk_W_law 61 rfl) ?_
    refine x_land hc (xd dk_W_law 62 rfl) ?_
    refine x_lor hc (xd dk_W_law 63 rfl) ?_
    refine x_callV hc (As := [.long (((xs (i + 1).toNatClampNeg).toInt64 <<< ((32 : Int32).toInt64 &&& 63)) ||| ((xs (i + 2).toNatClampNeg).toInt64 &&& 4294967295))]) (n := 1) (s_N_write (hN _) e2) (c_N (hN _) _) rfl (hR.call (by decide) (by decide)) ⟨by decide, by decide, by decide⟩ rfl rfl xw1346 xw18 xw1343 xw1344 xw1345 (Nat.le_of_ble_eq_true rfl) ⟨by omega, by omega⟩ (xd dk_W_law 64 rfl) ?_
    refine x_istore hc (xd dk_W_law 65 rfl) (by decide) rfl ?_
    refine x_aload_n hc (xd dk_W_law 66 rfl) rfl rfl ?_
    refine x_callV hc (As := []) (n := 0) (s_N_thrown (hN _) e3) (c_N (hN _) _) rfl (hR.call (by decide) (by decide)) ⟨by decide, by decide, by decide⟩ rfl rfl xw1342 xw18 xw1339 xw1340 xw1341 (Nat.le_of_ble_eq_true rfl) ⟨by omega, by omega⟩ (xd dk_W_law 67 rfl) ?_
    refine x_iload hc (xd dk_W_law 68 rfl) rfl ?_
    refine x_icmp_eq hc (tgt := 164) (xd dk_W_law 69 rfl) rfl (fun _ => ?_) (fun hne => ?_)
    case refine_2 => exact absurd (h0.trans hkv.symm) hne
    refine x_iload hc (xd dk_W_law 72 rfl) rfl ?_
    refine x_if_ne hc (tgt := 181) (xd dk_W_law 73 rfl) rfl (fun hne => ?_) (fun heq => ?_)
    case refine_2 =>
      rcases e_D_write _ _ e1 with rfl | rfl <;> exact absurd (hkv.symm.trans heq) (by decide)
    refine x_goto hc (tgt := 725) (xd dk_W_law 83 rfl) rfl ?_
    refine x_drop 5 (x_drop 6 ?_)
    exact hk _ _ _ _ _ hJ2 (by omega) (by omega)
set_option maxRecDepth 100000 in
set_option maxHeartbeats 400000 in
theorem lc_read {p : Program} {l : Launch} {e : Env} {R : Room} {s : State} {m : MethodId} {args : Array Value} {below : List Frame} {meth : Method} {c : Code} {Q : State → Prop} {G : xG} {b Ln : Nat} {xs : Nat → Int32} {kk bs : Nat → Nat} {o a n : Nat} {f : Nat → Int64} {M : xMem} {i : Int32} {sz cells slots : Nat} (hc : xC p s m args meth c G 7 code "LintDeskLaw" ret) (hw : xLw l G R s b Ln xs kk bs o a n) (hJ : jR M a n) (h1 : vp_in (i + 1) Ln) (h2 : vp_in (i + 2) Ln) (hf : cells + 1 ≤ R.cells ∧ slots + 6 ≤ R.slots) (hk : xKo p l e R s m args below meth c G Q kk bs b o a n i cells slots) : xW p l e R s m args below meth c G 7 Q (xo G (yO G kk bs o f) M) sz cells slots 184 [some (.ref b), some (.ref a), some (.ref n), some (.ref o), some (.int i), none, none] [] := by
  obtain ⟨hT, hl, hX, hbl, hbA, hR, hn, hD, hN, ho⟩ := hw
  refine x_aload_n hc (xd dk_W_law 84 rfl) rfl rfl ?_
  refine x_aload_n hc (xd dk_W_law 85 rfl) rfl rfl ?_
  obtain ⟨res, M1, r, M2, e1, e2, an, hJ2, -, -⟩ := j_read  hn hJ
  have e3 : f_N_thrown n M2 = some (M2.1 n 0, M2) := rfl
  rcases an with ⟨v, rfl, hr, h0⟩ | ⟨er, rfl, h0⟩
  · skip
    refine x_callSW hc hT (As := [.ref a, .ref o]) (n := 2) (w_read_r (hD _) ho e1) (hR.call (by decide) (by decide)) ⟨by decide, by decide, by decide⟩ rfl rfl xcw_read xw0 xw900 xw901 (Nat.le_of_ble_eq_true rfl) hf (xd dk_W_law 86 rfl) ?_
    refine x_istore hc (xd dk_W_law 87 rfl) (by decide) rfl ?_
    refine x_aload_n hc (xd dk_W_law 88 rfl) rfl rfl ?_
    refine x_callV hc (As := []) (n := 0) (s_N_read (hN _) e2) (c_N (hN _) _) rfl (hR.call (by decide) (by decide)) ⟨by decide, by decide, by decide⟩ rfl rfl xw1361 xw18 xw1358 xw1359 xw1360 (Nat.le_of_ble_eq_true rfl) ⟨by omega, by omega⟩ (xd dk_W_law 89 rfl) ?_
    refine x_istore hc (xd dk_W_law 90 rfl) (by decide) rfl ?_
    refine x_aload_n hc (xd dk_W_law 91 rfl) rfl rfl ?_
    refine x_callV hc (As := []) (n := 0) (s_N_thrown (hN _) e3) (c_N (hN _) _) rfl (hR.call (by decide) (by decide)) ⟨by decide, by decide, by decide⟩ rfl rfl xw1342 xw18 xw1339 xw1340 xw1341 (Nat.le_of_ble_eq_true rfl) ⟨by omega, by omega⟩ (xd dk_W_law 92 rfl) ?_
    refine x_iload hc (xd dk_W_law 93 rfl) rfl ?_
    refine x_icmp_eq hc (tgt := 208) (xd dk_W_law 94 rfl) rfl (fun _ => ?_) (fun hne => ?_)
    case refine_2 => exact absurd h0 hne
    refine x_iload hc (xd dk_W_law 97 rfl) rfl ?_
    refine x_if_ne hc (tgt := 225) (xd dk_W_law 98 rfl) rfl (fun hne => ?_) (fun heq => ?_)
    case refine_1 => exact absurd rfl hne
    refine x_aload_n hc (xd dk_W_law 99 rfl) rfl rfl ?_
    refine x_iconst hc (v := 0) (xd dk_W_law 100 rfl) (by decide) ?_
    refine x_lald hc (cO ho) (xin_in (by decide)) (xd dk_W_law 101 rfl) ?_
    refine x_iload hc (xd dk_W_law 102 rfl) rfl ?_
    refine x_i2l hc (xd dk_W_law 103 rfl) rfl ?_
    refine x_lcmp hc (xd dk_W_law 104 rfl) ?_
    refine x_if_eq hc (tgt := 225) (xd dk_W_law 105 rfl) rfl (fun _ => ?_) (fun hne => ?_)
    case refine_2 => exact absurd (cmp0 ((updL0 _ _).trans (congrArg Int32.toInt64 hr.symm))) hne
    refine x_goto hc (tgt := 725) (xd dk_W_law 108 rfl) rfl ?_
    refine x_drop 5 (x_drop 6 ?_)
    exact hk _ _ _ _ _ hJ2 (by omega) (by omega)
  · skip
    obtain ⟨kv, hkv⟩ : ∃ kv, kv = nI ((fun e => 1) er) := ⟨_, rfl⟩
    refine x_callSW hc hT (As := [.ref a, .ref o]) (n := 2) (w_read_t (hD _) ho hl e1 hkv) (hR.call (by decide) (by decide)) ⟨by decide, by decide, by decide⟩ rfl rfl xcw_read xw0 xw900 xw901 (Nat.le_of_ble_eq_true rfl) hf (xd dk_W_law 86 rfl) ?_
    refine x_istore hc (xd dk_W_law 87 rfl) (by decide) rfl ?_
    refine x_aload_n hc (xd dk_W_law 88 rfl) rfl rfl ?_
    refine x_callV hc (As := []) (n := 0) (s_N_read (hN _) e2) (c_N (hN _) _) rfl (hR.call (by decide) (by decide)) ⟨by decide, by decide, by decide⟩ rfl rfl xw1361 xw18 xw1358 xw1359 xw1360 (Nat.le_of_ble_eq_true rfl) ⟨by omega, by omega⟩ (xd dk_W_law 89 rfl) ?_
    refine x_istore hc (xd dk_W_law 90 rfl) (by decide) rfl ?_
    refine x_aload_n hc (xd dk_W_law 91 rfl) rfl rfl ?_
    refine x_callV hc (As := []) (n := 0) (s_N_thrown (hN _) e3) (c_N (hN _) _) rfl (hR.call (by decide) (by decide)) ⟨by decide, by decide, by decide⟩ rfl rfl xw1342 xw18 xw1339 xw1340 xw1341 (Nat.le_of_ble_eq_true rfl) ⟨by omega, by omega⟩ (xd dk_W_law 92 rfl) ?_
    refine x_iload hc (xd dk_W_law 93 rfl) rfl ?_
    refine x_icmp_eq hc (tgt := 208) (xd dk_W_law 94 rfl) rfl (fun _ => ?_) (fun hne => ?_)
    case refine_2 => exact absurd (h0.trans hkv.symm) hne
    refine x_iload hc (xd dk_W_law 97 rfl) rfl ?_
    refine x_if_ne hc (tgt := 225) (xd dk_W_law 98 rfl) rfl (fun hne => ?_) (fun heq => ?_)
    case refine_2 =>
      exact absurd (show nI 1 = 0 from hkv.symm.trans heq) (by decide)
    refine x_goto hc (tgt := 725) (xd dk_W_law 108 rfl) rfl ?_
    refine x_drop 5 (x_drop 6 ?_)
    exact hk _ _ _ _ _ hJ2 (by omega) (by omega)
set_option maxRecDepth 100000 in
set_option maxHeartbeats 400000 in
theorem lc_give {p : Program} {l : Launch} {e : Env} {R : Room} {s : State} {m : MethodId} {args : Array Value} {below : List Frame} {meth : Method} {c : Code} {Q : State → Prop} {G : xG} {b Ln : Nat} {xs : Nat → Int32} {kk bs : Nat → Nat} {o a n : Nat} {f : Nat → Int64} {M : xMem} {i : Int32} {sz cells slots : Nat} (hc : xC p s m args meth c G 7 code "LintDeskLaw" ret) (hw : xLw l G R s b Ln xs kk bs o a n) (hJ : jR M a n) (h1 : vp_in (i + 1) Ln) (h2 : vp_in (i + 2) Ln) (hf : cells + 1 ≤ R.cells ∧ slots + 6 ≤ R.slots) (hk : xKo p l e R s m args below meth c G Q kk bs b o a n i cells slots) : xW p l e R s m args below meth c G 7 Q (xo G (yO G kk bs o f) M) sz cells slots 332 [some (.ref b), some (.ref a), some (.ref n), some (.ref o), some (.int i), none, none] [] := by
  obtain ⟨hT, hl, hX, hbl, hbA, hR, hn, hD, hN, ho⟩ := hw
  refine x_aload_n hc (xd dk_W_law 172 rfl) rfl rfl ?_
  refine x_aload_n hc (xd dk_W_law 173 rfl) rfl rfl ?_
  refine x_iload hc (xd dk_W_law 174 rfl) rfl ?_
  refine x_iconst hc (v := 1) (xd dk_W_law 175 rfl) (by decide) ?_
  refine x_iadd hc (xd dk_W_law 176 rfl) ?_
  refine x_sld hc hX hbl hbA h1 (xd dk_W_law 177 rfl) ?_
  refine x_i2l hc (xd dk_W_law 178 rfl) rfl ?_
  refine x_bipush hc (v := 32) (xd dk_W_law 179 rfl) (by decide) ?_
  refine x_lshl hc (xd dk_W_law 180 rfl) rfl ?_
  refine x_aload_n hc (xd dk_W_law 181 rfl) rfl rfl ?_
  refine x_iload hc (xd dk_W_law 182 rfl) rfl ?_
  refine x_iconst hc (v := 2) (xd dk_W_law 183 rfl) (by decide) ?_
  refine x_iadd hc (xd dk_W_law 184 rfl) ?_
  refine x_sld hc hX hbl hbA h2 (xd dk_W_law 185 rfl) ?_
  refine x_i2l hc (xd dk_W_law 186 rfl) rfl ?_
  refine x_ldc2 hc xw1434 (xd dk_W_law 187 rfl) ?_
  refine x_land hc (xd dk_W_law 188 rfl) ?_
  refine x_lor hc (xd dk_W_law 189 rfl) ?_
  refine x_aload_n hc (xd dk_W_law 190 rfl) rfl rfl ?_
  obtain ⟨res, M1, r, M2, e1, e2, an, hJ2, -, -⟩ := j_give (x := (((xs (i + 1).toNatClampNeg).toInt64 <<< ((32 : Int32).toInt64 &&& 63)) ||| ((xs (i + 2).toNatClampNeg).toInt64 &&& 4294967295))) hn hJ
  have e3 : f_N_thrown n M2 = some (M2.1 n 0, M2) := rfl
  rcases an with ⟨v, rfl, hr, h0⟩ | ⟨er, rfl, h0⟩
  · skip
    refine x_callSW hc hT (As := [.ref a, .long (((xs (i + 1).toNatClampNeg).toInt64 <<< ((32 : Int32).toInt64 &&& 63)) ||| ((xs (i + 2).toNatClampNeg).toInt64 &&& 4294967295)), .ref o]) (n := 3) (w_give_r (hD _) ho e1) (hR.call (by decide) (by decide)) ⟨by decide, by decide, by decide⟩ rfl rfl xcw_give xw0 xw934 xw935 (Nat.le_of_ble_eq_true rfl) hf (xd dk_W_law 191 rfl) ?_
    refine x_istore hc (xd dk_W_law 192 rfl) (by decide) rfl ?_
    refine x_aload_n hc (xd dk_W_law 193 rfl) rfl rfl ?_
    refine x_aload_n hc (xd dk_W_law 194 rfl) rfl rfl ?_
    refine x_iload hc (xd dk_W_law 195 rfl) rfl ?_
    refine x_iconst hc (v := 1) (xd dk_W_law 196 rfl) (by decide) ?_
    refine x_iadd hc (xd dk_W_law 197 rfl) ?_
    refine x_sld hc hX hbl hbA h1 (xd dk_W_law 198 rfl) ?_
    refine x_i2l hc (xd dk_W_law 199 rfl) rfl ?_
    refine x_bipush hc (v := 32) (xd dk_W_law 200 rfl) (by decide) ?_
    refine x_lshl hc (xd dk_W_law 201 rfl) rfl ?_
    refine x_aload_n hc (xd dk_W_law 202 rfl) rfl rfl ?_
    refine x_iload hc (xd dk_W_law 203 rfl) rfl ?_
    refine x_iconst hc (v := 2) (xd dk_W_law 204 rfl) (by decide) ?_
    refine x_iadd hc (xd dk_W_law 205 rfl) ?_
    refine x_sld hc hX hbl hbA h2 (xd dk_W_law 206 rfl) ?_
    refine x_i2l hc (xd dk_W_law 207 rfl) rfl ?_
    refine x_ldc2 hc xw1434 (xd dk_W_law 208 rfl) ?_
    refine x_land hc (xd dk_W_law 209 rfl) ?_
    refine x_lor hc (xd dk_W_law 210 rfl) ?_
    refine x_callV hc (As := [.long (((xs (i + 1).toNatClampNeg).toInt64 <<< ((32 : Int32).toInt64 &&& 63)) ||| ((xs (i + 2).toNatClampNeg).toInt64 &&& 4294967295))]) (n := 1) (s_N_give (hN _) e2) (c_N (hN _) _) rfl (hR.call (by decide) (by decide)) ⟨by decide, by decide, by decide⟩ rfl rfl xw1397 xw18 xw1394 xw1395 xw1396 (Nat.le_of_ble_eq_true rfl) ⟨by omega, by omega⟩ (xd dk_W_law 211 rfl) ?_
    refine x_istore hc (xd dk_W_law 212 rfl) (by decide) rfl ?_
    refine x_aload_n hc (xd dk_W_law 213 rfl) rfl rfl ?_
    refine x_callV hc (As := []) (n := 0) (s_N_thrown (hN _) e3) (c_N (hN _) _) rfl (hR.call (by decide) (by decide)) ⟨by decide, by decide, by decide⟩ rfl rfl xw1342 xw18 xw1339 xw1340 xw1341 (Nat.le_of_ble_eq_true rfl) ⟨by omega, by omega⟩ (xd dk_W_law 214 rfl) ?_
    refine x_iload hc (xd dk_W_law 215 rfl) rfl ?_
    refine x_icmp_eq hc (tgt := 400) (xd dk_W_law 216 rfl) rfl (fun _ => ?_) (fun hne => ?_)
    case refine_2 => exact absurd h0 hne
    refine x_iload hc (xd dk_W_law 219 rfl) rfl ?_
    refine x_if_ne hc (tgt := 417) (xd dk_W_law 220 rfl) rfl (fun hne => ?_) (fun heq => ?_)
    case refine_1 => exact absurd rfl hne
    refine x_aload_n hc (xd dk_W_law 221 rfl) rfl rfl ?_
    refine x_iconst hc (v := 0) (xd dk_W_law 222 rfl) (by decide) ?_
    refine x_lald hc (cO ho) (xin_in (by decide)) (xd dk_W_law 223 rfl) ?_
    refine x_iload hc (xd dk_W_law 224 rfl) rfl ?_
    refine x_i2l hc (xd dk_W_law 225 rfl) rfl ?_
    refine x_lcmp hc (xd dk_W_law 226 rfl) ?_
    refine x_if_eq hc (tgt := 417) (xd dk_W_law 227 rfl) rfl (fun _ => ?_) (fun hne => ?_)
    case refine_2 => exact absurd (cmp0 ((updL0 _ _).trans (congrArg Int32.toInt64 hr.symm))) hne
    refine x_goto hc (tgt := 725) (xd dk_W_law 230 rfl) rfl ?_
    refine x_drop 5 (x_drop 6 ?_)
    exact hk _ _ _ _ _ hJ2 (by omega) (by omega)
  · skip
    obtain ⟨kv, hkv⟩ : ∃ kv, kv = nI ((fun e => e + 1) er) := ⟨_, rfl⟩
    refine x_callSW hc hT (As := [.ref a, .long (((xs (i + 1).toNatClampNeg).toInt64 <<< ((32 : Int32).toInt64 &&& 63)) ||| ((xs (i + 2).toNatClampNeg).toInt64 &&& 4294967295)), .ref o]) (n := 3) (w_give_t (hD _) ho hl e1 hkv) (hR.call (by decide) (by decide)) ⟨by decide, by decide, by decide⟩ rfl rfl xcw_give xw0 xw934 xw935 (Nat.le_of_ble_eq_true rfl) hf (xd dk_W_law 191 rfl) ?_
    refine x_istore hc (xd dk_W_law 192 rfl) (by decide) rfl ?_
    refine x_aload_n hc (xd dk_W_law 193 rfl) rfl rfl ?_
    refine x_aload_n hc (xd dk_W_law 194 rfl) rfl rfl ?_
    refine x_iload hc (xd dk_W_law 195 rfl) rfl ?_
    refine x_iconst hc (v := 1) (xd dk_W_law 196 rfl) (by decide) ?_
    refine x_iadd hc (xd dk_W_law 197 rfl) ?_
    refine x_sld hc hX hbl hbA h1 (xd dk_W_law 198 rfl) ?_
    refine x_i2l hc (xd dk_W_law 199 rfl) rfl ?_
    refine x_bipush hc (v := 32) (xd dk_W_law 200 rfl) (by decide) ?_
    refine x_lshl hc (xd dk_W_law 201 rfl) rfl ?_
    refine x_aload_n hc (xd dk_W_law 202 rfl) rfl rfl ?_
    refine x_iload hc (xd dk_W_law 203 rfl) rfl ?_
    refine x_iconst hc (v := 2) (xd dk_W_law 204 rfl) (by decide) ?_
    refine x_iadd hc (xd dk_W_law 205 rfl) ?_
    refine x_sld hc hX hbl hbA h2 (xd dk_W_law 206 rfl) ?_
    refine x_i2l hc (xd dk_W_law 207 rfl) rfl ?_
    refine x_ldc2 hc xw1434 (xd dk_W_law 208 rfl) ?_
    refine x_land hc (xd dk_W_law 209 rfl) ?_
    refine x_lor hc (xd dk_W_law 210 rfl) ?_
    refine x_callV hc (As := [.long (((xs (i + 1).toNatClampNeg).toInt64 <<< ((32 : Int32).toInt64 &&& 63)) ||| ((xs (i + 2).toNatClampNeg).toInt64 &&& 4294967295))]) (n := 1) (s_N_give (hN _) e2) (c_N (hN _) _) rfl (hR.call (by decide) (by decide)) ⟨by decide, by decide, by decide⟩ rfl rfl xw1397 xw18 xw1394 xw1395 xw1396 (Nat.le_of_ble_eq_true rfl) ⟨by omega, by omega⟩ (xd dk_W_law 211 rfl) ?_
    refine x_istore hc (xd dk_W_law 212 rfl) (by decide) rfl ?_
    refine x_aload_n hc (xd dk_W_law 213 rfl) rfl rfl ?_
    refine x_callV hc (As := []) (n := 0) (s_N_thrown (hN _) e3) (c_N (hN _) _) rfl (hR.call (by decide) (by decide)) ⟨by decide, by decide, by decide⟩ rfl rfl xw1342 xw18 xw1339 xw1340 xw1341 (Nat.le_of_ble_eq_true rfl) ⟨by omega, by omega⟩ (xd dk_W_law 214 rfl) ?_
    refine x_iload hc (xd dk_W_law 215 rfl) rfl ?_
    refine x_icmp_eq hc (tgt := 400) (xd dk_W_law 216 rfl) rfl (fun _ => ?_) (fun hne => ?_)
    case refine_2 => exact absurd (h0.trans hkv.symm) hne
    refine x_iload hc (xd dk_W_law 219 rfl) rfl ?_
    refine x_if_ne hc (tgt := 417) (xd dk_W_law 220 rfl) rfl (fun hne => ?_) (fun heq => ?_)
    case refine_2 =>
      rcases e_D_give _ _ e1 with rfl | rfl | rfl <;> exact absurd (hkv.symm.trans heq) (by decide)
    refine x_goto hc (tgt := 725) (xd dk_W_law 230 rfl) rfl ?_
    refine x_drop 5 (x_drop 6 ?_)
    exact hk _ _ _ _ _ hJ2 (by omega) (by omega)
set_option maxRecDepth 100000 in
set_option maxHeartbeats 400000 in
theorem lc_found {p : Program} {l : Launch} {e : Env} {R : Room} {s : State} {m : MethodId} {args : Array Value} {below : List Frame} {meth : Method} {c : Code} {Q : State → Prop} {G : xG} {b Ln : Nat} {xs : Nat → Int32} {kk bs : Nat → Nat} {o a n : Nat} {f : Nat → Int64} {M : xMem} {i : Int32} {sz cells slots : Nat} (hc : xC p s m args meth c G 7 code "LintDeskLaw" ret) (hw : xLw l G R s b Ln xs kk bs o a n) (hJ : jR M a n) (h1 : vp_in (i + 1) Ln) (h2 : vp_in (i + 2) Ln) (hf : cells + 1 ≤ R.cells ∧ slots + 6 ≤ R.slots) (hk : xKo p l e R s m args below meth c G Q kk bs b o a n i cells slots) : xW p l e R s m args below meth c G 7 Q (xo G (yO G kk bs o f) M) sz cells slots 420 [some (.ref b), some (.ref a), some (.ref n), some (.ref o), some (.int i), none, none] [] := by
  obtain ⟨hT, hl, hX, hbl, hbA, hR, hn, hD, hN, ho⟩ := hw
  refine x_aload_n hc (xd dk_W_law 231 rfl) rfl rfl ?_
  refine x_aload_n hc (xd dk_W_law 232 rfl) rfl rfl ?_
  refine x_iload hc (xd dk_W_law 233 rfl) rfl ?_
  refine x_iconst hc (v := 1) (xd dk_W_law 234 rfl) (by decide) ?_
  refine x_iadd hc (xd dk_W_law 235 rfl) ?_
  refine x_sld hc hX hbl hbA h1 (xd dk_W_law 236 rfl) ?_
  refine x_aload_n hc (xd dk_W_law 237 rfl) rfl rfl ?_
  obtain ⟨res, r, M2, e1, e2, an, hJ2, -⟩ := j_found (k := (xs (i + 1).toNatClampNeg)) hn hJ
  have e3 : f_N_thrown n M2 = some (M2.1 n 0, M2) := rfl
  rcases an with ⟨v, rfl, hr, h0⟩ | ⟨er, rfl, h0⟩
  · skip
    refine x_callSW hc hT (As := [.ref a, .int (xs (i + 1).toNatClampNeg), .ref o]) (n := 3) (w_found_r (hD _) ho e1) (hR.call (by decide) (by decide)) ⟨by decide, by decide, by decide⟩ rfl rfl xcw_found xw0 xw974 xw975 (Nat.le_of_ble_eq_true rfl) hf (xd dk_W_law 238 rfl) ?_
    refine x_istore hc (xd dk_W_law 239 rfl) (by decide) rfl ?_
    refine x_aload_n hc (xd dk_W_law 240 rfl) rfl rfl ?_
    refine x_aload_n hc (xd dk_W_law 241 rfl) rfl rfl ?_
    refine x_iload hc (xd dk_W_law 242 rfl) rfl ?_
    refine x_iconst hc (v := 1) (xd dk_W_law 243 rfl) (by decide) ?_
    refine x_iadd hc (xd dk_W_law 244 rfl) ?_
    refine x_sld hc hX hbl hbA h1 (xd dk_W_law 245 rfl) ?_
    refine x_callV hc (As := [.int (xs (i + 1).toNatClampNeg)]) (n := 1) (s_N_found (hN _) e2) (c_N (hN _) _) rfl (hR.call (by decide) (by decide)) ⟨by decide, by decide, by decide⟩ rfl rfl xw1401 xw18 xw1398 xw1399 xw1400 (Nat.le_of_ble_eq_true rfl) ⟨by omega, by omega⟩ (xd dk_W_law 246 rfl) ?_
    refine x_istore hc (xd dk_W_law 247 rfl) (by decide) rfl ?_
    refine x_aload_n hc (xd dk_W_law 248 rfl) rfl rfl ?_
    refine x_callV hc (As := []) (n := 0) (s_N_thrown (hN _) e3) (c_N (hN _) _) rfl (hR.call (by decide) (by decide)) ⟨by decide, by decide, by decide⟩ rfl rfl xw1342 xw18 xw1339 xw1340 xw1341 (Nat.le_of_ble_eq_true rfl) ⟨by omega, by omega⟩ (xd dk_W_law 249 rfl) ?_
    refine x_iload hc (xd dk_W_law 250 rfl) rfl ?_
    refine x_icmp_eq hc (tgt := 456) (xd dk_W_law 251 rfl) rfl (fun _ => ?_) (fun hne => ?_)
    case refine_2 => exact absurd h0 hne
    refine x_iload hc (xd dk_W_law 254 rfl) rfl ?_
    refine x_if_ne hc (tgt := 473) (xd dk_W_law 255 rfl) rfl (fun hne => ?_) (fun heq => ?_)
    case refine_1 => exact absurd rfl hne
    refine x_aload_n hc (xd dk_W_law 256 rfl) rfl rfl ?_
    refine x_iconst hc (v := 0) (xd dk_W_law 257 rfl) (by decide) ?_
    refine x_lald hc (cO ho) (xin_in (by decide)) (xd dk_W_law 258 rfl) ?_
    refine x_iload hc (xd dk_W_law 259 rfl) rfl ?_
    refine x_i2l hc (xd dk_W_law 260 rfl) rfl ?_
    refine x_lcmp hc (xd dk_W_law 261 rfl) ?_
    refine x_if_eq hc (tgt := 473) (xd dk_W_law 262 rfl) rfl (fun _ => ?_) (fun hne => ?_)
    case refine_2 => exact absurd (cmp0 ((updL0 _ _).trans (congrArg Int32.toInt64 hr.symm))) hne
    refine x_goto hc (tgt := 725) (xd dk_W_law 265 rfl) rfl ?_
    refine x_drop 5 (x_drop 6 ?_)
    exact hk _ _ _ _ _ hJ2 (by omega) (by omega)
  · skip
    obtain ⟨kv, hkv⟩ : ∃ kv, kv = nI ((fun e => 1) er) := ⟨_, rfl⟩
    refine x_callSW hc hT (As := [.ref a, .int (xs (i + 1).toNatClampNeg), .ref o]) (n := 3) (w_found_t (hD _) ho hl e1 hkv) (hR.call (by decide) (by decide)) ⟨by decide, by decide, by decide⟩ rfl rfl xcw_found xw0 xw974 xw975 (Nat.le_of_ble_eq_true rfl) hf (xd dk_W_law 238 rfl) ?_
    refine x_istore hc (xd dk_W_law 239 rfl) (by decide) rfl ?_
    refine x_aload_n hc (xd dk_W_law 240 rfl) rfl rfl ?_
    refine x_aload_n hc (xd dk_W_law 241 rfl) rfl rfl ?_
    refine x_iload hc (xd dk_W_law 242 rfl) rfl ?_
    refine x_iconst hc (v := 1) (xd dk_W_law 243 rfl) (by decide) ?_
    refine x_iadd hc (xd dk_W_law 244 rfl) ?_
    refine x_sld hc hX hbl hbA h1 (xd dk_W_law 245 rfl) ?_
    refine x_callV hc (As := [.int (xs (i + 1).toNatClampNeg)]) (n := 1) (s_N_found (hN _) e2) (c_N (hN _) _) rfl (hR.call (by decide) (by decide)) ⟨by decide, by decide, by decide⟩ rfl rfl xw1401 xw18 xw1398 xw1399 xw1400 (Nat.le_of_ble_eq_true rfl) ⟨by omega, by omega⟩ (xd dk_W_law 246 rfl) ?_
    refine x_istore hc (xd dk_W_law 247 rfl) (by decide) rfl ?_
    refine x_aload_n hc (xd dk_W_law 248 rfl) rfl rfl ?_
    refine x_callV hc (As := []) (n := 0) (s_N_thrown (hN _) e3) (c_N (hN _) _) rfl (hR.call (by decide) (by decide)) ⟨by decide, by decide, by decide⟩ rfl rfl xw1342 xw18 xw1339 xw1340 xw1341 (Nat.le_of_ble_eq_true rfl) ⟨by omega, by omega⟩ (xd dk_W_law 249 rfl) ?_
    refine x_iload hc (xd dk_W_law 250 rfl) rfl ?_
    refine x_icmp_eq hc (tgt := 456) (xd dk_W_law 251 rfl) rfl (fun _ => ?_) (fun hne => ?_)
    case refine_2 => exact absurd (h0.trans hkv.symm) hne
    refine x_iload hc (xd dk_W_law 254 rfl) rfl ?_
    refine x_if_ne hc (tgt := 473) (xd dk_W_law 255 rfl) rfl (fun hne => ?_) (fun heq => ?_)
    case refine_2 =>
      exact absurd (show nI 1 = 0 from hkv.symm.trans heq) (by decide)
    refine x_goto hc (tgt := 725) (xd dk_W_law 265 rfl) rfl ?_
    refine x_drop 5 (x_drop 6 ?_)
    exact hk _ _ _ _ _ hJ2 (by omega) (by omega)
set_option maxRecDepth 100000 in
set_option maxHeartbeats 400000 in
theorem lc_place {p : Program} {l : Launch} {e : Env} {R : Room} {s : State} {m : MethodId} {args : Array Value} {below : List Frame} {meth : Method} {c : Code} {Q : State → Prop} {G : xG} {b Ln : Nat} {xs : Nat → Int32} {kk bs : Nat → Nat} {o a n : Nat} {f : Nat → Int64} {M : xMem} {i : Int32} {sz cells slots : Nat} (hc : xC p s m args meth c G 7 code "LintDeskLaw" ret) (hw : xLw l G R s b Ln xs kk bs o a n) (hJ : jR M a n) (h1 : vp_in (i + 1) Ln) (h2 : vp_in (i + 2) Ln) (hf : cells + 1 ≤ R.cells ∧ slots + 6 ≤ R.slots) (hk : xKo p l e R s m args below meth c G Q kk bs b o a n i cells slots) : xW p l e R s m args below meth c G 7 Q (xo G (yO G kk bs o f) M) sz cells slots 476 [some (.ref b), some (.ref a), some (.ref n), some (.ref o), some (.int i), none, none] [] := by
  obtain ⟨hT, hl, hX, hbl, hbA, hR, hn, hD, hN, ho⟩ := hw
  refine x_aload_n hc (xd dk_W_law 266 rfl) rfl rfl ?_
  refine x_aload_n hc (xd dk_W_law 267 rfl) rfl rfl ?_
  refine x_iload hc (xd dk_W_law 268 rfl) rfl ?_
  refine x_iconst hc (v := 1) (xd dk_W_law 269 rfl) (by decide) ?_
  refine x_iadd hc (xd dk_W_law 270 rfl) ?_
  refine x_sld hc hX hbl hbA h1 (xd dk_W_law 271 rfl) ?_
  refine x_aload_n hc (xd dk_W_law 272 rfl) rfl rfl ?_
  obtain ⟨res, r, M2, e1, e2, an, hJ2, -⟩ := j_place (k := (xs (i + 1).toNatClampNeg)) hn hJ
  have e3 : f_N_thrown n M2 = some (M2.1 n 0, M2) := rfl
  rcases an with ⟨v, rfl, hr, h0⟩ | ⟨er, rfl, h0⟩
  · skip
    refine x_callSW hc hT (As := [.ref a, .int (xs (i + 1).toNatClampNeg), .ref o]) (n := 3) (w_place_r (hD _) ho e1) (hR.call (by decide) (by decide)) ⟨by decide, by decide, by decide⟩ rfl rfl xcw_place xw0 xw986 xw987 (Nat.le_of_ble_eq_true rfl) hf (xd dk_W_law 273 rfl) ?_
    refine x_istore hc (xd dk_W_law 274 rfl) (by decide) rfl ?_
    refine x_aload_n hc (xd dk_W_law 275 rfl) rfl rfl ?_
    refine x_aload_n hc (xd dk_W_law 276 rfl) rfl rfl ?_
    refine x_iload hc (xd dk_W_law 277 rfl) rfl ?_
    refine x_iconst hc (v := 1) (xd dk_W_law 278 rfl) (by decide) ?_
    refine x_iadd hc (xd dk_W_law 279 rfl) ?_
    refine x_sld hc hX hbl hbA h1 (xd dk_W_law 280 rfl) ?_
    refine x_callV hc (As := [.int (xs (i + 1).toNatClampNeg)]) (n := 1) (s_N_place (hN _) e2) (c_N (hN _) _) rfl (hR.call (by decide) (by decide)) ⟨by decide, by decide, by decide⟩ rfl rfl xw1405 xw18 xw1402 xw1403 xw1404 (Nat.le_of_ble_eq_true rfl) ⟨by omega, by omega⟩ (xd dk_W_law 281 rfl) ?_
    refine x_istore hc (xd dk_W_law 282 rfl) (by decide) rfl ?_
    refine x_aload_n hc (xd dk_W_law 283 rfl) rfl rfl ?_
    refine x_callV hc (As := []) (n := 0) (s_N_thrown (hN _) e3) (c_N (hN _) _) rfl (hR.call (by decide) (by decide)) ⟨by decide, by decide, by decide⟩ rfl rfl xw1342 xw18 xw1339 xw1340 xw1341 (Nat.le_of_ble_eq_true rfl) ⟨by omega, by omega⟩ (xd dk_W_law 284 rfl) ?_
    refine x_iload hc (xd dk_W_law 285 rfl) rfl ?_
    refine x_icmp_eq hc (tgt := 512) (xd dk_W_law 286 rfl) rfl (fun _ => ?_) (fun hne => ?_)
    case refine_2 => exact absurd h0 hne
    refine x_iload hc (xd dk_W_law 289 rfl) rfl ?_
    refine x_if_ne hc (tgt := 529) (xd dk_W_law 290 rfl) rfl (fun hne => ?_) (fun heq => ?_)
    case refine_1 => exact absurd rfl hne
    refine x_aload_n hc (xd dk_W_law 291 rfl) rfl rfl ?_
    refine x_iconst hc (v := 0) (xd dk_W_law 292 rfl) (by decide) ?_
    refine x_lald hc (cO ho) (xin_in (by decide)) (xd dk_W_law 293 rfl) ?_
    refine x_iload hc (xd dk_W_law 294 rfl) rfl ?_
    refine x_i2l hc (xd dk_W_law 295 rfl) rfl ?_
    refine x_lcmp hc (xd dk_W_law 296 rfl) ?_
    refine x_if_eq hc (tgt := 529) (xd dk_W_law 297 rfl) rfl (fun _ => ?_) (fun hne => ?_)
    case refine_2 => exact absurd (cmp0 ((updL0 _ _).trans (congrArg Int32.toInt64 hr.symm))) hne
    refine x_goto hc (tgt := 725) (xd dk_W_law 300 rfl) rfl ?_
    refine x_drop 5 (x_drop 6 ?_)
    exact hk _ _ _ _ _ hJ2 (by omega) (by omega)
  · skip
    obtain ⟨kv, hkv⟩ : ∃ kv, kv = nI ((fun e => 1) er) := ⟨_, rfl⟩
    refine x_callSW hc hT (As := [.ref a, .int (xs (i + 1).toNatClampNeg), .ref o]) (n := 3) (w_place_t (hD _) ho hl e1 hkv) (hR.call (by decide) (by decide)) ⟨by decide, by decide, by decide⟩ rfl rfl xcw_place xw0 xw986 xw987 (Nat.le_of_ble_eq_true rfl) hf (xd dk_W_law 273 rfl) ?_
    refine x_istore hc (xd dk_W_law 274 rfl) (by decide) rfl ?_
    refine x_aload_n hc (xd dk_W_law 275 rfl) rfl rfl ?_
    refine x_aload_n hc (xd dk_W_law 276 rfl) rfl rfl ?_
    refine x_iload hc (xd dk_W_law 277 rfl) rfl ?_
    refine x_iconst hc (v := 1) (xd dk_W_law 278 rfl) (by decide) ?_
    refine x_iadd hc (xd dk_W_law 279 rfl) ?_
    refine x_sld hc hX hbl hbA h1 (xd dk_W_law 280 rfl) ?_
    refine x_callV hc (As := [.int (xs (i + 1).toNatClampNeg)]) (n := 1) (s_N_place (hN _) e2) (c_N (hN _) _) rfl (hR.call (by decide) (by decide)) ⟨by decide, by decide, by decide⟩ rfl rfl xw1405 xw18 xw1402 xw1403 xw1404 (Nat.le_of_ble_eq_true rfl) ⟨by omega, by omega⟩ (xd dk_W_law 281 rfl) ?_
    refine x_istore hc (xd dk_W_law 282 rfl) (by decide) rfl ?_
    refine x_aload_n hc (xd dk_W_law 283 rfl) rfl rfl ?_
    refine x_callV hc (As := []) (n := 0) (s_N_thrown (hN _) e3) (c_N (hN _) _) rfl (hR.call (by decide) (by decide)) ⟨by decide, by decide, by decide⟩ rfl rfl xw1342 xw18 xw1339 xw1340 xw1341 (Nat.le_of_ble_eq_true rfl) ⟨by omega, by omega⟩ (xd dk_W_law 284 rfl) ?_
    refine x_iload hc (xd dk_W_law 285 rfl) rfl ?_
    refine x_icmp_eq hc (tgt := 512) (xd dk_W_law 286 rfl) rfl (fun _ => ?_) (fun hne => ?_)
    case refine_2 => exact absurd (h0.trans hkv.symm) hne
    refine x_iload hc (xd dk_W_law 289 rfl) rfl ?_
    refine x_if_ne hc (tgt := 529) (xd dk_W_law 290 rfl) rfl (fun hne => ?_) (fun heq => ?_)
    case refine_2 =>
      exact absurd (show nI 1 = 0 from hkv.symm.trans heq) (by decide)
    refine x_goto hc (tgt := 725) (xd dk_W_law 300 rfl) rfl ?_
    refine x_drop 5 (x_drop 6 ?_)
    exact hk _ _ _ _ _ hJ2 (by omega) (by omega)
set_option maxRecDepth 100000 in
set_option maxHeartbeats 400000 in
theorem lc_letter {p : Program} {l : Launch} {e : Env} {R : Room} {s : State} {m : MethodId} {args : Array Value} {below : List Frame} {meth : Method} {c : Code} {Q : State → Prop} {G : xG} {b Ln : Nat} {xs : Nat → Int32} {kk bs : Nat → Nat} {o a n : Nat} {f : Nat → Int64} {M : xMem} {i : Int32} {sz cells slots : Nat} (hc : xC p s m args meth c G 7 code "LintDeskLaw" ret) (hw : xLw l G R s b Ln xs kk bs o a n) (hJ : jR M a n) (h1 : vp_in (i + 1) Ln) (h2 : vp_in (i + 2) Ln) (hf : cells + 1 ≤ R.cells ∧ slots + 6 ≤ R.slots) (hk : xKo p l e R s m args below meth c G Q kk bs b o a n i cells slots) : xW p l e R s m args below meth c G 7 Q (xo G (yO G kk bs o f) M) sz cells slots 545 [some (.ref b), some (.ref a), some (.ref n), some (.ref o), some (.int i), none, none] [] := by
  obtain ⟨hT, hl, hX, hbl, hbA, hR, hn, hD, hN, ho⟩ := hw
  refine x_aload_n hc (xd dk_W_law 308 rfl) rfl rfl ?_
  refine x_aload_n hc (xd dk_W_law 309 rfl) rfl rfl ?_
  refine x_iload hc (xd dk_W_law 310 rfl) rfl ?_
  refine x_iconst hc (v := 1) (xd dk_W_law 311 rfl) (by decide) ?_
  refine x_iadd hc (xd dk_W_law 312 rfl) ?_
  refine x_sld hc hX hbl hbA h1 (xd dk_W_law 313 rfl) ?_
  refine x_aload_n hc (xd dk_W_law 314 rfl) rfl rfl ?_
  obtain ⟨res, r, M2, e1, e2, an, hJ2, -⟩ := j_letter (k := (xs (i + 1).toNatClampNeg)) hn hJ
  have e3 : f_N_thrown n M2 = some (M2.1 n 0, M2) := rfl
  rcases an with ⟨v, rfl, hr, h0⟩ | ⟨er, rfl, h0⟩
  · skip
    refine x_callSW hc hT (As := [.ref a, .int (xs (i + 1).toNatClampNeg), .ref o]) (n := 3) (w_letter_r (hD _) ho e1) (hR.call (by decide) (by decide)) ⟨by decide, by decide, by decide⟩ rfl rfl xcw_letter xw0 xw993 xw994 (Nat.le_of_ble_eq_true rfl) hf (xd dk_W_law 315 rfl) ?_
    refine x_istore hc (xd dk_W_law 316 rfl) (by decide) rfl ?_
    refine x_aload_n hc (xd dk_W_law 317 rfl) rfl rfl ?_
    refine x_aload_n hc (xd dk_W_law 318 rfl) rfl rfl ?_
    refine x_iload hc (xd dk_W_law 319 rfl) rfl ?_
    refine x_iconst hc (v := 1) (xd dk_W_law 320 rfl) (by decide) ?_
    refine x_iadd hc (xd dk_W_law 321 rfl) ?_
    refine x_sld hc hX hbl hbA h1 (xd dk_W_law 322 rfl) ?_
    refine x_callV hc (As := [.int (xs (i + 1).toNatClampNeg)]) (n := 1) (s_N_letter (hN _) e2) (c_N (hN _) _) rfl (hR.call (by decide) (by decide)) ⟨by decide, by decide, by decide⟩ rfl rfl xw1425 xw18 xw1422 xw1423 xw1424 (Nat.le_of_ble_eq_true rfl) ⟨by omega, by omega⟩ (xd dk_W_law 323 rfl) ?_
    refine x_istore hc (xd dk_W_law 324 rfl) (by decide) rfl ?_
    refine x_aload_n hc (xd dk_W_law 325 rfl) rfl rfl ?_
    refine x_callV hc (As := []) (n := 0) (s_N_thrown (hN _) e3) (c_N (hN _) _) rfl (hR.call (by decide) (by decide)) ⟨by decide, by decide, by decide⟩ rfl rfl xw1342 xw18 xw1339 xw1340 xw1341 (Nat.le_of_ble_eq_true rfl) ⟨by omega, by omega⟩ (xd dk_W_law 326 rfl) ?_
    refine x_iload hc (xd dk_W_law 327 rfl) rfl ?_
    refine x_icmp_eq hc (tgt := 581) (xd dk_W_law 328 rfl) rfl (fun _ => ?_) (fun hne => ?_)
    case refine_2 => exact absurd h0 hne
    refine x_iload hc (xd dk_W_law 331 rfl) rfl ?_
    refine x_if_ne hc (tgt := 598) (xd dk_W_law 332 rfl) rfl (fun hne => ?_) (fun heq => ?_)
    case refine_1 => exact absurd rfl hne
    refine x_aload_n hc (xd dk_W_law 333 rfl) rfl rfl ?_
    refine x_iconst hc (v := 0) (xd dk_W_law 334 rfl) (by decide) ?_
    refine x_lald hc (cO ho) (xin_in (by decide)) (xd dk_W_law 335 rfl) ?_
    refine x_iload hc (xd dk_W_law 336 rfl) rfl ?_
    refine x_i2l hc (xd dk_W_law 337 rfl) rfl ?_
    refine x_lcmp hc (xd dk_W_law 338 rfl) ?_
    refine x_if_eq hc (tgt := 598) (xd dk_W_law 339 rfl) rfl (fun _ => ?_) (fun hne => ?_)
    case refine_2 => exact absurd (cmp0 ((updL0 _ _).trans (congrArg Int32.toInt64 hr.symm))) hne
    refine x_goto hc (tgt := 725) (xd dk_W_law 342 rfl) rfl ?_
    refine x_drop 5 (x_drop 6 ?_)
    exact hk _ _ _ _ _ hJ2 (by omega) (by omega)
  · skip
    obtain ⟨kv, hkv⟩ : ∃ kv, kv = nI ((fun e => 1) er) := ⟨_, rfl⟩
    refine x_callSW hc hT (As := [.ref a, .int (xs (i + 1).toNatClampNeg), .ref o]) (n := 3) (w_letter_t (hD _) ho hl e1 hkv) (hR.call (by decide) (by decide)) ⟨by decide, by decide, by decide⟩ rfl rfl xcw_letter xw0 xw993 xw994 (Nat.le_of_ble_eq_true rfl) hf (xd dk_W_law 315 rfl) ?_
    refine x_istore hc (xd dk_W_law 316 rfl) (by decide) rfl ?_
    refine x_aload_n hc (xd dk_W_law 317 rfl) rfl rfl ?_
    refine x_aload_n hc (xd dk_W_law 318 rfl) rfl rfl ?_
    refine x_iload hc (xd dk_W_law 319 rfl) rfl ?_
    refine x_iconst hc (v := 1) (xd dk_W_law 320 rfl) (by decide) ?_
    refine x_iadd hc (xd dk_W_law 321 rfl) ?_
    refine x_sld hc hX hbl hbA h1 (xd dk_W_law 322 rfl) ?_
    refine x_callV hc (As := [.int (xs (i + 1).toNatClampNeg)]) (n := 1) (s_N_letter (hN _) e2) (c_N (hN _) _) rfl (hR.call (by decide) (by decide)) ⟨by decide, by decide, by decide⟩ rfl rfl xw1425 xw18 xw1422 xw1423 xw1424 (Nat.le_of_ble_eq_true rfl) ⟨by omega, by omega⟩ (xd dk_W_law 323 rfl) ?_
    refine x_istore hc (xd dk_W_law 324 rfl) (by decide) rfl ?_
    refine x_aload_n hc (xd dk_W_law 325 rfl) rfl rfl ?_
    refine x_callV hc (As := []) (n := 0) (s_N_thrown (hN _) e3) (c_N (hN _) _) rfl (hR.call (by decide) (by decide)) ⟨by decide, by decide, by decide⟩ rfl rfl xw1342 xw18 xw1339 xw1340 xw1341 (Nat.le_of_ble_eq_true rfl) ⟨by omega, by omega⟩ (xd dk_W_law 326 rfl) ?_
    refine x_iload hc (xd dk_W_law 327 rfl) rfl ?_
    refine x_icmp_eq hc (tgt := 581) (xd dk_W_law 328 rfl) rfl (fun _ => ?_) (fun hne => ?_)
    case refine_2 => exact absurd (h0.trans hkv.symm) hne
    refine x_iload hc (xd dk_W_law 331 rfl) rfl ?_
    refine x_if_ne hc (tgt := 598) (xd dk_W_law 332 rfl) rfl (fun hne => ?_) (fun heq => ?_)
    case refine_2 =>
      exact absurd (show nI 1 = 0 from hkv.symm.trans heq) (by decide)
    refine x_goto hc (tgt := 725) (xd dk_W_law 342 rfl) rfl ?_
    refine x_drop 5 (x_drop 6 ?_)
    exact hk _ _ _ _ _ hJ2 (by omega) (by omega)
set_option maxRecDepth 100000 in
set_option maxHeartbeats 400000 in
theorem lc_declared {p : Program} {l : Launch} {e : Env} {R : Room} {s : State} {m : MethodId} {args : Array Value} {below : List Frame} {meth : Method} {c : Code} {Q : State → Prop} {G : xG} {b Ln : Nat} {xs : Nat → Int32} {kk bs : Nat → Nat} {o a n : Nat} {f : Nat → Int64} {M : xMem} {i : Int32} {sz cells slots : Nat} (hc : xC p s m args meth c G 7 code "LintDeskLaw" ret) (hw : xLw l G R s b Ln xs kk bs o a n) (hJ : jR M a n) (h1 : vp_in (i + 1) Ln) (h2 : vp_in (i + 2) Ln) (hf : cells + 1 ≤ R.cells ∧ slots + 6 ≤ R.slots) (hk : xKo p l e R s m args below meth c G Q kk bs b o a n i cells slots) : xW p l e R s m args below meth c G 7 Q (xo G (yO G kk bs o f) M) sz cells slots 601 [some (.ref b), some (.ref a), some (.ref n), some (.ref o), some (.int i), none, none] [] := by
  obtain ⟨hT, hl, hX, hbl, hbA, hR, hn, hD, hN, ho⟩ := hw
  refine x_aload_n hc (xd dk_W_law 343 rfl) rfl rfl ?_
  refine x_aload_n hc (xd dk_W_law 344 rfl) rfl rfl ?_
  refine x_iload hc (xd dk_W_law 345 rfl) rfl ?_
  refine x_iconst hc (v := 1) (xd dk_W_law 346 rfl) (by decide) ?_
  refine x_iadd hc (xd dk_W_law 347 rfl) ?_
  refine x_sld hc hX hbl hbA h1 (xd dk_W_law 348 rfl) ?_
  refine x_aload_n hc (xd dk_W_law 349 rfl) rfl rfl ?_
  refine x_iload hc (xd dk_W_law 350 rfl) rfl ?_
  refine x_iconst hc (v := 2) (xd dk_W_law 351 rfl) (by decide) ?_
  refine x_iadd hc (xd dk_W_law 352 rfl) ?_
  refine x_sld hc hX hbl hbA h2 (xd dk_W_law 353 rfl) ?_
  refine x_aload_n hc (xd dk_W_law 354 rfl) rfl rfl ?_
  obtain ⟨res, r, M2, e1, e2, an, hJ2, -⟩ := j_declared (k := (xs (i + 1).toNatClampNeg)) (k2 := (xs (i + 2).toNatClampNeg)) hn hJ
  have e3 : f_N_thrown n M2 = some (M2.1 n 0, M2) := rfl
  rcases an with ⟨v, rfl, hr, h0⟩ | ⟨er, rfl, h0⟩
  · skip
    refine x_callSW hc hT (As := [.ref a, .int (xs (i + 1).toNatClampNeg), .int (xs (i + 2).toNatClampNeg), .ref o]) (n := 4) (w_declared_r (hD _) ho e1) (hR.call (by decide) (by decide)) ⟨by decide, by decide, by decide⟩ rfl rfl xcw_declared xw0 xw1002 xw1003 (Nat.le_of_ble_eq_true rfl) hf (xd dk_W_law 355 rfl) ?_
    refine x_istore hc (xd dk_W_law 356 rfl) (by decide) rfl ?_
    refine x_aload_n hc (xd dk_W_law 357 rfl) rfl rfl ?_
    refine x_aload_n hc (xd dk_W_law 358 rfl) rfl rfl ?_
    refine x_iload hc (xd dk_W_law 359 rfl) rfl ?_
    refine x_iconst hc (v := 1) (xd dk_W_law 360 rfl) (by decide) ?_
    refine x_iadd hc (xd dk_W_law 361 rfl) ?_
    refine x_sld hc hX hbl hbA h1 (xd dk_W_law 362 rfl) ?_
    refine x_aload_n hc (xd dk_W_law 363 rfl) rfl rfl ?_
    refine x_iload hc (xd dk_W_law 364 rfl) rfl ?_
    refine x_iconst hc (v := 2) (xd dk_W_law 365 rfl) (by decide) ?_
    refine x_iadd hc (xd dk_W_law 366 rfl) ?_
    refine x_sld hc hX hbl hbA h2 (xd dk_W_law 367 rfl) ?_
    refine x_callV hc (As := [.int (xs (i + 1).toNatClampNeg), .int (xs (i + 2).toNatClampNeg)]) (n := 2) (s_N_declared (hN _) e2) (c_N (hN _) _) rfl (hR.call (by decide) (by decide)) ⟨by decide, by decide, by decide⟩ rfl rfl xw1429 xw18 xw1426 xw1427 xw1428 (Nat.le_of_ble_eq_true rfl) ⟨by omega, by omega⟩ (xd dk_W_law 368 rfl) ?_
    refine x_istore hc (xd dk_W_law 369 rfl) (by decide) rfl ?_
    refine x_aload_n hc (xd dk_W_law 370 rfl) rfl rfl ?_
    refine x_callV hc (As := []) (n := 0) (s_N_thrown (hN _) e3) (c_N (hN _) _) rfl (hR.call (by decide) (by decide)) ⟨by decide, by decide, by decide⟩ rfl rfl xw1342 xw18 xw1339 xw1340 xw1341 (Nat.le_of_ble_eq_true rfl) ⟨by omega, by omega⟩ (xd dk_W_law 371 rfl) ?_
    refine x_iload hc (xd dk_W_law 372 rfl) rfl ?_
    refine x_icmp_eq hc (tgt := 649) (xd dk_W_law 373 rfl) rfl (fun _ => ?_) (fun hne => ?_)
    case refine_2 => exact absurd h0 hne
    refine x_iload hc (xd dk_W_law 376 rfl) rfl ?_
    refine x_if_ne hc (tgt := 666) (xd dk_W_law 377 rfl) rfl (fun hne => ?_) (fun heq => ?_)
    case refine_1 => exact absurd rfl hne
    refine x_aload_n hc (xd dk_W_law 378 rfl) rfl rfl ?_
    refine x_iconst hc (v := 0) (xd dk_W_law 379 rfl) (by decide) ?_
    refine x_lald hc (cO ho) (xin_in (by decide)) (xd dk_W_law 380 rfl) ?_
    refine x_iload hc (xd dk_W_law 381 rfl) rfl ?_
    refine x_i2l hc (xd dk_W_law 382 rfl) rfl ?_
    refine x_lcmp hc (xd dk_W_law 383 rfl) ?_
    refine x_if_eq hc (tgt := 666) (xd dk_W_law 384 rfl) rfl (fun _ => ?_) (fun hne => ?_)
    case refine_2 => exact absurd (cmp0 ((updL0 _ _).trans (congrArg Int32.toInt64 hr.symm))) hne
    refine x_goto hc (tgt := 725) (xd dk_W_law 387 rfl) rfl ?_
    refine x_drop 5 (x_drop 6 ?_)
    exact hk _ _ _ _ _ hJ2 (by omega) (by omega)
  · skip
    obtain ⟨kv, hkv⟩ : ∃ kv, kv = nI ((fun e => if e = 0 then 2 else 1) er) := ⟨_, rfl⟩
    refine x_callSW hc hT (As := [.ref a, .int (xs (i + 1).toNatClampNeg), .int (xs (i + 2).toNatClampNeg), .ref o]) (n := 4) (w_declared_t (hD _) ho hl e1 hkv) (hR.call (by decide) (by decide)) ⟨by decide, by decide, by decide⟩ rfl rfl xcw_declared xw0 xw1002 xw1003 (Nat.le_of_ble_eq_true rfl) hf (xd dk_W_law 355 rfl) ?_
    refine x_istore hc (xd dk_W_law 356 rfl) (by decide) rfl ?_
    refine x_aload_n hc (xd dk_W_law 357 rfl) rfl rfl ?_
    refine x_aload_n hc (xd dk_W_law 358 rfl) rfl rfl ?_
    refine x_iload hc (xd dk_W_law 359 rfl) rfl ?_
    refine x_iconst hc (v := 1) (xd dk_W_law 360 rfl) (by decide) ?_
    refine x_iadd hc (xd dk_W_law 361 rfl) ?_
    refine x_sld hc hX hbl hbA h1 (xd dk_W_law 362 rfl) ?_
    refine x_aload_n hc (xd dk_W_law 363 rfl) rfl rfl ?_
    refine x_iload hc (xd dk_W_law 364 rfl) rfl ?_
    refine x_iconst hc (v := 2) (xd dk_W_law 365 rfl) (by decide) ?_
    refine x_iadd hc (xd dk_W_law 366 rfl) ?_
    refine x_sld hc hX hbl hbA h2 (xd dk_W_law 367 rfl) ?_
    refine x_callV hc (As := [.int (xs (i + 1).toNatClampNeg), .int (xs (i + 2).toNatClampNeg)]) (n := 2) (s_N_declared (hN _) e2) (c_N (hN _) _) rfl (hR.call (by decide) (by decide)) ⟨by decide, by decide, by decide⟩ rfl rfl xw1429 xw18 xw1426 xw1427 xw1428 (Nat.le_of_ble_eq_true rfl) ⟨by omega, by omega⟩ (xd dk_W_law 368 rfl) ?_
    refine x_istore hc (xd dk_W_law 369 rfl) (by decide) rfl ?_
    refine x_aload_n hc (xd dk_W_law 370 rfl) rfl rfl ?_
    refine x_callV hc (As := []) (n := 0) (s_N_thrown (hN _) e3) (c_N (hN _) _) rfl (hR.call (by decide) (by decide)) ⟨by decide, by decide, by decide⟩ rfl rfl xw1342 xw18 xw1339 xw1340 xw1341 (Nat.le_of_ble_eq_true rfl) ⟨by omega, by omega⟩ (xd dk_W_law 371 rfl) ?_
    refine x_iload hc (xd dk_W_law 372 rfl) rfl ?_
    refine x_icmp_eq hc (tgt := 649) (xd dk_W_law 373 rfl) rfl (fun _ => ?_) (fun hne => ?_)
    case refine_2 => exact absurd (h0.trans hkv.symm) hne
    refine x_iload hc (xd dk_W_law 376 rfl) rfl ?_
    refine x_if_ne hc (tgt := 666) (xd dk_W_law 377 rfl) rfl (fun hne => ?_) (fun heq => ?_)
    case refine_2 =>
      rcases e_D_declared _ _ e1 with rfl | rfl <;> exact absurd (hkv.symm.trans heq) (by decide)
    refine x_goto hc (tgt := 725) (xd dk_W_law 387 rfl) rfl ?_
    refine x_drop 5 (x_drop 6 ?_)
    exact hk _ _ _ _ _ hJ2 (by omega) (by omega)
set_option maxRecDepth 100000 in
set_option maxHeartbeats 400000 in
theorem lc_count {p : Program} {l : Launch} {e : Env} {R : Room} {s : State} {m : MethodId} {args : Array Value} {below : List Frame} {meth : Method} {c : Code} {Q : State → Prop} {G : xG} {b Ln : Nat} {xs : Nat → Int32} {kk bs : Nat → Nat} {o a n : Nat} {f : Nat → Int64} {M : xMem} {i : Int32} {sz cells slots : Nat} (hc : xC p s m args meth c G 7 code "LintDeskLaw" ret) (hw : xLw l G R s b Ln xs kk bs o a n) (hJ : jR M a n) (h1 : vp_in (i + 1) Ln) (h2 : vp_in (i + 2) Ln) (hf : cells + 1 ≤ R.cells ∧ slots + 6 ≤ R.slots) (hk : xKo p l e R s m args below meth c G Q kk bs b o a n i cells slots) : xW p l e R s m args below meth c G 7 Q (xo G (yO G kk bs o f) M) sz cells slots 669 [some (.ref b), some (.ref a), some (.ref n), some (.ref o), some (.int i), none, none] [] := by
  obtain ⟨hT, hl, hX, hbl, hbA, hR, hn, hD, hN, ho⟩ := hw
  refine x_aload_n hc (xd dk_W_law 388 rfl) rfl rfl ?_
  refine x_aload_n hc (xd dk_W_law 389 rfl) rfl rfl ?_
  refine x_iload hc (xd dk_W_law 390 rfl) rfl ?_
  refine x_iconst hc (v := 1) (xd dk_W_law 391 rfl) (by decide) ?_
  refine x_iadd hc (xd dk_W_law 392 rfl) ?_
  refine x_sld hc hX hbl hbA h1 (xd dk_W_law 393 rfl) ?_
  refine x_aload_n hc (xd dk_W_law 394 rfl) rfl rfl ?_
  obtain ⟨res, r, M2, e1, e2, an, hJ2, -⟩ := j_count (k := (xs (i + 1).toNatClampNeg)) hn hJ
  have e3 : f_N_thrown n M2 = some (M2.1 n 0, M2) := rfl
  rcases an with ⟨v, rfl, hr, h0⟩ | ⟨er, rfl, h0⟩
  · skip
    refine x_callSW hc hT (As := [.ref a, .int (xs (i + 1).toNatClampNeg), .ref o]) (n := 3) (w_count_r (hD _) ho e1) (hR.call (by decide) (by decide)) ⟨by decide, by decide, by decide⟩ rfl rfl xcw_count xw0 xw1012 xw1013 (Nat.le_of_ble_eq_true rfl) hf (xd dk_W_law 395 rfl) ?_
    refine x_istore hc (xd dk_W_law 396 rfl) (by decide) rfl ?_
    refine x_aload_n hc (xd dk_W_law 397 rfl) rfl rfl ?_
    refine x_aload_n hc (xd dk_W_law 398 rfl) rfl rfl ?_
    refine x_iload hc (xd dk_W_law 399 rfl) rfl ?_
    refine x_iconst hc (v := 1) (xd dk_W_law 400 rfl) (by decide) ?_
    refine x_iadd hc (xd dk_W_law 401 rfl) ?_
    refine x_sld hc hX hbl hbA h1 (xd dk_W_law 402 rfl) ?_
    refine x_callV hc (As := [.int (xs (i + 1).toNatClampNeg)]) (n := 1) (s_N_count (hN _) e2) (c_N (hN _) _) rfl (hR.call (by decide) (by decide)) ⟨by decide, by decide, by decide⟩ rfl rfl xw1433 xw18 xw1430 xw1431 xw1432 (Nat.le_of_ble_eq_true rfl) ⟨by omega, by omega⟩ (xd dk_W_law 403 rfl) ?_
    refine x_istore hc (xd dk_W_law 404 rfl) (by decide) rfl ?_
    refine x_aload_n hc (xd dk_W_law 405 rfl) rfl rfl ?_
    refine x_callV hc (As := []) (n := 0) (s_N_thrown (hN _) e3) (c_N (hN _) _) rfl (hR.call (by decide) (by decide)) ⟨by decide, by decide, by decide⟩ rfl rfl xw1342 xw18 xw1339 xw1340 xw1341 (Nat.le_of_ble_eq_true rfl) ⟨by omega, by omega⟩ (xd dk_W_law 406 rfl) ?_
    refine x_iload hc (xd dk_W_law 407 rfl) rfl ?_
    refine x_icmp_eq hc (tgt := 705) (xd dk_W_law 408 rfl) rfl (fun _ => ?_) (fun hne => ?_)
    case refine_2 => exact absurd h0 hne
    refine x_iload hc (xd dk_W_law 411 rfl) rfl ?_
    refine x_if_ne hc (tgt := 722) (xd dk_W_law 412 rfl) rfl (fun hne => ?_) (fun heq => ?_)
    case refine_1 => exact absurd rfl hne
    refine x_aload_n hc (xd dk_W_law 413 rfl) rfl rfl ?_
    refine x_iconst hc (v := 0) (xd dk_W_law 414 rfl) (by decide) ?_
    refine x_lald hc (cO ho) (xin_in (by decide)) (xd dk_W_law 415 rfl) ?_
    refine x_iload hc (xd dk_W_law 416 rfl) rfl ?_
    refine x_i2l hc (xd dk_W_law 417 rfl) rfl ?_
    refine x_lcmp hc (xd dk_W_law 418 rfl) ?_
    refine x_if_eq hc (tgt := 722) (xd dk_W_law 419 rfl) rfl (fun _ => ?_) (fun hne => ?_)
    case refine_2 => exact absurd (cmp0 ((updL0 _ _).trans (congrArg Int32.toInt64 hr.symm))) hne
    refine x_goto hc (tgt := 725) (xd dk_W_law 422 rfl) rfl ?_
    refine x_drop 5 (x_drop 6 ?_)
    exact hk _ _ _ _ _ hJ2 (by omega) (by omega)
  · skip
    obtain ⟨kv, hkv⟩ : ∃ kv, kv = nI ((fun e => 1) er) := ⟨_, rfl⟩
    refine x_callSW hc hT (As := [.ref a, .int (xs (i + 1).toNatClampNeg), .ref o]) (n := 3) (w_count_t (hD _) ho hl e1 hkv) (hR.call (by decide) (by decide)) ⟨by decide, by decide, by decide⟩ rfl rfl xcw_count xw0 xw1012 xw1013 (Nat.le_of_ble_eq_true rfl) hf (xd dk_W_law 395 rfl) ?_
    refine x_istore hc (xd dk_W_law 396 rfl) (by decide) rfl ?_
    refine x_aload_n hc (xd dk_W_law 397 rfl) rfl rfl ?_
    refine x_aload_n hc (xd dk_W_law 398 rfl) rfl rfl ?_
    refine x_iload hc (xd dk_W_law 399 rfl) rfl ?_
    refine x_iconst hc (v := 1) (xd dk_W_law 400 rfl) (by decide) ?_
    refine x_iadd hc (xd dk_W_law 401 rfl) ?_
    refine x_sld hc hX hbl hbA h1 (xd dk_W_law 402 rfl) ?_
    refine x_callV hc (As := [.int (xs (i + 1).toNatClampNeg)]) (n := 1) (s_N_count (hN _) e2) (c_N (hN _) _) rfl (hR.call (by decide) (by decide)) ⟨by decide, by decide, by decide⟩ rfl rfl xw1433 xw18 xw1430 xw1431 xw1432 (Nat.le_of_ble_eq_true rfl) ⟨by omega, by omega⟩ (xd dk_W_law 403 rfl) ?_
    refine x_istore hc (xd dk_W_law 404 rfl) (by decide) rfl ?_
    refine x_aload_n hc (xd dk_W_law 405 rfl) rfl rfl ?_
    refine x_callV hc (As := []) (n := 0) (s_N_thrown (hN _) e3) (c_N (hN _) _) rfl (hR.call (by decide) (by decide)) ⟨by decide, by decide, by decide⟩ rfl rfl xw1342 xw18 xw1339 xw1340 xw1341 (Nat.le_of_ble_eq_true rfl) ⟨by omega, by omega⟩ (xd dk_W_law 406 rfl) ?_
    refine x_iload hc (xd dk_W_law 407 rfl) rfl ?_
    refine x_icmp_eq hc (tgt := 705) (xd dk_W_law 408 rfl) rfl (fun _ => ?_) (fun hne => ?_)
    case refine_2 => exact absurd (h0.trans hkv.symm) hne
    refine x_iload hc (xd dk_W_law 411 rfl) rfl ?_
    refine x_if_ne hc (tgt := 722) (xd dk_W_law 412 rfl) rfl (fun hne => ?_) (fun heq => ?_)
    case refine_2 =>
      exact absurd (show nI 1 = 0 from hkv.symm.trans heq) (by decide)
    refine x_goto hc (tgt := 725) (xd dk_W_law 422 rfl) rfl ?_
    refine x_drop 5 (x_drop 6 ?_)
    exact hk _ _ _ _ _ hJ2 (by omega) (by omega)
