/-! the reference, second part (printed by gen/gen.py) -/
def f_N_looks_112 (b : Nat) (k12 : Int32 → xMem → Option (Unit × xMem)) (v1 : Int32) (v2 : Int32) (v3 : Int32) (M : xMem) : Option (Unit × xMem) :=
  (k12 (v1 + Int32.ofInt 1) M)
def f_N_looks_62 (b : Nat) (k12 : Int32 → xMem → Option (Unit × xMem)) (v1 : Int32) (v2 : Int32) (v3 : Int32) (w1 : Int32) (M : xMem) : Option (Unit × xMem) :=
  (xbind (f_N_finds b w1 0 v3 M) fun r58 M => f_N_looks_112 b k12 v1 v2 v3 M)
def f_N_looks_95 (b : Nat) (k12 : Int32 → xMem → Option (Unit × xMem)) (v1 : Int32) (v2 : Int32) (v3 : Int32) (w1 : Int32) (M : xMem) : Option (Unit × xMem) :=
  (xbind (f_N_finds b w1 2 v3 M) fun r60 M => xbind (f_N_isEarly b v1 v2 M) fun r62 M => xbind (f_N_finds b r62 3 v3 M) fun r64 M => f_N_looks_112 b k12 v1 v2 v3 M)
def f_N_looks_94 (b : Nat) (k12 : Int32 → xMem → Option (Unit × xMem)) (v1 : Int32) (v2 : Int32) (v3 : Int32) (M : xMem) : Option (Unit × xMem) :=
  (f_N_looks_95 b k12 v1 v2 v3 0 M)
def f_N_looks_193 (b : Nat) (k120 : Int32 → xMem → Option (Unit × xMem)) (v1 : Int32) (w1 : Int32) (M : xMem) : Option (Unit × xMem) :=
  (if xin v1 64 = true then if xin (M.1 (b + 18) v1.toNatClampNeg) 64 = true then xval (M.1 (b + 9) (M.1 (b + 18) v1.toNatClampNeg).toNatClampNeg) fun x68 => xbind (f_N_finds b w1 4 x68 M) fun r69 M => k120 (v1 + Int32.ofInt 1) M else none else none)
def f_N_looks_192 (b : Nat) (k120 : Int32 → xMem → Option (Unit × xMem)) (v1 : Int32) (M : xMem) : Option (Unit × xMem) :=
  (f_N_looks_193 b k120 v1 0 M)
def f_N_looks_359 (b : Nat) (k301 : Int32 → xMem → Option (Unit × xMem)) (v1 : Int32) (w1 : Int32) (M : xMem) : Option (Unit × xMem) :=
  (if xin v1 64 = true then xval (M.1 (b + 31) v1.toNatClampNeg) fun x72 => xbind (f_N_finds b w1 7 x72 M) fun r73 M => k301 (v1 + Int32.ofInt 1) M else none)
def f_N_looks_358 (b : Nat) (k301 : Int32 → xMem → Option (Unit × xMem)) (v1 : Int32) (M : xMem) : Option (Unit × xMem) :=
  (f_N_looks_359 b k301 v1 0 M)
def f_N_looks_407 (b : Nat) : Nat → Int32 → xMem → Option (Unit × xMem)
  | 0, _, _ => none
  | n + 1, v1, M =>
    (if M.1 b 59 ≤ v1 then (some ((), M)) else (if xin v1 64 = true then xval (M.1 (b + 35) v1.toNatClampNeg) fun x77 => xbind (f_N_finds b 1 9 x77 M) fun r78 M => f_N_looks_407 b n (v1 + Int32.ofInt 1) M else none))
def f_N_looks_378 (b : Nat) : Nat → Int32 → xMem → Option (Unit × xMem)
  | 0, _, _ => none
  | n + 1, v1, M =>
    (if M.1 b 58 ≤ v1 then (f_N_looks_407 b xFuel 0 M) else (if xin v1 64 = true then xval (M.1 (b + 33) v1.toNatClampNeg) fun x82 => xbind (f_N_finds b 1 8 x82 M) fun r83 M => f_N_looks_378 b n (v1 + Int32.ofInt 1) M else none))
def f_N_looks_301 (b : Nat) : Nat → Int32 → xMem → Option (Unit × xMem)
  | 0, _, _ => none
  | n + 1, v1, M =>
    (if M.1 b 57 ≤ v1 then (f_N_looks_378 b xFuel 0 M) else (if xin v1 64 = true then if xin (M.1 (b + 32) v1.toNatClampNeg) 64 = true then if M.1 (b + 20) (M.1 (b + 32) v1.toNatClampNeg).toNatClampNeg = 0 then (if xin v1 64 = true then if xin (M.1 (b + 32) v1.toNatClampNeg) 64 = true then if M.1 (b + 21) (M.1 (b + 32) v1.toNatClampNeg).toNatClampNeg = 1 then (if xin v1 64 = true then if xin (M.1 (b + 32) v1.toNatClampNeg) 64 = true then if M.1 (b + 23) (M.1 (b + 32) v1.toNatClampNeg).toNatClampNeg = 1 then (f_N_looks_359 b (f_N_looks_301 b n) v1 1 M) else (f_N_looks_358 b (f_N_looks_301 b n) v1 M) else none else none) else (f_N_looks_358 b (f_N_looks_301 b n) v1 M) else none else none) else (f_N_looks_358 b (f_N_looks_301 b n) v1 M) else none else none))
def f_N_looks_272 (b : Nat) : Nat → Int32 → xMem → Option (Unit × xMem)
  | 0, _, _ => none
  | n + 1, v1, M =>
    (if M.1 b 56 ≤ v1 then (f_N_looks_301 b xFuel 0 M) else (if xin v1 64 = true then xval (M.1 (b + 30) v1.toNatClampNeg) fun x97 => xbind (f_N_finds b 1 6 x97 M) fun r98 M => f_N_looks_272 b n (v1 + Int32.ofInt 1) M else none))
def f_N_looks_244 (b : Nat) : Nat → Int32 → xMem → Option (Unit × xMem)
  | 0, _, _ => none
  | n + 1, v1, M =>
    (if M.1 b 55 ≤ v1 then (f_N_looks_272 b xFuel 0 M) else (if xin v1 64 = true then xval (M.1 (b + 29) v1.toNatClampNeg) fun x102 => xbind (f_N_finds b 1 5 x102 M) fun r103 M => f_N_looks_244 b n (v1 + Int32.ofInt 1) M else none))
def f_N_looks_216 (b : Nat) : Nat → Int32 → xMem → Option (Unit × xMem)
  | 0, _, _ => none
  | n + 1, v1, M =>
    (if M.1 b 54 ≤ v1 then (f_N_looks_244 b xFuel 0 M) else (if xin v1 64 = true then xval (M.1 (b + 28) v1.toNatClampNeg) fun x107 => xbind (f_N_finds b 1 4 x107 M) fun r108 M => f_N_looks_216 b n (v1 + Int32.ofInt 1) M else none))
def f_N_looks_120 (b : Nat) : Nat → Int32 → xMem → Option (Unit × xMem)
  | 0, _, _ => none
  | n + 1, v1, M =>
    (if M.1 b 36 ≤ v1 then (f_N_looks_216 b xFuel 0 M) else (xbind (f_N_isUnused b v1 M) fun r111 M => if xin v1 64 = true then if xin (M.1 (b + 18) v1.toNatClampNeg) 64 = true then xval (M.1 (b + 9) (M.1 (b + 18) v1.toNatClampNeg).toNatClampNeg) fun x115 => xbind (f_N_finds b r111 1 x115 M) fun r116 M => if xin v1 64 = true then if xin (M.1 (b + 19) v1.toNatClampNeg) 64 = true then if M.1 (b + 15) (M.1 (b + 19) v1.toNatClampNeg).toNatClampNeg < 0 then (f_N_looks_192 b (f_N_looks_120 b n) v1 M) else (if xin v1 64 = true then if xin (M.1 (b + 19) v1.toNatClampNeg) 64 = true then if xin v1 64 = true then xval (M.1 (b + 15) (M.1 (b + 19) v1.toNatClampNeg).toNatClampNeg) fun x124 => xval (M.1 (b + 18) v1.toNatClampNeg) fun x125 => xbind (f_N_thingAround b x124 x125 M) fun r126 M => if r126 < 0 then (f_N_looks_192 b (f_N_looks_120 b n) v1 M) else (f_N_looks_193 b (f_N_looks_120 b n) v1 1 M) else none else none else none) else none else none else none else none))
def f_N_looks_12 (b : Nat) : Nat → Int32 → xMem → Option (Unit × xMem)
  | 0, _, _ => none
  | n + 1, v1, M =>
    (if M.1 b 41 ≤ v1 then (f_N_looks_120 b xFuel 0 M) else (if xin v1 64 = true then if xin v1 64 = true then if xin (M.1 (b + 24) v1.toNatClampNeg) 64 = true then if 0 ≤ M.1 (b + 26) v1.toNatClampNeg then (if xin v1 64 = true then if M.1 (b + 27) v1.toNatClampNeg = 0 then (f_N_looks_94 b (f_N_looks_12 b n) v1 (M.1 (b + 26) v1.toNatClampNeg) (M.1 (b + 9) (M.1 (b + 24) v1.toNatClampNeg).toNatClampNeg) M) else (if xin (M.1 (b + 26) v1.toNatClampNeg) 64 = true then if M.1 (b + 20) (M.1 (b + 26) v1.toNatClampNeg).toNatClampNeg = 1 then (f_N_looks_95 b (f_N_looks_12 b n) v1 (M.1 (b + 26) v1.toNatClampNeg) (M.1 (b + 9) (M.1 (b + 24) v1.toNatClampNeg).toNatClampNeg) 1 M) else (f_N_looks_94 b (f_N_looks_12 b n) v1 (M.1 (b + 26) v1.toNatClampNeg) (M.1 (b + 9) (M.1 (b + 24) v1.toNatClampNeg).toNatClampNeg) M) else none) else none) else (if xin v1 64 = true then xval (M.1 (b + 9) (M.1 (b + 24) v1.toNatClampNeg).toNatClampNeg) fun x139 => xval (M.1 (b + 26) v1.toNatClampNeg) fun x140 => xval (M.1 (b + 24) v1.toNatClampNeg) fun x141 => xbind (f_N_isGiven b x141 M) fun r142 M => if r142 = 0 then (f_N_looks_62 b (f_N_looks_12 b n) v1 x140 x139 1 M) else (f_N_looks_62 b (f_N_looks_12 b n) v1 x140 x139 0 M) else none) else none else none else none))
def f_N_looks (b : Nat) (M : xMem) : Option (Unit × xMem) :=
  (xlet (wI M b 63 0) fun M => xlet (wI M b 64 0) fun M => f_N_looks_12 b xFuel 0 M)
set_option maxRecDepth 100000 in
set_option maxHeartbeats 400000 in
theorem s_N_looks_112 {p : Program} {l : Launch} {e : Env} {R : Room} {s : State} {m : MethodId} {args : Array Value} {below : List Frame} {meth : Method} {c : Code} {G : xG} {Y : xY} {sz : Nat} {b : Nat}  (hc : xC p s m args meth c G 4 c_N_looks y_N_looks.cls none) (hR : xRm R 3) (hb : xMd Y b) {k12 : Int32 → xMem → Option (Unit × xMem)} {M' : xMem} {r : Unit} (hk12 : ∀ (v1 : Int32) (M : xMem), k12 v1 M = some (r, M') → xW p l e R s m args below meth c G 4 (MQ below (xQc G none (xo G Y M') sz) args s 0 0 (xA G)) (xo G Y M) sz 0 0 12 [some (.ref b), some (.int v1), none, none] []) (v1 : Int32) (v2 : Int32) (v3 : Int32) (M : xMem) (hf : f_N_looks_112 b k12 v1 v2 v3 M = some (r, M')) : xW p l e R s m args below meth c G 4 (MQ below (xQc G none (xo G Y M') sz) args s 0 0 (xA G)) (xo G Y M) sz 0 0 112 [some (.ref b), some (.int v1), some (.int v2), some (.int v3)] [] := by
  unfold f_N_looks_112 at hf
  refine x_iinc hc (xd dk_N_looks 68 rfl) rfl (by decide) rfl ?_
  refine x_goto hc (tgt := 12) (xd dk_N_looks 69 rfl) rfl ?_
  refine x_drop 2 ?_
  refine x_drop 3 ?_
  exact hk12 (v1 + Int32.ofInt 1) M hf
set_option maxRecDepth 100000 in
set_option maxHeartbeats 400000 in
theorem s_N_looks_62 {p : Program} {l : Launch} {e : Env} {R : Room} {s : State} {m : MethodId} {args : Array Value} {below : List Frame} {meth : Method} {c : Code} {G : xG} {Y : xY} {sz : Nat} {b : Nat}  (hc : xC p s m args meth c G 4 c_N_looks y_N_looks.cls none) (hR : xRm R 3) (hb : xMd Y b) {k12 : Int32 → xMem → Option (Unit × xMem)} {M' : xMem} {r : Unit} (hk12 : ∀ (v1 : Int32) (M : xMem), k12 v1 M = some (r, M') → xW p l e R s m args below meth c G 4 (MQ below (xQc G none (xo G Y M') sz) args s 0 0 (xA G)) (xo G Y M) sz 0 0 12 [some (.ref b), some (.int v1), none, none] []) (v1 : Int32) (v2 : Int32) (v3 : Int32) (w1 : Int32) (M : xMem) (hf : f_N_looks_62 b k12 v1 v2 v3 w1 M = some (r, M')) : xW p l e R s m args below meth c G 4 (MQ below (xQc G none (xo G Y M') sz) args s 0 0 (xA G)) (xo G Y M) sz 0 0 62 [some (.ref b), some (.int v1), some (.int v2), some (.int v3)] [.int w1, .ref b] := by
  unfold f_N_looks_62 at hf
  refine x_iconst hc (v := 0) (xd dk_N_looks 38 rfl) (by decide) ?_
  refine x_iload_n hc (xd dk_N_looks 39 rfl) rfl rfl ?_
  obtain ⟨r58, M, e59, hf⟩ := xbind_some hf
  refine x_callV hc (As := [.int w1, .int 0, .int v3]) (n := 3) (s_N_finds hb e59) (c_N hb _) rfl (hR.call (by decide) (by decide)) ⟨by decide, by decide, by decide⟩ rfl rfl xw1377 xw18 xw1374 xw1376 xs_N_finds (Nat.le_of_ble_eq_true rfl) ⟨Nat.zero_le _, Nat.zero_le _⟩ (xd dk_N_looks 40 rfl) ?_
  refine x_goto hc (tgt := 112) (xd dk_N_looks 41 rfl) rfl ?_
  exact s_N_looks_112 hc hR hb hk12 v1 v2 v3 M hf
set_option maxRecDepth 100000 in
set_option maxHeartbeats 400000 in
theorem s_N_looks_95 {p : Program} {l : Launch} {e : Env} {R : Room} {s : State} {m : MethodId} {args : Array Value} {below : List Frame} {meth : Method} {c : Code} {G : xG} {Y : xY} {sz : Nat} {b : Nat}  (hc : xC p s m args meth c G 4 c_N_looks y_N_looks.cls none) (hR : xRm R 3) (hb : xMd Y b) {k12 : Int32 → xMem → Option (Unit × xMem)} {M' : xMem} {r : Unit} (hk12 : ∀ (v1 : Int32) (M : xMem), k12 v1 M = some (r, M') → xW p l e R s m args below meth c G 4 (MQ below (xQc G none (xo G Y M') sz) args s 0 0 (xA G)) (xo G Y M) sz 0 0 12 [some (.ref b), some (.int v1), none, none] []) (v1 : Int32) (v2 : Int32) (v3 : Int32) (w1 : Int32) (M : xMem) (hf : f_N_looks_95 b k12 v1 v2 v3 w1 M = some (r, M')) : xW p l e R s m args below meth c G 4 (MQ below (xQc G none (xo G Y M') sz) args s 0 0 (xA G)) (xo G Y M) sz 0 0 95 [some (.ref b), some (.int v1), some (.int v2), some (.int v3)] [.int w1, .ref b] := by
  unfold f_N_looks_95 at hf
  refine x_iconst hc (v := 2) (xd dk_N_looks 57 rfl) (by decide) ?_
  refine x_iload_n hc (xd dk_N_looks 58 rfl) rfl rfl ?_
  obtain ⟨r60, M, e61, hf⟩ := xbind_some hf
  refine x_callV hc (As := [.int w1, .int 2, .int v3]) (n := 3) (s_N_finds hb e61) (c_N hb _) rfl (hR.call (by decide) (by decide)) ⟨by decide, by decide, by decide⟩ rfl rfl xw1377 xw18 xw1374 xw1376 xs_N_finds (Nat.le_of_ble_eq_true rfl) ⟨Nat.zero_le _, Nat.zero_le _⟩ (xd dk_N_looks 59 rfl) ?_
  refine x_aload_n hc (xd dk_N_looks 60 rfl) rfl rfl ?_
  refine x_aload_n hc (xd dk_N_looks 61 rfl) rfl rfl ?_
  refine x_iload_n hc (xd dk_N_looks 62 rfl) rfl rfl ?_
  refine x_iload_n hc (xd dk_N_looks 63 rfl) rfl rfl ?_
  obtain ⟨r62, M, e63, hf⟩ := xbind_some hf
  refine x_callV hc (As := [.int v1, .int v2]) (n := 2) (s_N_isEarly hb e63) (c_N hb _) rfl (hR.call (by decide) (by decide)) ⟨by decide, by decide, by decide⟩ rfl rfl xw1381 xw18 xw1378 xw1380 xs_N_isEarly (Nat.le_of_ble_eq_true rfl) ⟨Nat.zero_le _, Nat.zero_le _⟩ (xd dk_N_looks 64 rfl) ?_
  refine x_iconst hc (v := 3) (xd dk_N_looks 65 rfl) (by decide) ?_
  refine x_iload_n hc (xd dk_N_looks 66 rfl) rfl rfl ?_
  obtain ⟨r64, M, e65, hf⟩ := xbind_some hf
  refine x_callV hc (As := [.int r62, .int 3, .int v3]) (n := 3) (s_N_finds hb e65) (c_N hb _) rfl (hR.call (by decide) (by decide)) ⟨by decide, by decide, by decide⟩ rfl rfl xw1377 xw18 xw1374 xw1376 xs_N_finds (Nat.le_of_ble_eq_true rfl) ⟨Nat.zero_le _, Nat.zero_le _⟩ (xd dk_N_looks 67 rfl) ?_
  exact s_N_looks_112 hc hR hb hk12 v1 v2 v3 M hf
set_option maxRecDepth 100000 in
set_option maxHeartbeats 400000 in
theorem s_N_looks_94 {p : Program} {l : Launch} {e : Env} {R : Room} {s : State} {m : MethodId} {args : Array Value} {below : List Frame} {meth : Method} {c : Code} {G : xG} {Y : xY} {sz : Nat} {b : Nat}  (hc : xC p s m args meth c G 4 c_N_looks y_N_looks.cls none) (hR : xRm R 3) (hb : xMd Y b) {k12 : Int32 → xMem → Option (Unit × xMem)} {M' : xMem} {r : Unit} (hk12 : ∀ (v1 : Int32) (M : xMem), k12 v1 M = some (r, M') → xW p l e R s m args below meth c G 4 (MQ below (xQc G none (xo G Y M') sz) args s 0 0 (xA G)) (xo G Y M) sz 0 0 12 [some (.ref b), some (.int v1), none, none] []) (v1 : Int32) (v2 : Int32) (v3 : Int32) (M : xMem) (hf : f_N_looks_94 b k12 v1 v2 v3 M = some (r, M')) : xW p l e R s m args below meth c G 4 (MQ below (xQc G none (xo G Y M') sz) args s 0 0 (xA G)) (xo G Y M) sz 0 0 94 [some (.ref b), some (.int v1), some (.int v2), some (.int v3)] [.ref b] := by
  unfold f_N_looks_94 at hf
  refine x_iconst hc (v := 0) (xd dk_N_looks 56 rfl) (by decide) ?_
  exact s_N_looks_95 hc hR hb hk12 v1 v2 v3 0 M hf
set_option maxRecDepth 100000 in
set_option maxHeartbeats 400000 in
theorem s_N_looks_193 {p : Program} {l : Launch} {e : Env} {R : Room} {s : State} {m : MethodId} {args : Array Value} {below : List Frame} {meth : Method} {c : Code} {G : xG} {Y : xY} {sz : Nat} {b : Nat}  (hc : xC p s m args meth c G 4 c_N_looks y_N_looks.cls none) (hR : xRm R 3) (hb : xMd Y b) {k120 : Int32 → xMem → Option (Unit × xMem)} {M' : xMem} {r : Unit} (hk120 : ∀ (v1 : Int32) (M : xMem), k120 v1 M = some (r, M') → xW p l e R s m args below meth c G 4 (MQ below (xQc G none (xo G Y M') sz) args s 0 0 (xA G)) (xo G Y M) sz 0 0 120 [some (.ref b), some (.int v1), none, none] []) (v1 : Int32) (w1 : Int32) (M : xMem) (hf : f_N_looks_193 b k120 v1 w1 M = some (r, M')) : xW p l e R s m args below meth c G 4 (MQ below (xQc G none (xo G Y M') sz) args s 0 0 (xA G)) (xo G Y M) sz 0 0 193 [some (.ref b), some (.int v1), none, none] [.int w1, .ref b] := by
  unfold f_N_looks_193 at hf
  refine x_iconst hc (v := 4) (xd dk_N_looks 115 rfl) (by decide) ?_
  refine x_aload_n hc (xd dk_N_looks 116 rfl) rfl rfl ?_
  refine x_get hc (ci := 10) (k := 18) fi_N (c_N hb _) rfl (by decide) rfl xw1161 rfl (xd dk_N_looks 117 rfl) ?_
  refine x_aload_n hc (xd dk_N_looks 118 rfl) rfl rfl ?_
  refine x_get hc (ci := 10) (k := 30) fi_N (c_N hb _) rfl (by decide) rfl xw1173 rfl (xd dk_N_looks 119 rfl) ?_
  refine x_iload_n hc (xd dk_N_looks 120 rfl) rfl rfl ?_
  by_cases q66 : xin v1 64 = true
  case neg => rw [if_neg q66] at hf; cases hf
  rw [if_pos q66] at hf
  refine x_iald hc (cA (xMd.ar hb 18 (by decide) rfl)) (xin_in q66) (xd dk_N_looks 121 rfl) ?_
  by_cases q67 : xin (M.1 (b + 18) v1.toNatClampNeg) 64 = true
  case neg => rw [if_neg q67] at hf; cases hf
  rw [if_pos q67] at hf
  refine x_iald hc (cA (xMd.ar hb 9 (by decide) rfl)) (xin_in q67) (xd dk_N_looks 122 rfl) ?_
  obtain ⟨x68, hx68, hf⟩ := xval_ex hf
  rw [← hx68]
  obtain ⟨r69, M, e70, hf⟩ := xbind_some hf
  refine x_callV hc (As := [.int w1, .int 4, .int x68]) (n := 3) (s_N_finds hb e70) (c_N hb _) rfl (hR.call (by decide) (by decide)) ⟨by decide, by decide, by decide⟩ rfl rfl xw1377 xw18 xw1374 xw1376 xs_N_finds (Nat.le_of_ble_eq_true rfl) ⟨Nat.zero_le _, Nat.zero_le _⟩ (xd dk_N_looks 123 rfl) ?_
  refine x_iinc hc (xd dk_N_looks 124 rfl) rfl (by decide) rfl ?_
  refine x_goto hc (tgt := 120) (xd dk_N_looks 125 rfl) rfl ?_
  exact hk120 (v1 + Int32.ofInt 1) M hf
set_option maxRecDepth 100000 in
set_option maxHeartbeats 400000 in
theorem s_N_looks_192 {p : Program} {l : Launch} {e : Env} {R : Room} {s : State} {m : MethodId} {args : Array Value} {below : List Frame} {meth : Method} {c : Code} {G : xG} {Y : xY} {sz : Nat} {b : Nat}  (hc : xC p s m args meth c G 4 c_N_looks y_N_looks.cls none) (hR : xRm R 3) (hb : xMd Y b) {k120 : Int32 → xMem → Option (Unit × xMem)} {M' : xMem} {r : Unit} (hk120 : ∀ (v1 : Int32) (M : xMem), k120 v1 M = some (r, M') → xW p l e R s m args below meth c G 4 (MQ below (xQc G none (xo G Y M') sz) args s 0 0 (xA G)) (xo G Y M) sz 0 0 120 [some (.ref b), some (.int v1), none, none] []) (v1 : Int32) (M : xMem) (hf : f_N_looks_192 b k120 v1 M = some (r, M')) : xW p l e R s m args below meth c G 4 (MQ below (xQc G none (xo G Y M') sz) args s 0 0 (xA G)) (xo G Y M) sz 0 0 192 [some (.ref b), some (.int v1), none, none] [.ref b] := by
  unfold f_N_looks_192 at hf
  refine x_iconst hc (v := 0) (xd dk_N_looks 114 rfl) (by decide) ?_
  exact s_N_looks_193 hc hR hb hk120 v1 0 M hf
set_option maxRecDepth 100000 in
set_option maxHeartbeats 400000 in
theorem s_N_looks_359 {p : Program} {l : Launch} {e : Env} {R : Room} {s : State} {m : MethodId} {args : Array Value} {below : List Frame} {meth : Method} {c : Code} {G : xG} {Y : xY} {sz : Nat} {b : Nat}  (hc : xC p s m args meth c G 4 c_N_looks y_N_looks.cls none) (hR : xRm R 3) (hb : xMd Y b) {k301 : Int32 → xMem → Option (Unit × xMem)} {M' : xMem} {r : Unit} (hk301 : ∀ (v1 : Int32) (M : xMem), k301 v1 M = some (r, M') → xW p l e R s m args below meth c G 4 (MQ below (xQc G none (xo G Y M') sz) args s 0 0 (xA G)) (xo G Y M) sz 0 0 301 [some (.ref b), some (.int v1), none, none] []) (v1 : Int32) (w1 : Int32) (M : xMem) (hf : f_N_looks_359 b k301 v1 w1 M = some (r, M')) : xW p l e R s m args below meth c G 4 (MQ below (xQc G none (xo G Y M') sz) args s 0 0 (xA G)) (xo G Y M) sz 0 0 359 [some (.ref b), some (.int v1), none, none] [.int w1, .ref b] := by
  unfold f_N_looks_359 at hf
  refine x_bipush hc (v := 7) (xd dk_N_looks 210 rfl) (by decide) ?_
  refine x_aload_n hc (xd dk_N_looks 211 rfl) rfl rfl ?_
  refine x_get hc (ci := 10) (k := 45) fi_N (c_N hb _) rfl (by decide) rfl xw1188 rfl (xd dk_N_looks 212 rfl) ?_
  refine x_iload_n hc (xd dk_N_looks 213 rfl) rfl rfl ?_
  by_cases q71 : xin v1 64 = true
  case neg => rw [if_neg q71] at hf; cases hf
  rw [if_pos q71] at hf
  refine x_iald hc (cA (xMd.ar hb 31 (by decide) rfl)) (xin_in q71) (xd dk_N_looks 214 rfl) ?_
  obtain ⟨x72, hx72, hf⟩ := xval_ex hf
  rw [← hx72]
  obtain ⟨r73, M, e74, hf⟩ := xbind_some hf
  refine x_callV hc (As := [.int w1, .int 7, .int x72]) (n := 3) (s_N_finds hb e74) (c_N hb _) rfl (hR.call (by decide) (by decide)) ⟨by decide, by decide, by decide⟩ rfl rfl xw1377 xw18 xw1374 xw1376 xs_N_finds (Nat.le_of_ble_eq_true rfl) ⟨Nat.zero_le _, Nat.zero_le _⟩ (xd dk_N_looks 215 rfl) ?_
  refine x_iinc hc (xd dk_N_looks 216 rfl) rfl (by decide) rfl ?_
  refine x_goto hc (tgt := 301) (xd dk_N_looks 217 rfl) rfl ?_
  exact hk301 (v1 + Int32.ofInt 1) M hf
set_option maxRecDepth 100000 in
set_option maxHeartbeats 400000 in
theorem s_N_looks_358 {p : Program} {l : Launch} {e : Env} {R : Room} {s : State} {m : MethodId} {args : Array Value} {below : List Frame} {meth : Method} {c : Code} {G : xG} {Y : xY} {sz : Nat} {b : Nat}  (hc : xC p s m args meth c G 4 c_N_looks y_N_looks.cls none) (hR : xRm R 3) (hb : xMd Y b) {k301 : Int32 → xMem → Option (Unit × xMem)} {M' : xMem} {r : Unit} (hk301 : ∀ (v1 : Int32) (M : xMem), k301 v1 M = some (r, M') → xW p l e R s m args below meth c G 4 (MQ below (xQc G none (xo G Y M') sz) args s 0 0 (xA G)) (xo G Y M) sz 0 0 301 [some (.ref b), some (.int v1), none, none] []) (v1 : Int32) (M : xMem) (hf : f_N_looks_358 b k301 v1 M = some (r, M')) : xW p l e R s m args below meth c G 4 (MQ below (xQc G none (xo G Y M') sz) args s 0 0 (xA G)) (xo G Y M) sz 0 0 358 [some (.ref b), some (.int v1), none, none] [.ref b] := by
  unfold f_N_looks_358 at hf
  refine x_iconst hc (v := 0) (xd dk_N_looks 209 rfl) (by decide) ?_
  exact s_N_looks_359 hc hR hb hk301 v1 0 M hf
set_option maxRecDepth 100000 in
set_option maxHeartbeats 400000 in
theorem s_N_looks_407 {p : Program} {l : Launch} {e : Env} {R : Room} {s : State} {m : MethodId} {args : Array Value} {below : List Frame} {meth : Method} {c : Code} {G : xG} {Y : xY} {sz : Nat} {b : Nat}  (hc : xC p s m args meth c G 4 c_N_looks y_N_looks.cls none) (hR : xRm R 3) (hb : xMd Y b) {M' : xMem} {r : Unit} : ∀ (n : Nat) (v1 : Int32) (M : xMem), f_N_looks_407 b n v1 M = some (r, M') → xW p l e R s m args below meth c G 4 (MQ below (xQc G none (xo G Y M') sz) args s 0 0 (xA G)) (xo G Y M) sz 0 0 407 [some (.ref b), some (.int v1), none, none] [] := by
  intro n
  induction n with
  | zero => intro v1 M hf; simp only [f_N_looks_407] at hf; cases hf
  | succ n ih =>
    intro v1 M hf
    simp only [f_N_looks_407] at hf
    refine x_iload_n hc (xd dk_N_looks 236 rfl) rfl rfl ?_
    refine x_aload_n hc (xd dk_N_looks 237 rfl) rfl rfl ?_
    refine x_get hc (ci := 10) (k := 59) fi_N (c_N hb _) rfl (by decide) rfl xw1202 rfl (xd dk_N_looks 238 rfl) ?_
    refine x_icmp_ge hc (tgt := 434) (xd dk_N_looks 239 rfl) rfl (fun q75 => ?_) (fun q75 => ?_)
    · rw [if_pos q75] at hf
      cases hf
      exact x_return hc (xd dk_N_looks 250 rfl)
    · rw [if_neg q75] at hf
      refine x_aload_n hc (xd dk_N_looks 240 rfl) rfl rfl ?_
      refine x_iconst hc (v := 1) (xd dk_N_looks 241 rfl) (by decide) ?_
      refine x_bipush hc (v := 9) (xd dk_N_looks 242 rfl) (by decide) ?_
      refine x_aload_n hc (xd dk_N_looks 243 rfl) rfl rfl ?_
      refine x_get hc (ci := 10) (k := 49) fi_N (c_N hb _) rfl (by decide) rfl xw1192 rfl (xd dk_N_looks 244 rfl) ?_
      refine x_iload_n hc (xd dk_N_looks 245 rfl) rfl rfl ?_
      by_cases q76 : xin v1 64 = true
      case neg => rw [if_neg q76] at hf; cases hf
      rw [if_pos q76] at hf
      refine x_iald hc (cA (xMd.ar hb 35 (by decide) rfl)) (xin_in q76) (xd dk_N_looks 246 rfl) ?_
      obtain ⟨x77, hx77, hf⟩ := xval_ex hf
      rw [← hx77]
      obtain ⟨r78, M, e79, hf⟩ := xbind_some hf
      refine x_callV hc (As := [.int 1, .int 9, .int x77]) (n := 3) (s_N_finds hb e79) (c_N hb _) rfl (hR.call (by decide) (by decide)) ⟨by decide, by decide, by decide⟩ rfl rfl xw1377 xw18 xw1374 xw1376 xs_N_finds (Nat.le_of_ble_eq_true rfl) ⟨Nat.zero_le _, Nat.zero_le _⟩ (xd dk_N_looks 247 rfl) ?_
      refine x_iinc hc (xd dk_N_looks 248 rfl) rfl (by decide) rfl ?_
      refine x_goto hc (tgt := 407) (xd dk_N_looks 249 rfl) rfl ?_
      exact ih (v1 + Int32.ofInt 1) M hf
set_option maxRecDepth 100000 in
set_option maxHeartbeats 400000 in
theorem s_N_looks_378 {p : Program} {l : Launch} {e : Env} {R : Room} {s : State} {m : MethodId} {args : Array Value} {below : List Frame} {meth : Method} {c : Code} {G : xG} {Y : xY} {sz : Nat} {b : Nat}  (hc : xC p s m args meth c G 4 c_N_looks y_N_looks.cls none) (hR : xRm R 3) (hb : xMd Y b) {M' : xMem} {r : Unit} : ∀ (n : Nat) (v1 : Int32) (M : xMem), f_N_looks_378 b n v1 M = some (r, M') → xW p l e R s m args below meth c G 4 (MQ below (xQc G none (xo G Y M') sz) args s 0 0 (xA G)) (xo G Y M) sz 0 0 378 [some (.ref b), some (.int v1), none, none] [] := by
  intro n
  induction n with
  | zero => intro v1 M hf; simp only [f_N_looks_378] at hf; cases hf
  | succ n ih =>
    intro v1 M hf
    simp only [f_N_looks_378] at hf
    refine x_iload_n hc (xd dk_N_looks 220 rfl) rfl rfl ?_
    refine x_aload_n hc (xd dk_N_looks 221 rfl) rfl rfl ?_
    refine x_get hc (ci := 10) (k := 58) fi_N (c_N hb _) rfl (by decide) rfl xw1201 rfl (xd dk_N_looks 222 rfl) ?_
    refine x_icmp_ge hc (tgt := 405) (xd dk_N_looks 223 rfl) rfl (fun q80 => ?_) (fun q80 => ?_)
    · rw [if_pos q80] at hf
      refine x_iconst hc (v := 0) (xd dk_N_looks 234 rfl) (by decide) ?_
      refine x_istore_n hc (xd dk_N_looks 235 rfl) (by decide) rfl ?_
      exact s_N_looks_407 hc hR hb xFuel 0 M hf
    · rw [if_neg q80] at hf
      refine x_aload_n hc (xd dk_N_looks 224 rfl) rfl rfl ?_
      refine x_iconst hc (v := 1) (xd dk_N_looks 225 rfl) (by decide) ?_
      refine x_bipush hc (v := 8) (xd dk_N_looks 226 rfl) (by decide) ?_
      refine x_aload_n hc (xd dk_N_looks 227 rfl) rfl rfl ?_
      refine x_get hc (ci := 10) (k := 47) fi_N (c_N hb _) rfl (by decide) rfl xw1190 rfl (xd dk_N_looks 228 rfl) ?_
      refine x_iload_n hc (xd dk_N_looks 229 rfl) rfl rfl ?_
      by_cases q81 : xin v1 64 = true
      case neg => rw [if_neg q81] at hf; cases hf
      rw [if_pos q81] at hf
      refine x_iald hc (cA (xMd.ar hb 33 (by decide) rfl)) (xin_in q81) (xd dk_N_looks 230 rfl) ?_
      obtain ⟨x82, hx82, hf⟩ := xval_ex hf
      rw [← hx82]
      obtain ⟨r83, M, e84, hf⟩ := xbind_some hf
      refine x_callV hc (As := [.int 1, .int 8, .int x82]) (n := 3) (s_N_finds hb e84) (c_N hb _) rfl (hR.call (by decide) (by decide)) ⟨by decide, by decide, by decide⟩ rfl rfl xw1377 xw18 xw1374 xw1376 xs_N_finds (Nat.le_of_ble_eq_true rfl) ⟨Nat.zero_le _, Nat.zero_le _⟩ (xd dk_N_looks 231 rfl) ?_
      refine x_iinc hc (xd dk_N_looks 232 rfl) rfl (by decide) rfl ?_
      refine x_goto hc (tgt := 378) (xd dk_N_looks 233 rfl) rfl ?_
      exact ih (v1 + Int32.ofInt 1) M hf
set_option maxRecDepth 100000 in
set_option maxHeartbeats 400000 in
theorem s_N_looks_301 {p : Program} {l : Launch} {e : Env} {R : Room} {s : State} {m : MethodId} {args : Array Value} {below : List Frame} {meth : Method} {c : Code} {G : xG} {Y : xY} {sz : Nat} {b : Nat}  (hc : xC p s m args meth c G 4 c_N_looks y_N_looks.cls none) (hR : xRm R 3) (hb : xMd Y b) {M' : xMem} {r : Unit} : ∀ (n : Nat) (v1 : Int32) (M : xMem), f_N_looks_301 b n v1 M = some (r, M') → xW p l e R s m args below meth c G 4 (MQ below (xQc G none (xo G Y M') sz) args s 0 0 (xA G)) (xo G Y M) sz 0 0 301 [some (.ref b), some (.int v1), none, none] [] := by
  intro n
  induction n with
  | zero => intro v1 M hf; simp only [f_N_looks_301] at hf; cases hf
  | succ n ih =>
    intro v1 M hf
    simp only [f_N_looks_301] at hf
    refine x_iload_n hc (xd dk_N_looks 176 rfl) rfl rfl ?_
    refine x_aload_n hc (xd dk_N_looks 177 rfl) rfl rfl ?_
    refine x_get hc (ci := 10) (k := 57) fi_N (c_N hb _) rfl (by decide) rfl xw1200 rfl (xd dk_N_looks 178 rfl) ?_
    refine x_icmp_ge hc (tgt := 376) (xd dk_N_looks 179 rfl) rfl (fun q85 => ?_) (fun q85 => ?_)
    · rw [if_pos q85] at hf
      refine x_iconst hc (v := 0) (xd dk_N_looks 218 rfl) (by decide) ?_
      refine x_istore_n hc (xd dk_N_looks 219 rfl) (by decide) rfl ?_
      exact s_N_looks_378 hc hR hb xFuel 0 M hf
    · rw [if_neg q85] at hf
      refine x_aload_n hc (xd dk_N_looks 180 rfl) rfl rfl ?_
      refine x_aload_n hc (xd dk_N_looks 181 rfl) rfl rfl ?_
      refine x_get hc (ci := 10) (k := 32) fi_N (c_N hb _) rfl (by decide) rfl xw1175 rfl (xd dk_N_looks 182 rfl) ?_
      refine x_aload_n hc (xd dk_N_looks 183 rfl) rfl rfl ?_
      refine x_get hc (ci := 10) (k := 46) fi_N (c_N hb _) rfl (by decide) rfl xw1189 rfl (xd dk_N_looks 184 rfl) ?_
      refine x_iload_n hc (xd dk_N_looks 185 rfl) rfl rfl ?_
      by_cases q86 : xin v1 64 = true
      case neg => rw [if_neg q86] at hf; cases hf
      rw [if_pos q86] at hf
      refine x_iald hc (cA (xMd.ar hb 32 (by decide) rfl)) (xin_in q86) (xd dk_N_looks 186 rfl) ?_
      by_cases q87 : xin (M.1 (b + 32) v1.toNatClampNeg) 64 = true
      case neg => rw [if_neg q87] at hf; cases hf
      rw [if_pos q87] at hf
      refine x_iald hc (cA (xMd.ar hb 20 (by decide) rfl)) (xin_in q87) (xd dk_N_looks 187 rfl) ?_
      refine x_if_ne hc (tgt := 358) (xd dk_N_looks 188 rfl) rfl (fun q88 => ?_) (fun q88 => ?_)
      · rw [if_neg q88] at hf
        exact s_N_looks_358 hc hR hb ih v1 M hf
      · rw [if_pos q88] at hf
        refine x_aload_n hc (xd dk_N_looks 189 rfl) rfl rfl ?_
        refine x_get hc (ci := 10) (k := 33) fi_N (c_N hb _) rfl (by decide) rfl xw1176 rfl (xd dk_N_looks 190 rfl) ?_
        refine x_aload_n hc (xd dk_N_looks 191 rfl) rfl rfl ?_
        refine x_get hc (ci := 10) (k := 46) fi_N (c_N hb _) rfl (by decide) rfl xw1189 rfl (xd dk_N_looks 192 rfl) ?_
        refine x_iload_n hc (xd dk_N_looks 193 rfl) rfl rfl ?_
        by_cases q89 : xin v1 64 = true
        case neg => rw [if_neg q89] at hf; cases hf
        rw [if_pos q89] at hf
        refine x_iald hc (cA (xMd.ar hb 32 (by decide) rfl)) (xin_in q89) (xd dk_N_looks 194 rfl) ?_
        by_cases q90 : xin (M.1 (b + 32) v1.toNatClampNeg) 64 = true
        case neg => rw [if_neg q90] at hf; cases hf
        rw [if_pos q90] at hf
        refine x_iald hc (cA (xMd.ar hb 21 (by decide) rfl)) (xin_in q90) (xd dk_N_looks 195 rfl) ?_
        refine x_iconst hc (v := 1) (xd dk_N_looks 196 rfl) (by decide) ?_
        refine x_icmp_ne hc (tgt := 358) (xd dk_N_looks 197 rfl) rfl (fun q91 => ?_) (fun q91 => ?_)
        · rw [if_neg q91] at hf
          exact s_N_looks_358 hc hR hb ih v1 M hf
        · rw [if_pos q91] at hf
          refine x_aload_n hc (xd dk_N_looks 198 rfl) rfl rfl ?_
          refine x_get hc (ci := 10) (k := 35) fi_N (c_N hb _) rfl (by decide) rfl xw1178 rfl (xd dk_N_looks 199 rfl) ?_
          refine x_aload_n hc (xd dk_N_looks 200 rfl) rfl rfl ?_
          refine x_get hc (ci := 10) (k := 46) fi_N (c_N hb _) rfl (by decide) rfl xw1189 rfl (xd dk_N_looks 201 rfl) ?_
          refine x_iload_n hc (xd dk_N_looks 202 rfl) rfl rfl ?_
          by_cases q92 : xin v1 64 = true
          case neg => rw [if_neg q92] at hf; cases hf
          rw [if_pos q92] at hf
          refine x_iald hc (cA (xMd.ar hb 32 (by decide) rfl)) (xin_in q92) (xd dk_N_looks 203 rfl) ?_
          by_cases q93 : xin (M.1 (b + 32) v1.toNatClampNeg) 64 = true
          case neg => rw [if_neg q93] at hf; cases hf
          rw [if_pos q93] at hf
          refine x_iald hc (cA (xMd.ar hb 23 (by decide) rfl)) (xin_in q93) (xd dk_N_looks 204 rfl) ?_
          refine x_iconst hc (v := 1) (xd dk_N_looks 205 rfl) (by decide) ?_
          refine x_icmp_ne hc (tgt := 358) (xd dk_N_looks 206 rfl) rfl (fun q94 => ?_) (fun q94 => ?_)
          · rw [if_neg q94] at hf
            exact s_N_looks_358 hc hR hb ih v1 M hf
          · rw [if_pos q94] at hf
            refine x_iconst hc (v := 1) (xd dk_N_looks 207 rfl) (by decide) ?_
            refine x_goto hc (tgt := 359) (xd dk_N_looks 208 rfl) rfl ?_
            exact s_N_looks_359 hc hR hb ih v1 1 M hf
set_option maxRecDepth 100000 in
set_option maxHeartbeats 400000 in
theorem s_N_looks_272 {p : Program} {l : Launch} {e : Env} {R : Room} {s : State} {m : MethodId} {args : Array Value} {below : List Frame} {meth : Method} {c : Code} {G : xG} {Y : xY} {sz : Nat} {b : Nat}  (hc : xC p s m args meth c G 4 c_N_looks y_N_looks.cls none) (hR : xRm R 3) (hb : xMd Y b) {M' : xMem} {r : Unit} : ∀ (n : Nat) (v1 : Int32) (M : xMem), f_N_looks_272 b n v1 M = some (r, M') → xW p l e R s m args below meth c G 4 (MQ below (xQc G none (xo G Y M') sz) args s 0 0 (xA G)) (xo G Y M) sz 0 0 272 [some (.ref b), some (.int v1), none, none] [] := by
  intro n
  induction n with
  | zero => intro v1 M hf; simp only [f_N_looks_272] at hf; cases hf
  | succ n ih =>
    intro v1 M hf
    simp only [f_N_looks_272] at hf
    refine x_iload_n hc (xd dk_N_looks 160 rfl) rfl rfl ?_
    refine x_aload_n hc (xd dk_N_looks 161 rfl) rfl rfl ?_
    refine x_get hc (ci := 10) (k := 56) fi_N (c_N hb _) rfl (by decide) rfl xw1199 rfl (xd dk_N_looks 162 rfl) ?_
    refine x_icmp_ge hc (tgt := 299) (xd dk_N_looks 163 rfl) rfl (fun q95 => ?_) (fun q95 => ?_)
    · rw [if_pos q95] at hf
      refine x_iconst hc (v := 0) (xd dk_N_looks 174 rfl) (by decide) ?_
      refine x_istore_n hc (xd dk_N_looks 175 rfl) (by decide) rfl ?_
      exact s_N_looks_301 hc hR hb xFuel 0 M hf
    · rw [if_neg q95] at hf
      refine x_aload_n hc (xd dk_N_looks 164 rfl) rfl rfl ?_
      refine x_iconst hc (v := 1) (xd dk_N_looks 165 rfl) (by decide) ?_
      refine x_bipush hc (v := 6) (xd dk_N_looks 166 rfl) (by decide) ?_
      refine x_aload_n hc (xd dk_N_looks 167 rfl) rfl rfl ?_
      refine x_get hc (ci := 10) (k := 44) fi_N (c_N hb _) rfl (by decide) rfl xw1187 rfl (xd dk_N_looks 168 rfl) ?_
      refine x_iload_n hc (xd dk_N_looks 169 rfl) rfl rfl ?_
      by_cases q96 : xin v1 64 = true
      case neg => rw [if_neg q96] at hf; cases hf
      rw [if_pos q96] at hf
      refine x_iald hc (cA (xMd.ar hb 30 (by decide) rfl)) (xin_in q96) (xd dk_N_looks 170 rfl) ?_
      obtain ⟨x97, hx97, hf⟩ := xval_ex hf
      rw [← hx97]
      obtain ⟨r98, M, e99, hf⟩ := xbind_some hf
      refine x_callV hc (As := [.int 1, .int 6, .int x97]) (n := 3) (s_N_finds hb e99) (c_N hb _) rfl (hR.call (by decide) (by decide)) ⟨by decide, by decide, by decide⟩ rfl rfl xw1377 xw18 xw1374 xw1376 xs_N_finds (Nat.le_of_ble_eq_true rfl) ⟨Nat.zero_le _, Nat.zero_le _⟩ (xd dk_N_looks 171 rfl) ?_
      refine x_iinc hc (xd dk_N_looks 172 rfl) rfl (by decide) rfl ?_
      refine x_goto hc (tgt := 272) (xd dk_N_looks 173 rfl) rfl ?_
      exact ih (v1 + Int32.ofInt 1) M hf
set_option maxRecDepth 100000 in
set_option maxHeartbeats 400000 in
theorem s_N_looks_244 {p : Program} {l : Launch} {e : Env} {R : Room} {s : State} {m : MethodId} {args : Array Value} {below : List Frame} {meth : Method} {c : Code} {G : xG} {Y : xY} {sz : Nat} {b : Nat}  (hc : xC p s m args meth c G 4 c_N_looks y_N_looks.cls none) (hR : xRm R 3) (hb : xMd Y b) {M' : xMem} {r : Unit} : ∀ (n : Nat) (v1 : Int32) (M : xMem), f_N_looks_244 b n v1 M = some (r, M') → xW p l e R s m args below meth c G 4 (MQ below (xQc G none (xo G Y M') sz) args s 0 0 (xA G)) (xo G Y M) sz 0 0 244 [some (.ref b), some (.int v1), none, none] [] := by
  intro n
  induction n with
  | zero => intro v1 M hf; simp only [f_N_looks_244] at hf; cases hf
  | succ n ih =>
    intro v1 M hf
    simp only [f_N_looks_244] at hf
    refine x_iload_n hc (xd dk_N_looks 144 rfl) rfl rfl ?_
    refine x_aload_n hc (xd dk_N_looks 145 rfl) rfl rfl ?_
    refine x_get hc (ci := 10) (k := 55) fi_N (c_N hb _) rfl (by decide) rfl xw1198 rfl (xd dk_N_looks 146 rfl) ?_
    refine x_icmp_ge hc (tgt := 270) (xd dk_N_looks 147 rfl) rfl (fun q100 => ?_) (fun q100 => ?_)
    · rw [if_pos q100] at hf
      refine x_iconst hc (v := 0) (xd dk_N_looks 158 rfl) (by decide) ?_
      refine x_istore_n hc (xd dk_N_looks 159 rfl) (by decide) rfl ?_
      exact s_N_looks_272 hc hR hb xFuel 0 M hf
    · rw [if_neg q100] at hf
      refine x_aload_n hc (xd dk_N_looks 148 rfl) rfl rfl ?_
      refine x_iconst hc (v := 1) (xd dk_N_looks 149 rfl) (by decide) ?_
      refine x_iconst hc (v := 5) (xd dk_N_looks 150 rfl) (by decide) ?_
      refine x_aload_n hc (xd dk_N_looks 151 rfl) rfl rfl ?_
      refine x_get hc (ci := 10) (k := 43) fi_N (c_N hb _) rfl (by decide) rfl xw1186 rfl (xd dk_N_looks 152 rfl) ?_
      refine x_iload_n hc (xd dk_N_looks 153 rfl) rfl rfl ?_
      by_cases q101 : xin v1 64 = true
      case neg => rw [if_neg q101] at hf; cases hf
      rw [if_pos q101] at hf
      refine x_iald hc (cA (xMd.ar hb 29 (by decide) rfl)) (xin_in q101) (xd dk_N_looks 154 rfl) ?_
      obtain ⟨x102, hx102, hf⟩ := xval_ex hf
      rw [← hx102]
      obtain ⟨r103, M, e104, hf⟩ := xbind_some hf
      refine x_callV hc (As := [.int 1, .int 5, .int x102]) (n := 3) (s_N_finds hb e104) (c_N hb _) rfl (hR.call (by decide) (by decide)) ⟨by decide, by decide, by decide⟩ rfl rfl xw1377 xw18 xw1374 xw1376 xs_N_finds (Nat.le_of_ble_eq_true rfl) ⟨Nat.zero_le _, Nat.zero_le _⟩ (xd dk_N_looks 155 rfl) ?_
      refine x_iinc hc (xd dk_N_looks 156 rfl) rfl (by decide) rfl ?_
      refine x_goto hc (tgt := 244) (xd dk_N_looks 157 rfl) rfl ?_
      exact ih (v1 + Int32.ofInt 1) M hf
set_option maxRecDepth 100000 in
set_option maxHeartbeats 400000 in
theorem s_N_looks_216 {p : Program} {l : Launch} {e : Env} {R : Room} {s : State} {m : MethodId} {args : Array Value} {below : List Frame} {meth : Method} {c : Code} {G : xG} {Y : xY} {sz : Nat} {b : Nat}  (hc : xC p s m args meth c G 4 c_N_looks y_N_looks.cls none) (hR : xRm R 3) (hb : xMd Y b) {M' : xMem} {r : Unit} : ∀ (n : Nat) (v1 : Int32) (M : xMem), f_N_looks_216 b n v1 M = some (r, M') → xW p l e R s m args below meth c G 4 (MQ below (xQc G none (xo G Y M') sz) args s 0 0 (xA G)) (xo G Y M) sz 0 0 216 [some (.ref b), some (.int v1), none, none] [] := by
  intro n
  induction n with
  | zero => intro v1 M hf; simp only [f_N_looks_216] at hf; cases hf
  | succ n ih =>
    intro v1 M hf
    simp only [f_N_looks_216] at hf
    refine x_iload_n hc (xd dk_N_looks 128 rfl) rfl rfl ?_
    refine x_aload_n hc (xd dk_N_looks 129 rfl) rfl rfl ?_
    refine x_get hc (ci := 10) (k := 54) fi_N (c_N hb _) rfl (by decide) rfl xw1197 rfl (xd dk_N_looks 130 rfl) ?_
    refine x_icmp_ge hc (tgt := 242) (xd dk_N_looks 131 rfl) rfl (fun q105 => ?_) (fun q105 => ?_)
    · rw [if_pos q105] at hf
      refine x_iconst hc (v := 0) (xd dk_N_looks 142 rfl) (by decide) ?_
      refine x_istore_n hc (xd dk_N_looks 143 rfl) (by decide) rfl ?_
      exact s_N_looks_244 hc hR hb xFuel 0 M hf
    · rw [if_neg q105] at hf
      refine x_aload_n hc (xd dk_N_looks 132 rfl) rfl rfl ?_
      refine x_iconst hc (v := 1) (xd dk_N_looks 133 rfl) (by decide) ?_
      refine x_iconst hc (v := 4) (xd dk_N_looks 134 rfl) (by decide) ?_
      refine x_aload_n hc (xd dk_N_looks 135 rfl) rfl rfl ?_
      refine x_get hc (ci := 10) (k := 42) fi_N (c_N hb _) rfl (by decide) rfl xw1185 rfl (xd dk_N_looks 136 rfl) ?_
      refine x_iload_n hc (xd dk_N_looks 137 rfl) rfl rfl ?_
      by_cases q106 : xin v1 64 = true
      case neg => rw [if_neg q106] at hf; cases hf
      rw [if_pos q106] at hf
      refine x_iald hc (cA (xMd.ar hb 28 (by decide) rfl)) (xin_in q106) (xd dk_N_looks 138 rfl) ?_
      obtain ⟨x107, hx107, hf⟩ := xval_ex hf
      rw [← hx107]
      obtain ⟨r108, M, e109, hf⟩ := xbind_some hf
      refine x_callV hc (As := [.int 1, .int 4, .int x107]) (n := 3) (s_N_finds hb e109) (c_N hb _) rfl (hR.call (by decide) (by decide)) ⟨by decide, by decide, by decide⟩ rfl rfl xw1377 xw18 xw1374 xw1376 xs_N_finds (Nat.le_of_ble_eq_true rfl) ⟨Nat.zero_le _, Nat.zero_le _⟩ (xd dk_N_looks 139 rfl) ?_
      refine x_iinc hc (xd dk_N_looks 140 rfl) rfl (by decide) rfl ?_
      refine x_goto hc (tgt := 216) (xd dk_N_looks 141 rfl) rfl ?_
      exact ih (v1 + Int32.ofInt 1) M hf
set_option maxRecDepth 100000 in
set_option maxHeartbeats 400000 in
theorem s_N_looks_120 {p : Program} {l : Launch} {e : Env} {R : Room} {s : State} {m : MethodId} {args : Array Value} {below : List Frame} {meth : Method} {c : Code} {G : xG} {Y : xY} {sz : Nat} {b : Nat}  (hc : xC p s m args meth c G 4 c_N_looks y_N_looks.cls none) (hR : xRm R 3) (hb : xMd Y b) {M' : xMem} {r : Unit} : ∀ (n : Nat) (v1 : Int32) (M : xMem), f_N_looks_120 b n v1 M = some (r, M') → xW p l e R s m args below meth c G 4 (MQ below (xQc G none (xo G Y M') sz) args s 0 0 (xA G)) (xo G Y M) sz 0 0 120 [some (.ref b), some (.int v1), none, none] [] := by
  intro n
  induction n with
  | zero => intro v1 M hf; simp only [f_N_looks_120] at hf; cases hf
  | succ n ih =>
    intro v1 M hf
    simp only [f_N_looks_120] at hf
    refine x_iload_n hc (xd dk_N_looks 72 rfl) rfl rfl ?_
    refine x_aload_n hc (xd dk_N_looks 73 rfl) rfl rfl ?_
    refine x_get hc (ci := 10) (k := 36) fi_N (c_N hb _) rfl (by decide) rfl xw1179 rfl (xd dk_N_looks 74 rfl) ?_
    refine x_icmp_ge hc (tgt := 214) (xd dk_N_looks 75 rfl) rfl (fun q110 => ?_) (fun q110 => ?_)
    · rw [if_pos q110] at hf
      refine x_iconst hc (v := 0) (xd dk_N_looks 126 rfl) (by decide) ?_
      refine x_istore_n hc (xd dk_N_looks 127 rfl) (by decide) rfl ?_
      exact s_N_looks_216 hc hR hb xFuel 0 M hf
    · rw [if_neg q110] at hf
      refine x_aload_n hc (xd dk_N_looks 76 rfl) rfl rfl ?_
      refine x_aload_n hc (xd dk_N_looks 77 rfl) rfl rfl ?_
      refine x_iload_n hc (xd dk_N_looks 78 rfl) rfl rfl ?_
      obtain ⟨r111, M, e112, hf⟩ := xbind_some hf
      refine x_callV hc (As := [.int v1]) (n := 1) (s_N_isUnused hb e112) (c_N hb _) rfl (hR.call (by decide) (by decide)) ⟨by decide, by decide, by decide⟩ rfl rfl xw1385 xw18 xw1382 xw1384 xs_N_isUnused (Nat.le_of_ble_eq_true rfl) ⟨Nat.zero_le _, Nat.zero_le _⟩ (xd dk_N_looks 79 rfl) ?_
      refine x_iconst hc (v := 1) (xd dk_N_looks 80 rfl) (by decide) ?_
      refine x_aload_n hc (xd dk_N_looks 81 rfl) rfl rfl ?_
      refine x_get hc (ci := 10) (k := 18) fi_N (c_N hb _) rfl (by decide) rfl xw1161 rfl (xd dk_N_looks 82 rfl) ?_
      refine x_aload_n hc (xd dk_N_looks 83 rfl) rfl rfl ?_
      refine x_get hc (ci := 10) (k := 30) fi_N (c_N hb _) rfl (by decide) rfl xw1173 rfl (xd dk_N_looks 84 rfl) ?_
      refine x_iload_n hc (xd dk_N_looks 85 rfl) rfl rfl ?_
      by_cases q113 : xin v1 64 = true
      case neg => rw [if_neg q113] at hf; cases hf
      rw [if_pos q113] at hf
      refine x_iald hc (cA (xMd.ar hb 18 (by decide) rfl)) (xin_in q113) (xd dk_N_looks 86 rfl) ?_
      by_cases q114 : xin (M.1 (b + 18) v1.toNatClampNeg) 64 = true
      case neg => rw [if_neg q114] at hf; cases hf
      rw [if_pos q114] at hf
      refine x_iald hc (cA (xMd.ar hb 9 (by decide) rfl)) (xin_in q114) (xd dk_N_looks 87 rfl) ?_
      obtain ⟨x115, hx115, hf⟩ := xval_ex hf
      rw [← hx115]
      obtain ⟨r116, M, e117, hf⟩ := xbind_some hf
      refine x_callV hc (As := [.int r111, .int 1, .int x115]) (n := 3) (s_N_finds hb e117) (c_N hb _) rfl (hR.call (by decide) (by decide)) ⟨by decide, by decide, by decide⟩ rfl rfl xw1377 xw18 xw1374 xw1376 xs_N_finds (Nat.le_of_ble_eq_true rfl) ⟨Nat.zero_le _, Nat.zero_le _⟩ (xd dk_N_looks 88 rfl) ?_
      refine x_aload_n hc (xd dk_N_looks 89 rfl) rfl rfl ?_
      refine x_aload_n hc (xd dk_N_looks 90 rfl) rfl rfl ?_
      refine x_get hc (ci := 10) (k := 24) fi_N (c_N hb _) rfl (by decide) rfl xw1167 rfl (xd dk_N_looks 91 rfl) ?_
      refine x_aload_n hc (xd dk_N_looks 92 rfl) rfl rfl ?_
      refine x_get hc (ci := 10) (k := 31) fi_N (c_N hb _) rfl (by decide) rfl xw1174 rfl (xd dk_N_looks 93 rfl) ?_
      refine x_iload_n hc (xd dk_N_looks 94 rfl) rfl rfl ?_
      by_cases q118 : xin v1 64 = true
      case neg => rw [if_neg q118] at hf; cases hf
      rw [if_pos q118] at hf
      refine x_iald hc (cA (xMd.ar hb 19 (by decide) rfl)) (xin_in q118) (xd dk_N_looks 95 rfl) ?_
      by_cases q119 : xin (M.1 (b + 19) v1.toNatClampNeg) 64 = true
      case neg => rw [if_neg q119] at hf; cases hf
      rw [if_pos q119] at hf
      refine x_iald hc (cA (xMd.ar hb 15 (by decide) rfl)) (xin_in q119) (xd dk_N_looks 96 rfl) ?_
      refine x_if_lt hc (tgt := 192) (xd dk_N_looks 97 rfl) rfl (fun q120 => ?_) (fun q120 => ?_)
      · rw [if_pos q120] at hf
        exact s_N_looks_192 hc hR hb ih v1 M hf
      · rw [if_neg q120] at hf
        refine x_aload_n hc (xd dk_N_looks 98 rfl) rfl rfl ?_
        refine x_aload_n hc (xd dk_N_looks 99 rfl) rfl rfl ?_
        refine x_get hc (ci := 10) (k := 24) fi_N (c_N hb _) rfl (by decide) rfl xw1167 rfl (xd dk_N_looks 100 rfl) ?_
        refine x_aload_n hc (xd dk_N_looks 101 rfl) rfl rfl ?_
        refine x_get hc (ci := 10) (k := 31) fi_N (c_N hb _) rfl (by decide) rfl xw1174 rfl (xd dk_N_looks 102 rfl) ?_
        refine x_iload_n hc (xd dk_N_looks 103 rfl) rfl rfl ?_
        by_cases q121 : xin v1 64 = true
        case neg => rw [if_neg q121] at hf; cases hf
        rw [if_pos q121] at hf
        refine x_iald hc (cA (xMd.ar hb 19 (by decide) rfl)) (xin_in q121) (xd dk_N_looks 104 rfl) ?_
        by_cases q122 : xin (M.1 (b + 19) v1.toNatClampNeg) 64 = true
        case neg => rw [if_neg q122] at hf; cases hf
        rw [if_pos q122] at hf
        refine x_iald hc (cA (xMd.ar hb 15 (by decide) rfl)) (xin_in q122) (xd dk_N_looks 105 rfl) ?_
        refine x_aload_n hc (xd dk_N_looks 106 rfl) rfl rfl ?_
        refine x_get hc (ci := 10) (k := 30) fi_N (c_N hb _) rfl (by decide) rfl xw1173 rfl (xd dk_N_looks 107 rfl) ?_
        refine x_iload_n hc (xd dk_N_looks 108 rfl) rfl rfl ?_
        by_cases q123 : xin v1 64 = true
        case neg => rw [if_neg q123] at hf; cases hf
        rw [if_pos q123] at hf
        refine x_iald hc (cA (xMd.ar hb 18 (by decide) rfl)) (xin_in q123) (xd dk_N_looks 109 rfl) ?_
        obtain ⟨x124, hx124, hf⟩ := xval_ex hf
        rw [← hx124]
        obtain ⟨x125, hx125, hf⟩ := xval_ex hf
        rw [← hx125]
        obtain ⟨r126, M, e127, hf⟩ := xbind_some hf
        refine x_callV hc (As := [.int x124, .int x125]) (n := 2) (s_N_thingAround hb e127) (c_N hb _) rfl (hR.call (by decide) (by decide)) ⟨by decide, by decide, by decide⟩ rfl rfl xw1142 xw18 xw1139 xw1141 xs_N_thingAround (Nat.le_of_ble_eq_true rfl) ⟨Nat.zero_le _, Nat.zero_le _⟩ (xd dk_N_looks 110 rfl) ?_
        refine x_if_lt hc (tgt := 192) (xd dk_N_looks 111 rfl) rfl (fun q128 => ?_) (fun q128 => ?_)
        · rw [if_pos q128] at hf
          exact s_N_looks_192 hc hR hb ih v1 M hf
        · rw [if_neg q128] at hf
          refine x_iconst hc (v := 1) (xd dk_N_looks 112 rfl) (by decide) ?_
          refine x_goto hc (tgt := 193) (xd dk_N_looks 113 rfl) rfl ?_
          exact s_N_looks_193 hc hR hb ih v1 1 M hf
set_option maxRecDepth 100000 in
set_option maxHeartbeats 400000 in
theorem s_N_looks_12 {p : Program} {l : Launch} {e : Env} {R : Room} {s : State} {m : MethodId} {args : Array Value} {below : List Frame} {meth : Method} {c : Code} {G : xG} {Y : xY} {sz : Nat} {b : Nat}  (hc : xC p s m args meth c G 4 c_N_looks y_N_looks.cls none) (hR : xRm R 3) (hb : xMd Y b) {M' : xMem} {r : Unit} : ∀ (n : Nat) (v1 : Int32) (M : xMem), f_N_looks_12 b n v1 M = some (r, M') → xW p l e R s m args below meth c G 4 (MQ below (xQc G none (xo G Y M') sz) args s 0 0 (xA G)) (xo G Y M) sz 0 0 12 [some (.ref b), some (.int v1), none, none] [] := by
  intro n
  induction n with
  | zero => intro v1 M hf; simp only [f_N_looks_12] at hf; cases hf
  | succ n ih =>
    intro v1 M hf
    simp only [f_N_looks_12] at hf
    refine x_iload_n hc (xd dk_N_looks 8 rfl) rfl rfl ?_
    refine x_aload_n hc (xd dk_N_looks 9 rfl) rfl rfl ?_
    refine x_get hc (ci := 10) (k := 41) fi_N (c_N hb _) rfl (by decide) rfl xw1184 rfl (xd dk_N_looks 10 rfl) ?_
    refine x_icmp_ge hc (tgt := 118) (xd dk_N_looks 11 rfl) rfl (fun q129 => ?_) (fun q129 => ?_)
    · rw [if_pos q129] at hf
      refine x_iconst hc (v := 0) (xd dk_N_looks 70 rfl) (by decide) ?_
      refine x_istore_n hc (xd dk_N_looks 71 rfl) (by decide) rfl ?_
      exact s_N_looks_120 hc hR hb xFuel 0 M hf
    · rw [if_neg q129] at hf
      refine x_aload_n hc (xd dk_N_looks 12 rfl) rfl rfl ?_
      refine x_get hc (ci := 10) (k := 39) fi_N (c_N hb _) rfl (by decide) rfl xw1182 rfl (xd dk_N_looks 13 rfl) ?_
      refine x_iload_n hc (xd dk_N_looks 14 rfl) rfl rfl ?_
      by_cases q130 : xin v1 64 = true
      case neg => rw [if_neg q130] at hf; cases hf
      rw [if_pos q130] at hf
      refine x_iald hc (cA (xMd.ar hb 26 (by decide) rfl)) (xin_in q130) (xd dk_N_looks 15 rfl) ?_
      refine x_istore_n hc (xd dk_N_looks 16 rfl) (by decide) rfl ?_
      refine x_aload_n hc (xd dk_N_looks 17 rfl) rfl rfl ?_
      refine x_get hc (ci := 10) (k := 18) fi_N (c_N hb _) rfl (by decide) rfl xw1161 rfl (xd dk_N_looks 18 rfl) ?_
      refine x_aload_n hc (xd dk_N_looks 19 rfl) rfl rfl ?_
      refine x_get hc (ci := 10) (k := 37) fi_N (c_N hb _) rfl (by decide) rfl xw1180 rfl (xd dk_N_looks 20 rfl) ?_
      refine x_iload_n hc (xd dk_N_looks 21 rfl) rfl rfl ?_
      by_cases q131 : xin v1 64 = true
      case neg => rw [if_neg q131] at hf; cases hf
      rw [if_pos q131] at hf
      refine x_iald hc (cA (xMd.ar hb 24 (by decide) rfl)) (xin_in q131) (xd dk_N_looks 22 rfl) ?_
      by_cases q132 : xin (M.1 (b + 24) v1.toNatClampNeg) 64 = true
      case neg => rw [if_neg q132] at hf; cases hf
      rw [if_pos q132] at hf
      refine x_iald hc (cA (xMd.ar hb 9 (by decide) rfl)) (xin_in q132) (xd dk_N_looks 23 rfl) ?_
      refine x_istore_n hc (xd dk_N_looks 24 rfl) (by decide) rfl ?_
      refine x_iload_n hc (xd dk_N_looks 25 rfl) rfl rfl ?_
      refine x_if_ge hc (tgt := 70) (xd dk_N_looks 26 rfl) rfl (fun q133 => ?_) (fun q133 => ?_)
      · rw [if_pos q133] at hf
        refine x_aload_n hc (xd dk_N_looks 42 rfl) rfl rfl ?_
        refine x_aload_n hc (xd dk_N_looks 43 rfl) rfl rfl ?_
        refine x_get hc (ci := 10) (k := 40) fi_N (c_N hb _) rfl (by decide) rfl xw1183 rfl (xd dk_N_looks 44 rfl) ?_
        refine x_iload_n hc (xd dk_N_looks 45 rfl) rfl rfl ?_
        by_cases q134 : xin v1 64 = true
        case neg => rw [if_neg q134] at hf; cases hf
        rw [if_pos q134] at hf
        refine x_zald hc (cA (xMd.ar hb 27 (by decide) rfl)) (xin_in q134) (xd dk_N_looks 46 rfl) ?_
        refine x_if_eq hc (tgt := 94) (xd dk_N_looks 47 rfl) rfl (fun q135 => ?_) (fun q135 => ?_)
        · rw [if_pos q135] at hf
          exact s_N_looks_94 hc hR hb ih v1 (M.1 (b + 26) v1.toNatClampNeg) (M.1 (b + 9) (M.1 (b + 24) v1.toNatClampNeg).toNatClampNeg) M hf
        · rw [if_neg q135] at hf
          refine x_aload_n hc (xd dk_N_looks 48 rfl) rfl rfl ?_
          refine x_get hc (ci := 10) (k := 32) fi_N (c_N hb _) rfl (by decide) rfl xw1175 rfl (xd dk_N_looks 49 rfl) ?_
          refine x_iload_n hc (xd dk_N_looks 50 rfl) rfl rfl ?_
          by_cases q136 : xin (M.1 (b + 26) v1.toNatClampNeg) 64 = true
          case neg => rw [if_neg q136] at hf; cases hf
          rw [if_pos q136] at hf
          refine x_iald hc (cA (xMd.ar hb 20 (by decide) rfl)) (xin_in q136) (xd dk_N_looks 51 rfl) ?_
          refine x_iconst hc (v := 1) (xd dk_N_looks 52 rfl) (by decide) ?_
          refine x_icmp_ne hc (tgt := 94) (xd dk_N_looks 53 rfl) rfl (fun q137 => ?_) (fun q137 => ?_)
          · rw [if_neg q137] at hf
            exact s_N_looks_94 hc hR hb ih v1 (M.1 (b + 26) v1.toNatClampNeg) (M.1 (b + 9) (M.1 (b + 24) v1.toNatClampNeg).toNatClampNeg) M hf
          · rw [if_pos q137] at hf
            refine x_iconst hc (v := 1) (xd dk_N_looks 54 rfl) (by decide) ?_
            refine x_goto hc (tgt := 95) (xd dk_N_looks 55 rfl) rfl ?_
            exact s_N_looks_95 hc hR hb ih v1 (M.1 (b + 26) v1.toNatClampNeg) (M.1 (b + 9) (M.1 (b + 24) v1.toNatClampNeg).toNatClampNeg) 1 M hf
      · rw [if_neg q133] at hf
        refine x_aload_n hc (xd dk_N_looks 27 rfl) rfl rfl ?_
        refine x_aload_n hc (xd dk_N_looks 28 rfl) rfl rfl ?_
        refine x_aload_n hc (xd dk_N_looks 29 rfl) rfl rfl ?_
        refine x_get hc (ci := 10) (k := 37) fi_N (c_N hb _) rfl (by decide) rfl xw1180 rfl (xd dk_N_looks 30 rfl) ?_
        refine x_iload_n hc (xd dk_N_looks 31 rfl) rfl rfl ?_
        by_cases q138 : xin v1 64 = true
        case neg => rw [if_neg q138] at hf; cases hf
        rw [if_pos q138] at hf
        refine x_iald hc (cA (xMd.ar hb 24 (by decide) rfl)) (xin_in q138) (xd dk_N_looks 32 rfl) ?_
        obtain ⟨x139, hx139, hf⟩ := xval_ex hf
        rw [← hx139]
        obtain ⟨x140, hx140, hf⟩ := xval_ex hf
        rw [← hx140]
        obtain ⟨x141, hx141, hf⟩ := xval_ex hf
        rw [← hx141]
        obtain ⟨r142, M, e143, hf⟩ := xbind_some hf
        refine x_callV hc (As := [.int x141]) (n := 1) (s_N_isGiven hb e143) (c_N hb _) rfl (hR.call (by decide) (by decide)) ⟨by decide, by decide, by decide⟩ rfl rfl xw1373 xw18 xw1370 xw1372 xs_N_isGiven (Nat.le_of_ble_eq_true rfl) ⟨Nat.zero_le _, Nat.zero_le _⟩ (xd dk_N_looks 33 rfl) ?_
        refine x_if_ne hc (tgt := 61) (xd dk_N_looks 34 rfl) rfl (fun q144 => ?_) (fun q144 => ?_)
        · rw [if_neg q144] at hf
          refine x_iconst hc (v := 0) (xd dk_N_looks 37 rfl) (by decide) ?_
          exact s_N_looks_62 hc hR hb ih v1 x140 x139 0 M hf
        · rw [if_pos q144] at hf
          refine x_iconst hc (v := 1) (xd dk_N_looks 35 rfl) (by decide) ?_
          refine x_goto hc (tgt := 62) (xd dk_N_looks 36 rfl) rfl ?_
          exact s_N_looks_62 hc hR hb ih v1 x140 x139 1 M hf
set_option maxRecDepth 100000 in
set_option maxHeartbeats 400000 in
theorem s_N_looks {l : Launch} {G : xG} {Y : xY} {sz : Nat} {b : Nat}  (hb : xMd Y b) {M M' : xMem} {r : Unit} (hf : f_N_looks b M = some (r, M')) : xM l G y_N_looks c_N_looks 4 none 3 0 0 [.ref b] (xo G Y M) sz none (xo G Y M') sz := by
  unfold f_N_looks at hf
  refine xM.of (k := 3) (L0 := [some (.ref b), none, none, none]) (by decide) (Nat.le_of_ble_eq_true rfl) rfl ?_
  intro p e s m args below meth c hc hnm
  have hR : xRm { frames := 3, cells := 0, slots := 0, locals := 48 * 3 } 3 := ⟨Nat.le_refl _, Nat.le_refl _⟩
  refine x_aload_n hc (xd dk_N_looks 0 rfl) rfl rfl ?_
  refine x_iconst hc (v := 0) (xd dk_N_looks 1 rfl) (by decide) ?_
  refine x_put hc (ci := 10) (k := 63) fi_N ft_N ft_N_ok fn_N (c_N hb _) rfl (by decide) rfl xw1206 rfl rfl rfl (Nat.le_of_ble_eq_true rfl) (xd dk_N_looks 2 rfl) ?_
  rw [w_N_63 hb]
  replace hf := xlet_some hf
  generalize wI M b 63 0 = M at hf ⊢
  refine x_aload_n hc (xd dk_N_looks 3 rfl) rfl rfl ?_
  refine x_iconst hc (v := 0) (xd dk_N_looks 4 rfl) (by decide) ?_
  refine x_put hc (ci := 10) (k := 64) fi_N ft_N ft_N_ok fn_N (c_N hb _) rfl (by decide) rfl xw1207 rfl rfl rfl (Nat.le_of_ble_eq_true rfl) (xd dk_N_looks 5 rfl) ?_
  rw [w_N_64 hb]
  replace hf := xlet_some hf
  generalize wI M b 64 0 = M at hf ⊢
  refine x_iconst hc (v := 0) (xd dk_N_looks 6 rfl) (by decide) ?_
  refine x_istore_n hc (xd dk_N_looks 7 rfl) (by decide) rfl ?_
  exact s_N_looks_12 hc hR hb xFuel 0 M hf
def f_N_give_72 (b : Nat) (p1 : Int64) (k35 : Int32 → Int32 → Int32 → xMem → Option (Int32 × xMem)) (v3 : Int32) (v4 : Int32) (v5 : Int32) (w0 : Int32) (w1 : Int32) (M : xMem) : Option (Int32 × xMem) :=
  (k35 v3 (w0 &&& w1) (v5 + Int32.ofInt 1) M)
def f_N_give_67 (b : Nat) (p1 : Int64) (k35 : Int32 → Int32 → Int32 → xMem → Option (Int32 × xMem)) (v3 : Int32) (v4 : Int32) (v5 : Int32) (w0 : Int32) (M : xMem) : Option (Int32 × xMem) :=
  (f_N_give_72 b p1 k35 v3 v4 v5 w0 1 M)
def f_N_give_283 (b : Nat) (p1 : Int64) : Nat → Int32 → Int32 → Int32 → Int32 → Int32 → Int32 → xMem → Option (Int32 × xMem)
  | 0, _, _, _, _, _, _, _ => none
  | n + 1, v3, v4, v5, v6, v7, v8, M =>
    (if v3 ≤ v8 then (xval (M.1 b 6) fun x41 => if xin x41 8 = true then xlet (wI M (b + 6) x41.toNatClampNeg v3) fun M => xval ((M.1 b 6) + 1) fun x43 => xlet (wI M b 6 x43) fun M => some (M.1 b 6, M) else none) else (xval ((8 * (M.1 b 6)) + v8) fun x44 => xbind (f_N_octet p1 v8 M) fun r45 M => if xin x44 64 = true then xlet (wI M (b + 5) x44.toNatClampNeg r45) fun M => f_N_give_283 b p1 n v3 v4 v5 v6 v7 (v8 + Int32.ofInt 1) M else none))
def f_N_give_271 (b : Nat) (p1 : Int64) (v3 : Int32) (v4 : Int32) (v5 : Int32) (v6 : Int32) (v7 : Int32) (v8 : Int32) (w1 : Int32) (M : xMem) : Option (Int32 × xMem) :=
  (xbind (f_N_fails b w1 3 M) fun r48 M => if r48 = 0 then (f_N_give_283 b p1 xFuel v3 v4 v5 v6 v7 0 M) else (some (0, M)))
def f_N_give_209 (b : Nat) (p1 : Int64) : Nat → Int32 → Int32 → Int32 → Int32 → Int32 → Int32 → xMem → Option (Int32 × xMem)
  | 0, _, _, _, _, _, _, _ => none
  | n + 1, v3, v4, v5, v6, v7, v8, M =>
    (if v5 ≤ v8 then (xbind (f_N_fails b v6 1 M) fun r52 M => if r52 = 0 then (xbind (f_N_fails b v7 2 M) fun r55 M => if r55 = 0 then (if M.1 b 6 = 8 then (f_N_give_271 b p1 v3 v4 v5 v6 v7 v8 1 M) else (f_N_give_271 b p1 v3 v4 v5 v6 v7 v8 0 M)) else (some (0, M))) else (some (0, M))) else (if xin v8 160 = true then xval (M.1 (b + 3) v8.toNatClampNeg) fun x60 => if xin v8 160 = true then xlet (wI M (b + 2) v8.toNatClampNeg x60) fun M => f_N_give_209 b p1 n v3 v4 v5 v6 v7 (v8 + Int32.ofInt 1) M else none else none))
def f_N_give_196 (b : Nat) (p1 : Int64) (v3 : Int32) (v4 : Int32) (v5 : Int32) (v6 : Int32) (w0 : Int32) (M : xMem) : Option (Int32 × xMem) :=
  (xbind (f_N_isGiven b 62 M) fun r62 M => f_N_give_209 b p1 xFuel v3 v4 v5 w0 r62 0 M)
def f_N_give_140 (b : Nat) (p1 : Int64) : Nat → Int32 → Int32 → Int32 → Int32 → xMem → Option (Int32 × xMem)
  | 0, _, _, _, _, _ => none
  | n + 1, v3, v4, v5, v6, M =>
    (if v3 ≤ v6 then (if xin 62 64 = true then xlet (wI M (b + 9) (62 : Int32).toNatClampNeg 0) fun M => if xin 62 64 = true then xlet (wI M (b + 10) (62 : Int32).toNatClampNeg v3) fun M => xbind (f_N_word b 62 M) fun r67 M => if r67 = 1 then (f_N_give_196 b p1 v3 v4 v5 v6 0 M) else (f_N_give_196 b p1 v3 v4 v5 v6 1 M) else none else none) else (xbind (f_N_octet p1 v6 M) fun r70 M => if xin v6 160 = true then xlet (wI M (b + 2) v6.toNatClampNeg r70) fun M => f_N_give_140 b p1 n v3 v4 v5 (v6 + Int32.ofInt 1) M else none))
def f_N_give_110 (b : Nat) (p1 : Int64) : Nat → Int32 → Int32 → Int32 → Int32 → xMem → Option (Int32 × xMem)
  | 0, _, _, _, _, _ => none
  | n + 1, v3, v4, v5, v6, M =>
    (if v5 ≤ v6 then (f_N_give_140 b p1 xFuel v3 v4 v5 0 M) else (if xin v6 160 = true then xval (M.1 (b + 2) v6.toNatClampNeg) fun x75 => if xin v6 160 = true then xlet (wI M (b + 3) v6.toNatClampNeg x75) fun M => f_N_give_110 b p1 n v3 v4 v5 (v6 + Int32.ofInt 1) M else none else none))
def f_N_give_92 (b : Nat) (p1 : Int64) (v3 : Int32) (v4 : Int32) (v5 : Int32) (w1 : Int32) (M : xMem) : Option (Int32 × xMem) :=
  (xbind (f_N_fails b w1 1 M) fun r77 M => if r77 = 0 then (f_N_give_110 b p1 xFuel v3 v4 (M.1 b 2) 0 M) else (some (0, M)))
def f_N_give_35 (b : Nat) (p1 : Int64) : Nat → Int32 → Int32 → Int32 → xMem → Option (Int32 × xMem)
  | 0, _, _, _, _ => none
  | n + 1, v3, v4, v5, M =>
    (if v3 ≤ v5 then (if v4 = 0 then (f_N_give_92 b p1 v3 v4 v5 1 M) else (f_N_give_92 b p1 v3 v4 v5 0 M)) else (xbind (f_N_octet p1 v5 M) fun r82 M => xbind (f_N_isLetter r82 M) fun r84 M => if r84 = 0 then (xbind (f_N_octet p1 v5 M) fun r87 M => xbind (f_N_isDigit r87 M) fun r89 M => if r89 = 0 then (f_N_give_72 b p1 (f_N_give_35 b p1 n) v3 v4 v5 v4 0 M) else (f_N_give_67 b p1 (f_N_give_35 b p1 n) v3 v4 v5 v4 M)) else (f_N_give_67 b p1 (f_N_give_35 b p1 n) v3 v4 v5 v4 M)))
def f_N_give_30 (b : Nat) (p1 : Int64) (v3 : Int32) (w0 : Int32) (M : xMem) : Option (Int32 × xMem) :=
  (f_N_give_35 b p1 xFuel v3 w0 0 M)
def f_N_give_29 (b : Nat) (p1 : Int64) (v3 : Int32) (M : xMem) : Option (Int32 × xMem) :=
  (f_N_give_30 b p1 v3 0 M)
def f_N_give (b : Nat) (p1 : Int64) (M : xMem) : Option (Int32 × xMem) :=
  (xlet (wI M b 0 0) fun M => xbind (f_N_sizeOf p1 M) fun r92 M => if r92 ≤ 0 then (f_N_give_29 b p1 r92 M) else (xbind (f_N_octet p1 0 M) fun r95 M => xbind (f_N_isLetter r95 M) fun r97 M => if r97 = 0 then (f_N_give_29 b p1 r92 M) else (f_N_give_30 b p1 r92 1 M)))
set_option maxRecDepth 100000 in
set_option maxHeartbeats 400000 in
theorem s_N_give_72 {p : Program} {l : Launch} {e : Env} {R : Room} {s : State} {m : MethodId} {args : Array Value} {below : List Frame} {meth : Method} {c : Code} {G : xG} {Y : xY} {sz : Nat} {b : Nat} {p1 : Int64}  (hc : xC p s m args meth c G 9 c_N_give y_N_give.cls (some .int)) (hR : xRm R 2) (hb : xMd Y b) {k35 : Int32 → Int32 → Int32 → xMem → Option (Int32 × xMem)} {M' : xMem} {r : Int32} (hk35 : ∀ (v3 : Int32) (v4 : Int32) (v5 : Int32) (M : xMem), k35 v3 v4 v5 M = some (r, M') → xW p l e R s m args below meth c G 9 (MQ below (xQc G (some (.int r)) (xo G Y M') sz) args s 0 0 (xA G)) (xo G Y M) sz 0 0 35 [some (.ref b), some (.long (p1)), none, some (.int v3), some (.int v4), some (.int v5), none, none, none] []) (v3 : Int32) (v4 : Int32) (v5 : Int32) (w0 : Int32) (w1 : Int32) (M : xMem) (hf : f_N_give_72 b p1 k35 v3 v4 v5 w0 w1 M = some (r, M')) : xW p l e R s m args below meth c G 9 (MQ below (xQc G (some (.int r)) (xo G Y M') sz) args s 0 0 (xA G)) (xo G Y M) sz 0 0 72 [some (.ref b), some (.long (p1)), none, some (.int v3), some (.int v4), some (.int v5), none, none, none] [.int w1, .int w0] := by
  unfold f_N_give_72 at hf
  refine x_iand hc (xd dk_N_give 36 rfl) ?_
  refine x_istore hc (xd dk_N_give 37 rfl) (by decide) rfl ?_
  refine x_iinc hc (xd dk_N_give 38 rfl) rfl (by decide) rfl ?_
  refine x_goto hc (tgt := 35) (xd dk_N_give 39 rfl) rfl ?_
  exact hk35 v3 (w0 &&& w1) (v5 + Int32.ofInt 1) M hf
set_option maxRecDepth 100000 in
set_option maxHeartbeats 400000 in
theorem s_N_give_67 {p : Program} {l : Launch} {e : Env} {R : Room} {s : State} {m : MethodId} {args : Array Value} {below : List Frame} {meth : Method} {c : Code} {G : xG} {Y : xY} {sz : Nat} {b : Nat} {p1 : Int64}  (hc : xC p s m args meth c G 9 c_N_give y_N_give.cls (some .int)) (hR : xRm R 2) (hb : xMd Y b) {k35 : Int32 → Int32 → Int32 → xMem → Option (Int32 × xMem)} {M' : xMem} {r : Int32} (hk35 : ∀ (v3 : Int32) (v4 : Int32) (v5 : Int32) (M : xMem), k35 v3 v4 v5 M = some (r, M') → xW p l e R s m args below meth c G 9 (MQ below (xQc G (some (.int r)) (xo G Y M') sz) args s 0 0 (xA G)) (xo G Y M) sz 0 0 35 [some (.ref b), some (.long (p1)), none, some (.int v3), some (.int v4), some (.int v5), none, none, none] []) (v3 : Int32) (v4 : Int32) (v5 : Int32) (w0 : Int32) (M : xMem) (hf : f_N_give_67 b p1 k35 v3 v4 v5 w0 M = some (r, M')) : xW p l e R s m args below meth c G 9 (MQ below (xQc G (some (.int r)) (xo G Y M') sz) args s 0 0 (xA G)) (xo G Y M) sz 0 0 67 [some (.ref b), some (.long (p1)), none, some (.int v3), some (.int v4), some (.int v5), none, none, none] [.int w0] := by
  unfold f_N_give_67 at hf
  refine x_iconst hc (v := 1) (xd dk_N_give 33 rfl) (by decide) ?_
  refine x_goto hc (tgt := 72) (xd dk_N_give 34 rfl) rfl ?_
  exact s_N_give_72 hc hR hb hk35 v3 v4 v5 w0 1 M hf
set_option maxRecDepth 100000 in
set_option maxHeartbeats 400000 in
theorem s_N_give_283 {p : Program} {l : Launch} {e : Env} {R : Room} {s : State} {m : MethodId} {args : Array Value} {below : List Frame} {meth : Method} {c : Code} {G : xG} {Y : xY} {sz : Nat} {b : Nat} {p1 : Int64}  (hc : xC p s m args meth c G 9 c_N_give y_N_give.cls (some .int)) (hR : xRm R 2) (hb : xMd Y b) {M' : xMem} {r : Int32} : ∀ (n : Nat) (v3 : Int32) (v4 : Int32) (v5 : Int32) (v6 : Int32) (v7 : Int32) (v8 : Int32) (M : xMem), f_N_give_283 b p1 n v3 v4 v5 v6 v7 v8 M = some (r, M') → xW p l e R s m args below meth c G 9 (MQ below (xQc G (some (.int r)) (xo G Y M') sz) args s 0 0 (xA G)) (xo G Y M) sz 0 0 283 [some (.ref b), some (.long (p1)), none, some (.int v3), some (.int v4), some (.int v5), some (.int v6), some (.int v7), some (.int v8)] [] := by
  intro n
  induction n with
  | zero => intro v3 v4 v5 v6 v7 v8 M hf; simp only [f_N_give_283] at hf; cases hf
  | succ n ih =>
    intro v3 v4 v5 v6 v7 v8 M hf
    simp only [f_N_give_283] at hf
    refine x_iload hc (xd dk_N_give 146 rfl) rfl ?_
    refine x_iload_n hc (xd dk_N_give 147 rfl) rfl rfl ?_
    refine x_icmp_ge hc (tgt := 316) (xd dk_N_give 148 rfl) rfl (fun q40 => ?_) (fun q40 => ?_)
    · rw [if_pos q40] at hf
      refine x_aload_n hc (xd dk_N_give 163 rfl) rfl rfl ?_
      refine x_get hc (ci := 10) (k := 15) fi_N (c_N hb _) rfl (by decide) rfl xw1158 rfl (xd dk_N_give 164 rfl) ?_
      refine x_aload_n hc (xd dk_N_give 165 rfl) rfl rfl ?_
      refine x_get hc (ci := 10) (k := 6) fi_N (c_N hb _) rfl (by decide) rfl xw1149 rfl (xd dk_N_give 166 rfl) ?_
      refine x_iload_n hc (xd dk_N_give 167 rfl) rfl rfl ?_
      obtain ⟨x41, hx41, hf⟩ := xval_ex hf
      rw [← hx41]
      by_cases q42 : xin x41 8 = true
      case neg => rw [if_neg q42] at hf; cases hf
      rw [if_pos q42] at hf
      refine x_iast hc (cA (xMd.ar hb 6 (by decide) rfl)) (xin_in q42) (xd dk_N_give 168 rfl) ?_
      rw [wA (xMd.ar hb 6 (by decide) rfl)]
      replace hf := xlet_some hf
      generalize wI M (b + 6) x41.toNatClampNeg v3 = M at hf ⊢
      refine x_aload_n hc (xd dk_N_give 169 rfl) rfl rfl ?_
      refine x_dup hc (xd dk_N_give 170 rfl) rfl ?_
      refine x_get hc (ci := 10) (k := 6) fi_N (c_N hb _) rfl (by decide) rfl xw1149 rfl (xd dk_N_give 171 rfl) ?_
      refine x_iconst hc (v := 1) (xd dk_N_give 172 rfl) (by decide) ?_
      refine x_iadd hc (xd dk_N_give 173 rfl) ?_
      obtain ⟨x43, hx43, hf⟩ := xval_ex hf
      rw [← hx43]
      refine x_put hc (ci := 10) (k := 6) fi_N ft_N ft_N_ok fn_N (c_N hb _) rfl (by decide) rfl xw1149 rfl rfl rfl (Nat.le_of_ble_eq_true rfl) (xd dk_N_give 174 rfl) ?_
      rw [w_N_6 hb]
      replace hf := xlet_some hf
      generalize wI M b 6 x43 = M at hf ⊢
      refine x_aload_n hc (xd dk_N_give 175 rfl) rfl rfl ?_
      refine x_get hc (ci := 10) (k := 6) fi_N (c_N hb _) rfl (by decide) rfl xw1149 rfl (xd dk_N_give 176 rfl) ?_
      cases hf
      exact x_ireturn hc (xd dk_N_give 177 rfl)
    · rw [if_neg q40] at hf
      refine x_aload_n hc (xd dk_N_give 149 rfl) rfl rfl ?_
      refine x_get hc (ci := 10) (k := 14) fi_N (c_N hb _) rfl (by decide) rfl xw1157 rfl (xd dk_N_give 150 rfl) ?_
      refine x_bipush hc (v := 8) (xd dk_N_give 151 rfl) (by decide) ?_
      refine x_aload_n hc (xd dk_N_give 152 rfl) rfl rfl ?_
      refine x_get hc (ci := 10) (k := 6) fi_N (c_N hb _) rfl (by decide) rfl xw1149 rfl (xd dk_N_give 153 rfl) ?_
      refine x_imul hc (xd dk_N_give 154 rfl) ?_
      refine x_iload hc (xd dk_N_give 155 rfl) rfl ?_
      refine x_iadd hc (xd dk_N_give 156 rfl) ?_
      refine x_lload_n hc (xd dk_N_give 157 rfl) rfl rfl ?_
      refine x_iload hc (xd dk_N_give 158 rfl) rfl ?_
      obtain ⟨x44, hx44, hf⟩ := xval_ex hf
      rw [← hx44]
      obtain ⟨r45, M, e46, hf⟩ := xbind_some hf
      refine x_callS hc (As := [.long (p1), .int v8]) (n := 2) (s_N_octet e46) (hR.call (by decide) (by decide)) ⟨by decide, by decide, by decide⟩ rfl rfl xw1352 xw18 xw1350 xw1351 (Nat.le_of_ble_eq_true rfl) ⟨Nat.zero_le _, Nat.zero_le _⟩ (xd dk_N_give 159 rfl) ?_
      by_cases q47 : xin x44 64 = true
      case neg => rw [if_neg q47] at hf; cases hf
      rw [if_pos q47] at hf
      refine x_iast hc (cA (xMd.ar hb 5 (by decide) rfl)) (xin_in q47) (xd dk_N_give 160 rfl) ?_
      rw [wA (xMd.ar hb 5 (by decide) rfl)]
      replace hf := xlet_some hf
      generalize wI M (b + 5) x44.toNatClampNeg r45 = M at hf ⊢
      refine x_iinc hc (xd dk_N_give 161 rfl) rfl (by decide) rfl ?_
      refine x_goto hc (tgt := 283) (xd dk_N_give 162 rfl) rfl ?_
      exact ih v3 v4 v5 v6 v7 (v8 + Int32.ofInt 1) M hf
set_option maxRecDepth 100000 in
set_option maxHeartbeats 400000 in
theorem s_N_give_271 {p : Program} {l : Launch} {e : Env} {R : Room} {s : State} {m : MethodId} {args : Array Value} {below : List Frame} {meth : Method} {c : Code} {G : xG} {Y : xY} {sz : Nat} {b : Nat} {p1 : Int64}  (hc : xC p s m args meth c G 9 c_N_give y_N_give.cls (some .int)) (hR : xRm R 2) (hb : xMd Y b) {M' : xMem} {r : Int32} (v3 : Int32) (v4 : Int32) (v5 : Int32) (v6 : Int32) (v7 : Int32) (v8 : Int32) (w1 : Int32) (M : xMem) (hf : f_N_give_271 b p1 v3 v4 v5 v6 v7 v8 w1 M = some (r, M')) : xW p l e R s m args below meth c G 9 (MQ below (xQc G (some (.int r)) (xo G Y M') sz) args s 0 0 (xA G)) (xo G Y M) sz 0 0 271 [some (.ref b), some (.long (p1)), none, some (.int v3), some (.int v4), some (.int v5), some (.int v6), some (.int v7), some (.int v8)] [.int w1, .ref b] := by
  unfold f_N_give_271 at hf
  refine x_iconst hc (v := 3) (xd dk_N_give 139 rfl) (by decide) ?_
  obtain ⟨r48, M, e49, hf⟩ := xbind_some hf
  refine x_callV hc (As := [.int w1, .int 3]) (n := 2) (s_N_fails hb e49) (c_N hb _) rfl (hR.call (by decide) (by decide)) ⟨by decide, by decide, by decide⟩ rfl rfl xw1357 xw18 xw1354 xw1356 xs_N_fails (Nat.le_of_ble_eq_true rfl) ⟨Nat.zero_le _, Nat.zero_le _⟩ (xd dk_N_give 140 rfl) ?_
  refine x_if_eq hc (tgt := 280) (xd dk_N_give 141 rfl) rfl (fun q50 => ?_) (fun q50 => ?_)
  · rw [if_pos q50] at hf
    refine x_iconst hc (v := 0) (xd dk_N_give 144 rfl) (by decide) ?_
    refine x_istore hc (xd dk_N_give 145 rfl) (by decide) rfl ?_
    exact s_N_give_283 hc hR hb xFuel v3 v4 v5 v6 v7 0 M hf
  · rw [if_neg q50] at hf
    refine x_iconst hc (v := 0) (xd dk_N_give 142 rfl) (by decide) ?_
    cases hf
    exact x_ireturn hc (xd dk_N_give 143 rfl)
set_option maxRecDepth 100000 in
set_option maxHeartbeats 400000 in
theorem s_N_give_209 {p : Program} {l : Launch} {e : Env} {R : Room} {s : State} {m : MethodId} {args : Array Value} {below : List Frame} {meth : Method} {c : Code} {G : xG} {Y : xY} {sz : Nat} {b : Nat} {p1 : Int64}  (hc : xC p s m args meth c G 9 c_N_give y_N_give.cls (some .int)) (hR : xRm R 2) (hb : xMd Y b) {M' : xMem} {r : Int32} : ∀ (n : Nat) (v3 : Int32) (v4 : Int32) (v5 : Int32) (v6 : Int32) (v7 : Int32) (v8 : Int32) (M : xMem), f_N_give_209 b p1 n v3 v4 v5 v6 v7 v8 M = some (r, M') → xW p l e R s m args below meth c G 9 (MQ below (xQc G (some (.int r)) (xo G Y M') sz) args s 0 0 (xA G)) (xo G Y M) sz 0 0 209 [some (.ref b), some (.long (p1)), none, some (.int v3), some (.int v4), some (.int v5), some (.int v6), some (.int v7), some (.int v8)] [] := by
  intro n
  induction n with
  | zero => intro v3 v4 v5 v6 v7 v8 M hf; simp only [f_N_give_209] at hf; cases hf
  | succ n ih =>
    intro v3 v4 v5 v6 v7 v8 M hf
    simp only [f_N_give_209] at hf
    refine x_iload hc (xd dk_N_give 108 rfl) rfl ?_
    refine x_iload hc (xd dk_N_give 109 rfl) rfl ?_
    refine x_icmp_ge hc (tgt := 236) (xd dk_N_give 110 rfl) rfl (fun q51 => ?_) (fun q51 => ?_)
    · rw [if_pos q51] at hf
      refine x_aload_n hc (xd dk_N_give 121 rfl) rfl rfl ?_
      refine x_iload hc (xd dk_N_give 122 rfl) rfl ?_
      refine x_iconst hc (v := 1) (xd dk_N_give 123 rfl) (by decide) ?_
      obtain ⟨r52, M, e53, hf⟩ := xbind_some hf
      refine x_callV hc (As := [.int v6, .int 1]) (n := 2) (s_N_fails hb e53) (c_N hb _) rfl (hR.call (by decide) (by decide)) ⟨by decide, by decide, by decide⟩ rfl rfl xw1357 xw18 xw1354 xw1356 xs_N_fails (Nat.le_of_ble_eq_true rfl) ⟨Nat.zero_le _, Nat.zero_le _⟩ (xd dk_N_give 124 rfl) ?_
      refine x_if_ne hc (tgt := 278) (xd dk_N_give 125 rfl) rfl (fun q54 => ?_) (fun q54 => ?_)
      · rw [if_neg q54] at hf
        refine x_iconst hc (v := 0) (xd dk_N_give 142 rfl) (by decide) ?_
        cases hf
        exact x_ireturn hc (xd dk_N_give 143 rfl)
      · rw [if_pos q54] at hf
        refine x_aload_n hc (xd dk_N_give 126 rfl) rfl rfl ?_
        refine x_iload hc (xd dk_N_give 127 rfl) rfl ?_
        refine x_iconst hc (v := 2) (xd dk_N_give 128 rfl) (by decide) ?_
        obtain ⟨r55, M, e56, hf⟩ := xbind_some hf
        refine x_callV hc (As := [.int v7, .int 2]) (n := 2) (s_N_fails hb e56) (c_N hb _) rfl (hR.call (by decide) (by decide)) ⟨by decide, by decide, by decide⟩ rfl rfl xw1357 xw18 xw1354 xw1356 xs_N_fails (Nat.le_of_ble_eq_true rfl) ⟨Nat.zero_le _, Nat.zero_le _⟩ (xd dk_N_give 129 rfl) ?_
        refine x_if_ne hc (tgt := 278) (xd dk_N_give 130 rfl) rfl (fun q57 => ?_) (fun q57 => ?_)
        · rw [if_neg q57] at hf
          refine x_iconst hc (v := 0) (xd dk_N_give 142 rfl) (by decide) ?_
          cases hf
          exact x_ireturn hc (xd dk_N_give 143 rfl)
        · rw [if_pos q57] at hf
          refine x_aload_n hc (xd dk_N_give 131 rfl) rfl rfl ?_
          refine x_aload_n hc (xd dk_N_give 132 rfl) rfl rfl ?_
          refine x_get hc (ci := 10) (k := 6) fi_N (c_N hb _) rfl (by decide) rfl xw1149 rfl (xd dk_N_give 133 rfl) ?_
          refine x_bipush hc (v := 8) (xd dk_N_give 134 rfl) (by decide) ?_
          refine x_icmp_ne hc (tgt := 270) (xd dk_N_give 135 rfl) rfl (fun q58 => ?_) (fun q58 => ?_)
          · rw [if_neg q58] at hf
            refine x_iconst hc (v := 0) (xd dk_N_give 138 rfl) (by decide) ?_
            exact s_N_give_271 hc hR hb v3 v4 v5 v6 v7 v8 0 M hf
          · rw [if_pos q58] at hf
            refine x_iconst hc (v := 1) (xd dk_N_give 136 rfl) (by decide) ?_
            refine x_goto hc (tgt := 271) (xd dk_N_give 137 rfl) rfl ?_
            exact s_N_give_271 hc hR hb v3 v4 v5 v6 v7 v8 1 M hf
    · rw [if_neg q51] at hf
      refine x_aload_n hc (xd dk_N_give 111 rfl) rfl rfl ?_
      refine x_get hc (ci := 10) (k := 11) fi_N (c_N hb _) rfl (by decide) rfl xw1154 rfl (xd dk_N_give 112 rfl) ?_
      refine x_iload hc (xd dk_N_give 113 rfl) rfl ?_
      refine x_aload_n hc (xd dk_N_give 114 rfl) rfl rfl ?_
      refine x_get hc (ci := 10) (k := 12) fi_N (c_N hb _) rfl (by decide) rfl xw1155 rfl (xd dk_N_give 115 rfl) ?_
      refine x_iload hc (xd dk_N_give 116 rfl) rfl ?_
      by_cases q59 : xin v8 160 = true
      case neg => rw [if_neg q59] at hf; cases hf
      rw [if_pos q59] at hf
      refine x_iald hc (cA (xMd.ar hb 3 (by decide) rfl)) (xin_in q59) (xd dk_N_give 117 rfl) ?_
      obtain ⟨x60, hx60, hf⟩ := xval_ex hf
      rw [← hx60]
      by_cases q61 : xin v8 160 = true
      case neg => rw [if_neg q61] at hf; cases hf
      rw [if_pos q61] at hf
      refine x_iast hc (cA (xMd.ar hb 2 (by decide) rfl)) (xin_in q61) (xd dk_N_give 118 rfl) ?_
      rw [wA (xMd.ar hb 2 (by decide) rfl)]
      replace hf := xlet_some hf
      generalize wI M (b + 2) v8.toNatClampNeg x60 = M at hf ⊢
      refine x_iinc hc (xd dk_N_give 119 rfl) rfl (by decide) rfl ?_
      refine x_goto hc (tgt := 209) (xd dk_N_give 120 rfl) rfl ?_
      exact ih v3 v4 v5 v6 v7 (v8 + Int32.ofInt 1) M hf
set_option maxRecDepth 100000 in
set_option maxHeartbeats 400000 in
theorem s_N_give_196 {p : Program} {l : Launch} {e : Env} {R : Room} {s : State} {m : MethodId} {args : Array Value} {below : List Frame} {meth : Method} {c : Code} {G : xG} {Y : xY} {sz : Nat} {b : Nat} {p1 : Int64}  (hc : xC p s m args meth c G 9 c_N_give y_N_give.cls (some .int)) (hR : xRm R 2) (hb : xMd Y b) {M' : xMem} {r : Int32} (v3 : Int32) (v4 : Int32) (v5 : Int32) (v6 : Int32) (w0 : Int32) (M : xMem) (hf : f_N_give_196 b p1 v3 v4 v5 v6 w0 M = some (r, M')) : xW p l e R s m args below meth c G 9 (MQ below (xQc G (some (.int r)) (xo G Y M') sz) args s 0 0 (xA G)) (xo G Y M) sz 0 0 196 [some (.ref b), some (.long (p1)), none, some (.int v3), some (.int v4), some (.int v5), some (.int v6), none, none] [.int w0] := by
  unfold f_N_give_196 at hf
  refine x_istore hc (xd dk_N_give 101 rfl) (by decide) rfl ?_
  refine x_aload_n hc (xd dk_N_give 102 rfl) rfl rfl ?_
  refine x_bipush hc (v := 62) (xd dk_N_give 103 rfl) (by decide) ?_
  obtain ⟨r62, M, e63, hf⟩ := xbind_some hf
  refine x_callV hc (As := [.int 62]) (n := 1) (s_N_isGiven hb e63) (c_N hb _) rfl (hR.call (by decide) (by decide)) ⟨by decide, by decide, by decide⟩ rfl rfl xw1373 xw18 xw1370 xw1372 xs_N_isGiven (Nat.le_of_ble_eq_true rfl) ⟨Nat.zero_le _, Nat.zero_le _⟩ (xd dk_N_give 104 rfl) ?_
  refine x_istore hc (xd dk_N_give 105 rfl) (by decide) rfl ?_
  refine x_iconst hc (v := 0) (xd dk_N_give 106 rfl) (by decide) ?_
  refine x_istore hc (xd dk_N_give 107 rfl) (by decide) rfl ?_
  exact s_N_give_209 hc hR hb xFuel v3 v4 v5 w0 r62 0 M hf
set_option maxRecDepth 100000 in
set_option maxHeartbeats 400000 in
theorem s_N_give_140 {p : Program} {l : Launch} {e : Env} {R : Room} {s : State} {m : MethodId} {args : Array Value} {below : List Frame} {meth : Method} {c : Code} {G : xG} {Y : xY} {sz : Nat} {b : Nat} {p1 : Int64}  (hc : xC p s m args meth c G 9 c_N_give y_N_give.cls (some .int)) (hR : xRm R 2) (hb : xMd Y b) {M' : xMem} {r : Int32} : ∀ (n : Nat) (v3 : Int32) (v4 : Int32) (v5 : Int32) (v6 : Int32) (M : xMem), f_N_give_140 b p1 n v3 v4 v5 v6 M = some (r, M') → xW p l e R s m args below meth c G 9 (MQ below (xQc G (some (.int r)) (xo G Y M') sz) args s 0 0 (xA G)) (xo G Y M) sz 0 0 140 [some (.ref b), some (.long (p1)), none, some (.int v3), some (.int v4), some (.int v5), some (.int v6), none, none] [] := by
  intro n
  induction n with
  | zero => intro v3 v4 v5 v6 M hf; simp only [f_N_give_140] at hf; cases hf
  | succ n ih =>
    intro v3 v4 v5 v6 M hf
    simp only [f_N_give_140] at hf
    refine x_iload hc (xd dk_N_give 71 rfl) rfl ?_
    refine x_iload_n hc (xd dk_N_give 72 rfl) rfl rfl ?_
    refine x_icmp_ge hc (tgt := 165) (xd dk_N_give 73 rfl) rfl (fun q64 => ?_) (fun q64 => ?_)
    · rw [if_pos q64] at hf
      refine x_aload_n hc (xd dk_N_give 83 rfl) rfl rfl ?_
      refine x_get hc (ci := 10) (k := 18) fi_N (c_N hb _) rfl (by decide) rfl xw1161 rfl (xd dk_N_give 84 rfl) ?_
      refine x_bipush hc (v := 62) (xd dk_N_give 85 rfl) (by decide) ?_
      refine x_iconst hc (v := 0) (xd dk_N_give 86 rfl) (by decide) ?_
      by_cases q65 : xin 62 64 = true
      case neg => rw [if_neg q65] at hf; cases hf
      rw [if_pos q65] at hf
      refine x_iast hc (cA (xMd.ar hb 9 (by decide) rfl)) (xin_in q65) (xd dk_N_give 87 rfl) ?_
      rw [wA (xMd.ar hb 9 (by decide) rfl)]
      replace hf := xlet_some hf
      generalize wI M (b + 9) (62 : Int32).toNatClampNeg 0 = M at hf ⊢
      refine x_aload_n hc (xd dk_N_give 88 rfl) rfl rfl ?_
      refine x_get hc (ci := 10) (k := 19) fi_N (c_N hb _) rfl (by decide) rfl xw1162 rfl (xd dk_N_give 89 rfl) ?_
      refine x_bipush hc (v := 62) (xd dk_N_give 90 rfl) (by decide) ?_
      refine x_iload_n hc (xd dk_N_give 91 rfl) rfl rfl ?_
      by_cases q66 : xin 62 64 = true
      case neg => rw [if_neg q66] at hf; cases hf
      rw [if_pos q66] at hf
      refine x_iast hc (cA (xMd.ar hb 10 (by decide) rfl)) (xin_in q66) (xd dk_N_give 92 rfl) ?_
      rw [wA (xMd.ar hb 10 (by decide) rfl)]
      replace hf := xlet_some hf
      generalize wI M (b + 10) (62 : Int32).toNatClampNeg v3 = M at hf ⊢
      refine x_aload_n hc (xd dk_N_give 93 rfl) rfl rfl ?_
      refine x_bipush hc (v := 62) (xd dk_N_give 94 rfl) (by decide) ?_
      obtain ⟨r67, M, e68, hf⟩ := xbind_some hf
      refine x_callV hc (As := [.int 62]) (n := 1) (s_N_word hb e68) (c_N hb _) rfl (hR.call (by decide) (by decide)) ⟨by decide, by decide, by decide⟩ rfl rfl xw1054 xw18 xw1051 xw1053 xs_N_word (Nat.le_of_ble_eq_true rfl) ⟨Nat.zero_le _, Nat.zero_le _⟩ (xd dk_N_give 95 rfl) ?_
      refine x_iconst hc (v := 1) (xd dk_N_give 96 rfl) (by decide) ?_
      refine x_icmp_eq hc (tgt := 195) (xd dk_N_give 97 rfl) rfl (fun q69 => ?_) (fun q69 => ?_)
      · rw [if_pos q69] at hf
        refine x_iconst hc (v := 0) (xd dk_N_give 100 rfl) (by decide) ?_
        exact s_N_give_196 hc hR hb v3 v4 v5 v6 0 M hf
      · rw [if_neg q69] at hf
        refine x_iconst hc (v := 1) (xd dk_N_give 98 rfl) (by decide) ?_
        refine x_goto hc (tgt := 196) (xd dk_N_give 99 rfl) rfl ?_
        exact s_N_give_196 hc hR hb v3 v4 v5 v6 1 M hf
    · rw [if_neg q64] at hf
      refine x_aload_n hc (xd dk_N_give 74 rfl) rfl rfl ?_
      refine x_get hc (ci := 10) (k := 11) fi_N (c_N hb _) rfl (by decide) rfl xw1154 rfl (xd dk_N_give 75 rfl) ?_
      refine x_iload hc (xd dk_N_give 76 rfl) rfl ?_
      refine x_lload_n hc (xd dk_N_give 77 rfl) rfl rfl ?_
      refine x_iload hc (xd dk_N_give 78 rfl) rfl ?_
      obtain ⟨r70, M, e71, hf⟩ := xbind_some hf
      refine x_callS hc (As := [.long (p1), .int v6]) (n := 2) (s_N_octet e71) (hR.call (by decide) (by decide)) ⟨by decide, by decide, by decide⟩ rfl rfl xw1352 xw18 xw1350 xw1351 (Nat.le_of_ble_eq_true rfl) ⟨Nat.zero_le _, Nat.zero_le _⟩ (xd dk_N_give 79 rfl) ?_
      by_cases q72 : xin v6 160 = true
      case neg => rw [if_neg q72] at hf; cases hf
      rw [if_pos q72] at hf
      refine x_iast hc (cA (xMd.ar hb 2 (by decide) rfl)) (xin_in q72) (xd dk_N_give 80 rfl) ?_
      rw [wA (xMd.ar hb 2 (by decide) rfl)]
      replace hf := xlet_some hf
      generalize wI M (b + 2) v6.toNatClampNeg r70 = M at hf ⊢
      refine x_iinc hc (xd dk_N_give 81 rfl) rfl (by decide) rfl ?_
      refine x_goto hc (tgt := 140) (xd dk_N_give 82 rfl) rfl ?_
      exact ih v3 v4 v5 (v6 + Int32.ofInt 1) M hf
set_option maxRecDepth 100000 in
set_option maxHeartbeats 400000 in
theorem s_N_give_110 {p : Program} {l : Launch} {e : Env} {R : Room} {s : State} {m : MethodId} {args : Array Value} {below : List Frame} {meth : Method} {c : Code} {G : xG} {Y : xY} {sz : Nat} {b : Nat} {p1 : Int64}  (hc : xC p s m args meth c G 9 c_N_give y_N_give.cls (some .int)) (hR : xRm R 2) (hb : xMd Y b) {M' : xMem} {r : Int32} : ∀ (n : Nat) (v3 : Int32) (v4 : Int32) (v5 : Int32) (v6 : Int32) (M : xMem), f_N_give_110 b p1 n v3 v4 v5 v6 M = some (r, M') → xW p l e R s m args below meth c G 9 (MQ below (xQc G (some (.int r)) (xo G Y M') sz) args s 0 0 (xA G)) (xo G Y M) sz 0 0 110 [some (.ref b), some (.long (p1)), none, some (.int v3), some (.int v4), some (.int v5), some (.int v6), none, none] [] := by
  intro n
  induction n with
  | zero => intro v3 v4 v5 v6 M hf; simp only [f_N_give_110] at hf; cases hf
  | succ n ih =>
    intro v3 v4 v5 v6 M hf
    simp only [f_N_give_110] at hf
    refine x_iload hc (xd dk_N_give 56 rfl) rfl ?_
    refine x_iload hc (xd dk_N_give 57 rfl) rfl ?_
    refine x_icmp_ge hc (tgt := 137) (xd dk_N_give 58 rfl) rfl (fun q73 => ?_) (fun q73 => ?_)
    · rw [if_pos q73] at hf
      refine x_iconst hc (v := 0) (xd dk_N_give 69 rfl) (by decide) ?_
      refine x_istore hc (xd dk_N_give 70 rfl) (by decide) rfl ?_
      exact s_N_give_140 hc hR hb xFuel v3 v4 v5 0 M hf
    · rw [if_neg q73] at hf
      refine x_aload_n hc (xd dk_N_give 59 rfl) rfl rfl ?_
      refine x_get hc (ci := 10) (k := 12) fi_N (c_N hb _) rfl (by decide) rfl xw1155 rfl (xd dk_N_give 60 rfl) ?_
      refine x_iload hc (xd dk_N_give 61 rfl) rfl ?_
      refine x_aload_n hc (xd dk_N_give 62 rfl) rfl rfl ?_
      refine x_get hc (ci := 10) (k := 11) fi_N (c_N hb _) rfl (by decide) rfl xw1154 rfl (xd dk_N_give 63 rfl) ?_
      refine x_iload hc (xd dk_N_give 64 rfl) rfl ?_
      by_cases q74 : xin v6 160 = true
      case neg => rw [if_neg q74] at hf; cases hf
      rw [if_pos q74] at hf
      refine x_iald hc (cA (xMd.ar hb 2 (by decide) rfl)) (xin_in q74) (xd dk_N_give 65 rfl) ?_
      obtain ⟨x75, hx75, hf⟩ := xval_ex hf
      rw [← hx75]
      by_cases q76 : xin v6 160 = true
      case neg => rw [if_neg q76] at hf; cases hf
      rw [if_pos q76] at hf
      refine x_iast hc (cA (xMd.ar hb 3 (by decide) rfl)) (xin_in q76) (xd dk_N_give 66 rfl) ?_
      rw [wA (xMd.ar hb 3 (by decide) rfl)]
      replace hf := xlet_some hf
      generalize wI M (b + 3) v6.toNatClampNeg x75 = M at hf ⊢
      refine x_iinc hc (xd dk_N_give 67 rfl) rfl (by decide) rfl ?_
      refine x_goto hc (tgt := 110) (xd dk_N_give 68 rfl) rfl ?_
      exact ih v3 v4 v5 (v6 + Int32.ofInt 1) M hf
set_option maxRecDepth 100000 in
set_option maxHeartbeats 400000 in
theorem s_N_give_92 {p : Program} {l : Launch} {e : Env} {R : Room} {s : State} {m : MethodId} {args : Array Value} {below : List Frame} {meth : Method} {c : Code} {G : xG} {Y : xY} {sz : Nat} {b : Nat} {p1 : Int64}  (hc : xC p s m args meth c G 9 c_N_give y_N_give.cls (some .int)) (hR : xRm R 2) (hb : xMd Y b) {M' : xMem} {r : Int32} (v3 : Int32) (v4 : Int32) (v5 : Int32) (w1 : Int32) (M : xMem) (hf : f_N_give_92 b p1 v3 v4 v5 w1 M = some (r, M')) : xW p l e R s m args below meth c G 9 (MQ below (xQc G (some (.int r)) (xo G Y M') sz) args s 0 0 (xA G)) (xo G Y M) sz 0 0 92 [some (.ref b), some (.long (p1)), none, some (.int v3), some (.int v4), some (.int v5), none, none, none] [.int w1, .ref b] := by
  unfold f_N_give_92 at hf
  refine x_iconst hc (v := 1) (xd dk_N_give 46 rfl) (by decide) ?_
  obtain ⟨r77, M, e78, hf⟩ := xbind_some hf
  refine x_callV hc (As := [.int w1, .int 1]) (n := 2) (s_N_fails hb e78) (c_N hb _) rfl (hR.call (by decide) (by decide)) ⟨by decide, by decide, by decide⟩ rfl rfl xw1357 xw18 xw1354 xw1356 xs_N_fails (Nat.le_of_ble_eq_true rfl) ⟨Nat.zero_le _, Nat.zero_le _⟩ (xd dk_N_give 47 rfl) ?_
  refine x_if_eq hc (tgt := 101) (xd dk_N_give 48 rfl) rfl (fun q79 => ?_) (fun q79 => ?_)
  · rw [if_pos q79] at hf
    refine x_aload_n hc (xd dk_N_give 51 rfl) rfl rfl ?_
    refine x_get hc (ci := 10) (k := 2) fi_N (c_N hb _) rfl (by decide) rfl xw1145 rfl (xd dk_N_give 52 rfl) ?_
    refine x_istore hc (xd dk_N_give 53 rfl) (by decide) rfl ?_
    refine x_iconst hc (v := 0) (xd dk_N_give 54 rfl) (by decide) ?_
    refine x_istore hc (xd dk_N_give 55 rfl) (by decide) rfl ?_
    exact s_N_give_110 hc hR hb xFuel v3 v4 (M.1 b 2) 0 M hf
  · rw [if_neg q79] at hf
    refine x_iconst hc (v := 0) (xd dk_N_give 49 rfl) (by decide) ?_
    cases hf
    exact x_ireturn hc (xd dk_N_give 50 rfl)
set_option maxRecDepth 100000 in
set_option maxHeartbeats 400000 in
theorem s_N_give_35 {p : Program} {l : Launch} {e : Env} {R : Room} {s : State} {m : MethodId} {args : Array Value} {below : List Frame} {meth : Method} {c : Code} {G : xG} {Y : xY} {sz : Nat} {b : Nat} {p1 : Int64}  (hc : xC p s m args meth c G 9 c_N_give y_N_give.cls (some .int)) (hR : xRm R 2) (hb : xMd Y b) {M' : xMem} {r : Int32} : ∀ (n : Nat) (v3 : Int32) (v4 : Int32) (v5 : Int32) (M : xMem), f_N_give_35 b p1 n v3 v4 v5 M = some (r, M') → xW p l e R s m args below meth c G 9 (MQ below (xQc G (some (.int r)) (xo G Y M') sz) args s 0 0 (xA G)) (xo G Y M) sz 0 0 35 [some (.ref b), some (.long (p1)), none, some (.int v3), some (.int v4), some (.int v5), none, none, none] [] := by
  intro n
  induction n with
  | zero => intro v3 v4 v5 M hf; simp only [f_N_give_35] at hf; cases hf
  | succ n ih =>
    intro v3 v4 v5 M hf
    simp only [f_N_give_35] at hf
    refine x_iload hc (xd dk_N_give 19 rfl) rfl ?_
    refine x_iload_n hc (xd dk_N_give 20 rfl) rfl rfl ?_
    refine x_icmp_ge hc (tgt := 81) (xd dk_N_give 21 rfl) rfl (fun q80 => ?_) (fun q80 => ?_)
    · rw [if_pos q80] at hf
      refine x_aload_n hc (xd dk_N_give 40 rfl) rfl rfl ?_
      refine x_iload hc (xd dk_N_give 41 rfl) rfl ?_
      refine x_if_ne hc (tgt := 91) (xd dk_N_give 42 rfl) rfl (fun q81 => ?_) (fun q81 => ?_)
      · rw [if_neg q81] at hf
        refine x_iconst hc (v := 0) (xd dk_N_give 45 rfl) (by decide) ?_
        exact s_N_give_92 hc hR hb v3 v4 v5 0 M hf
      · rw [if_pos q81] at hf
        refine x_iconst hc (v := 1) (xd dk_N_give 43 rfl) (by decide) ?_
        refine x_goto hc (tgt := 92) (xd dk_N_give 44 rfl) rfl ?_
        exact s_N_give_92 hc hR hb v3 v4 v5 1 M hf
    · rw [if_neg q80] at hf
      refine x_iload hc (xd dk_N_give 22 rfl) rfl ?_
      refine x_lload_n hc (xd dk_N_give 23 rfl) rfl rfl ?_
      refine x_iload hc (xd dk_N_give 24 rfl) rfl ?_
      obtain ⟨r82, M, e83, hf⟩ := xbind_some hf
      refine x_callS hc (As := [.long (p1), .int v5]) (n := 2) (s_N_octet e83) (hR.call (by decide) (by decide)) ⟨by decide, by decide, by decide⟩ rfl rfl xw1352 xw18 xw1350 xw1351 (Nat.le_of_ble_eq_true rfl) ⟨Nat.zero_le _, Nat.zero_le _⟩ (xd dk_N_give 25 rfl) ?_
      obtain ⟨r84, M, e85, hf⟩ := xbind_some hf
      refine x_callS hc (As := [.int r82]) (n := 1) (s_N_isLetter e85) (hR.call (by decide) (by decide)) ⟨by decide, by decide, by decide⟩ rfl rfl xw1040 xw18 xw1038 xw1039 (Nat.le_of_ble_eq_true rfl) ⟨Nat.zero_le _, Nat.zero_le _⟩ (xd dk_N_give 26 rfl) ?_
      refine x_if_ne hc (tgt := 67) (xd dk_N_give 27 rfl) rfl (fun q86 => ?_) (fun q86 => ?_)
      · rw [if_neg q86] at hf
        exact s_N_give_67 hc hR hb ih v3 v4 v5 v4 M hf
      · rw [if_pos q86] at hf
        refine x_lload_n hc (xd dk_N_give 28 rfl) rfl rfl ?_
        refine x_iload hc (xd dk_N_give 29 rfl) rfl ?_
        obtain ⟨r87, M, e88, hf⟩ := xbind_some hf
        refine x_callS hc (As := [.long (p1), .int v5]) (n := 2) (s_N_octet e88) (hR.call (by decide) (by decide)) ⟨by decide, by decide, by decide⟩ rfl rfl xw1352 xw18 xw1350 xw1351 (Nat.le_of_ble_eq_true rfl) ⟨Nat.zero_le _, Nat.zero_le _⟩ (xd dk_N_give 30 rfl) ?_
        obtain ⟨r89, M, e90, hf⟩ := xbind_some hf
        refine x_callS hc (As := [.int r87]) (n := 1) (s_N_isDigit e90) (hR.call (by decide) (by decide)) ⟨by decide, by decide, by decide⟩ rfl rfl xw1050 xw18 xw1048 xw1049 (Nat.le_of_ble_eq_true rfl) ⟨Nat.zero_le _, Nat.zero_le _⟩ (xd dk_N_give 31 rfl) ?_
        refine x_if_eq hc (tgt := 71) (xd dk_N_give 32 rfl) rfl (fun q91 => ?_) (fun q91 => ?_)
        · rw [if_pos q91] at hf
          refine x_iconst hc (v := 0) (xd dk_N_give 35 rfl) (by decide) ?_
          exact s_N_give_72 hc hR hb ih v3 v4 v5 v4 0 M hf
        · rw [if_neg q91] at hf
          exact s_N_give_67 hc hR hb ih v3 v4 v5 v4 M hf
set_option maxRecDepth 100000 in
set_option maxHeartbeats 400000 in
theorem s_N_give_30 {p : Program} {l : Launch} {e : Env} {R : Room} {s : State} {m : MethodId} {args : Array Value} {below : List Frame} {meth : Method} {c : Code} {G : xG} {Y : xY} {sz : Nat} {b : Nat} {p1 : Int64}  (hc : xC p s m args meth c G 9 c_N_give y_N_give.cls (some .int)) (hR : xRm R 2) (hb : xMd Y b) {M' : xMem} {r : Int32} (v3 : Int32) (w0 : Int32) (M : xMem) (hf : f_N_give_30 b p1 v3 w0 M = some (r, M')) : xW p l e R s m args below meth c G 9 (MQ below (xQc G (some (.int r)) (xo G Y M') sz) args s 0 0 (xA G)) (xo G Y M) sz 0 0 30 [some (.ref b), some (.long (p1)), none, some (.int v3), none, none, none, none, none] [.int w0] := by
  unfold f_N_give_30 at hf
  refine x_istore hc (xd dk_N_give 16 rfl) (by decide) rfl ?_
  refine x_iconst hc (v := 0) (xd dk_N_give 17 rfl) (by decide) ?_
  refine x_istore hc (xd dk_N_give 18 rfl) (by decide) rfl ?_
  exact s_N_give_35 hc hR hb xFuel v3 w0 0 M hf
set_option maxRecDepth 100000 in
set_option maxHeartbeats 400000 in
theorem s_N_give_29 {p : Program} {l : Launch} {e : Env} {R : Room} {s : State} {m : MethodId} {args : Array Value} {below : List Frame} {meth : Method} {c : Code} {G : xG} {Y : xY} {sz : Nat} {b : Nat} {p1 : Int64}  (hc : xC p s m args meth c G 9 c_N_give y_N_give.cls (some .int)) (hR : xRm R 2) (hb : xMd Y b) {M' : xMem} {r : Int32} (v3 : Int32) (M : xMem) (hf : f_N_give_29 b p1 v3 M = some (r, M')) : xW p l e R s m args below meth c G 9 (MQ below (xQc G (some (.int r)) (xo G Y M') sz) args s 0 0 (xA G)) (xo G Y M) sz 0 0 29 [some (.ref b), some (.long (p1)), none, some (.int v3), none, none, none, none, none] [] := by
  unfold f_N_give_29 at hf
  refine x_iconst hc (v := 0) (xd dk_N_give 15 rfl) (by decide) ?_
  exact s_N_give_30 hc hR hb v3 0 M hf
set_option maxRecDepth 100000 in
set_option maxHeartbeats 400000 in
theorem s_N_give {l : Launch} {G : xG} {Y : xY} {sz : Nat} {b : Nat} {p1 : Int64}  (hb : xMd Y b) {M M' : xMem} {r : Int32} (hf : f_N_give b p1 M = some (r, M')) : xM l G y_N_give c_N_give 9 (some .int) 2 0 0 [.ref b, .long (p1)] (xo G Y M) sz (some (.int r)) (xo G Y M') sz := by
  unfold f_N_give at hf
  refine xM.of (k := 6) (L0 := [some (.ref b), some (.long (p1)), none, none, none, none, none, none, none]) (by decide) (Nat.le_of_ble_eq_true rfl) rfl ?_
  intro p e s m args below meth c hc hnm
  have hR : xRm { frames := 2, cells := 0, slots := 0, locals := 48 * 2 } 2 := ⟨Nat.le_refl _, Nat.le_refl _⟩
  refine x_aload_n hc (xd dk_N_give 0 rfl) rfl rfl ?_
  refine x_iconst hc (v := 0) (xd dk_N_give 1 rfl) (by decide) ?_
  refine x_put hc (ci := 10) (k := 0) fi_N ft_N ft_N_ok fn_N (c_N hb _) rfl (by decide) rfl xw1143 rfl rfl rfl (Nat.le_of_ble_eq_true rfl) (xd dk_N_give 2 rfl) ?_
  rw [w_N_0 hb]
  replace hf := xlet_some hf
  generalize wI M b 0 0 = M at hf ⊢
  refine x_lload_n hc (xd dk_N_give 3 rfl) rfl rfl ?_
  obtain ⟨r92, M, e93, hf⟩ := xbind_some hf
  refine x_callS hc (As := [.long (p1)]) (n := 1) (s_N_sizeOf e93) (hR.call (by decide) (by decide)) ⟨by decide, by decide, by decide⟩ rfl rfl xw1349 xw18 xw1347 xw1348 (Nat.le_of_ble_eq_true rfl) ⟨Nat.zero_le _, Nat.zero_le _⟩ (xd dk_N_give 4 rfl) ?_
  refine x_istore_n hc (xd dk_N_give 5 rfl) (by decide) rfl ?_
  refine x_iload_n hc (xd dk_N_give 6 rfl) rfl rfl ?_
  refine x_if_le hc (tgt := 29) (xd dk_N_give 7 rfl) rfl (fun q94 => ?_) (fun q94 => ?_)
  · rw [if_pos q94] at hf
    exact s_N_give_29 hc hR hb r92 M hf
  · rw [if_neg q94] at hf
    refine x_lload_n hc (xd dk_N_give 8 rfl) rfl rfl ?_
    refine x_iconst hc (v := 0) (xd dk_N_give 9 rfl) (by decide) ?_
    obtain ⟨r95, M, e96, hf⟩ := xbind_some hf
    refine x_callS hc (As := [.long (p1), .int 0]) (n := 2) (s_N_octet e96) (hR.call (by decide) (by decide)) ⟨by decide, by decide, by decide⟩ rfl rfl xw1352 xw18 xw1350 xw1351 (Nat.le_of_ble_eq_true rfl) ⟨Nat.zero_le _, Nat.zero_le _⟩ (xd dk_N_give 10 rfl) ?_
    obtain ⟨r97, M, e98, hf⟩ := xbind_some hf
    refine x_callS hc (As := [.int r95]) (n := 1) (s_N_isLetter e98) (hR.call (by decide) (by decide)) ⟨by decide, by decide, by decide⟩ rfl rfl xw1040 xw18 xw1038 xw1039 (Nat.le_of_ble_eq_true rfl) ⟨Nat.zero_le _, Nat.zero_le _⟩ (xd dk_N_give 11 rfl) ?_
    refine x_if_eq hc (tgt := 29) (xd dk_N_give 12 rfl) rfl (fun q99 => ?_) (fun q99 => ?_)
    · rw [if_pos q99] at hf
      exact s_N_give_29 hc hR hb r92 M hf
    · rw [if_neg q99] at hf
      refine x_iconst hc (v := 1) (xd dk_N_give 13 rfl) (by decide) ?_
      refine x_goto hc (tgt := 30) (xd dk_N_give 14 rfl) rfl ?_
      exact s_N_give_30 hc hR hb r92 1 M hf
def f_N_found_29 (b : Nat) (p1 : Int32) (w1 : Int32) (M : xMem) : Option (Int32 × xMem) :=
  (xbind (f_N_fails b w1 1 M) fun r8 M => if r8 = 0 then (if xin p1 400 = true then some (M.1 (b + 40) p1.toNatClampNeg, M) else none) else (some (0, M)))
def f_N_found (b : Nat) (p1 : Int32) (M : xMem) : Option (Int32 × xMem) :=
  (xlet (wI M b 0 0) fun M => xbind (f_N_looks b M) fun r12 M => xval ((M.1 b 63) - 1) fun x14 => xbind (f_N_in p1 0 x14 M) fun r15 M => if r15 = 0 then (f_N_found_29 b p1 1 M) else (f_N_found_29 b p1 0 M))
set_option maxRecDepth 100000 in
set_option maxHeartbeats 400000 in
theorem s_N_found_29 {p : Program} {l : Launch} {e : Env} {R : Room} {s : State} {m : MethodId} {args : Array Value} {below : List Frame} {meth : Method} {c : Code} {G : xG} {Y : xY} {sz : Nat} {b : Nat} {p1 : Int32}  (hc : xC p s m args meth c G 2 c_N_found y_N_found.cls (some .int)) (hR : xRm R 4) (hb : xMd Y b) {M' : xMem} {r : Int32} (w1 : Int32) (M : xMem) (hf : f_N_found_29 b p1 w1 M = some (r, M')) : xW p l e R s m args below meth c G 2 (MQ below (xQc G (some (.int r)) (xo G Y M') sz) args s 0 0 (xA G)) (xo G Y M) sz 0 0 29 [some (.ref b), some (.int p1)] [.int w1, .ref b] := by
  unfold f_N_found_29 at hf
  refine x_iconst hc (v := 1) (xd dk_N_found 17 rfl) (by decide) ?_
  obtain ⟨r8, M, e9, hf⟩ := xbind_some hf
  refine x_callV hc (As := [.int w1, .int 1]) (n := 2) (s_N_fails hb e9) (c_N hb _) rfl (hR.call (by decide) (by decide)) ⟨by decide, by decide, by decide⟩ rfl rfl xw1357 xw18 xw1354 xw1356 xs_N_fails (Nat.le_of_ble_eq_true rfl) ⟨Nat.zero_le _, Nat.zero_le _⟩ (xd dk_N_found 18 rfl) ?_
  refine x_if_eq hc (tgt := 40) (xd dk_N_found 19 rfl) rfl (fun q10 => ?_) (fun q10 => ?_)
  · rw [if_pos q10] at hf
    refine x_aload_n hc (xd dk_N_found 22 rfl) rfl rfl ?_
    refine x_get hc (ci := 10) (k := 61) fi_N (c_N hb _) rfl (by decide) rfl xw1204 rfl (xd dk_N_found 23 rfl) ?_
    refine x_iload_n hc (xd dk_N_found 24 rfl) rfl rfl ?_
    by_cases q11 : xin p1 400 = true
    case neg => rw [if_neg q11] at hf; cases hf
    rw [if_pos q11] at hf
    refine x_iald hc (cA (xMd.ar hb 40 (by decide) rfl)) (xin_in q11) (xd dk_N_found 25 rfl) ?_
    cases hf
    exact x_ireturn hc (xd dk_N_found 26 rfl)
  · rw [if_neg q10] at hf
    refine x_iconst hc (v := 0) (xd dk_N_found 20 rfl) (by decide) ?_
    refine x_goto hc (tgt := 46) (xd dk_N_found 21 rfl) rfl ?_
    cases hf
    exact x_ireturn hc (xd dk_N_found 26 rfl)
set_option maxRecDepth 100000 in
set_option maxHeartbeats 400000 in
theorem s_N_found {l : Launch} {G : xG} {Y : xY} {sz : Nat} {b : Nat} {p1 : Int32}  (hb : xMd Y b) {M M' : xMem} {r : Int32} (hf : f_N_found b p1 M = some (r, M')) : xM l G y_N_found c_N_found 2 (some .int) 4 0 0 [.ref b, .int p1] (xo G Y M) sz (some (.int r)) (xo G Y M') sz := by
  unfold f_N_found at hf
  refine xM.of (k := 0) (L0 := [some (.ref b), some (.int p1)]) (by decide) (Nat.le_of_ble_eq_true rfl) rfl ?_
  intro p e s m args below meth c hc hnm
  have hR : xRm { frames := 4, cells := 0, slots := 0, locals := 48 * 4 } 4 := ⟨Nat.le_refl _, Nat.le_refl _⟩
  refine x_aload_n hc (xd dk_N_found 0 rfl) rfl rfl ?_
  refine x_iconst hc (v := 0) (xd dk_N_found 1 rfl) (by decide) ?_
  refine x_put hc (ci := 10) (k := 0) fi_N ft_N ft_N_ok fn_N (c_N hb _) rfl (by decide) rfl xw1143 rfl rfl rfl (Nat.le_of_ble_eq_true rfl) (xd dk_N_found 2 rfl) ?_
  rw [w_N_0 hb]
  replace hf := xlet_some hf
  generalize wI M b 0 0 = M at hf ⊢
  refine x_aload_n hc (xd dk_N_found 3 rfl) rfl rfl ?_
  obtain ⟨r12, M, e13, hf⟩ := xbind_some hf
  refine x_callV hc (As := []) (n := 0) (s_N_looks hb e13) (c_N hb _) rfl (hR.call (by decide) (by decide)) ⟨by decide, by decide, by decide⟩ rfl rfl xw1369 xw18 xw1366 xw1368 xs_N_looks (Nat.le_of_ble_eq_true rfl) ⟨Nat.zero_le _, Nat.zero_le _⟩ (xd dk_N_found 4 rfl) ?_
  refine x_aload_n hc (xd dk_N_found 5 rfl) rfl rfl ?_
  refine x_iload_n hc (xd dk_N_found 6 rfl) rfl rfl ?_
  refine x_iconst hc (v := 0) (xd dk_N_found 7 rfl) (by decide) ?_
  refine x_aload_n hc (xd dk_N_found 8 rfl) rfl rfl ?_
  refine x_get hc (ci := 10) (k := 63) fi_N (c_N hb _) rfl (by decide) rfl xw1206 rfl (xd dk_N_found 9 rfl) ?_
  refine x_iconst hc (v := 1) (xd dk_N_found 10 rfl) (by decide) ?_
  refine x_isub hc (xd dk_N_found 11 rfl) ?_
  obtain ⟨x14, hx14, hf⟩ := xval_ex hf
  rw [← hx14]
  obtain ⟨r15, M, e16, hf⟩ := xbind_some hf
  refine x_callS hc (As := [.int p1, .int 0, .int x14]) (n := 3) (s_N_in e16) (hR.call (by decide) (by decide)) ⟨by decide, by decide, by decide⟩ rfl rfl xw1043 xw18 xw1041 xw1042 (Nat.le_of_ble_eq_true rfl) ⟨Nat.zero_le _, Nat.zero_le _⟩ (xd dk_N_found 12 rfl) ?_
  refine x_if_ne hc (tgt := 28) (xd dk_N_found 13 rfl) rfl (fun q17 => ?_) (fun q17 => ?_)
  · rw [if_neg q17] at hf
    refine x_iconst hc (v := 0) (xd dk_N_found 16 rfl) (by decide) ?_
    exact s_N_found_29 hc hR hb 0 M hf
  · rw [if_pos q17] at hf
    refine x_iconst hc (v := 1) (xd dk_N_found 14 rfl) (by decide) ?_
    refine x_goto hc (tgt := 29) (xd dk_N_found 15 rfl) rfl ?_
    exact s_N_found_29 hc hR hb 1 M hf
def f_N_place_29 (b : Nat) (p1 : Int32) (w1 : Int32) (M : xMem) : Option (Int32 × xMem) :=
  (xbind (f_N_fails b w1 1 M) fun r8 M => if r8 = 0 then (if xin p1 400 = true then some (M.1 (b + 41) p1.toNatClampNeg, M) else none) else (some (0, M)))
def f_N_place (b : Nat) (p1 : Int32) (M : xMem) : Option (Int32 × xMem) :=
  (xlet (wI M b 0 0) fun M => xbind (f_N_looks b M) fun r12 M => xval ((M.1 b 63) - 1) fun x14 => xbind (f_N_in p1 0 x14 M) fun r15 M => if r15 = 0 then (f_N_place_29 b p1 1 M) else (f_N_place_29 b p1 0 M))
set_option maxRecDepth 100000 in
set_option maxHeartbeats 400000 in
theorem s_N_place_29 {p : Program} {l : Launch} {e : Env} {R : Room} {s : State} {m : MethodId} {args : Array Value} {below : List Frame} {meth : Method} {c : Code} {G : xG} {Y : xY} {sz : Nat} {b : Nat} {p1 : Int32}  (hc : xC p s m args meth c G 2 c_N_place y_N_place.cls (some .int)) (hR : xRm R 4) (hb : xMd Y b) {M' : xMem} {r : Int32} (w1 : Int32) (M : xMem) (hf : f_N_place_29 b p1 w1 M = some (r, M')) : xW p l e R s m args below meth c G 2 (MQ below (xQc G (some (.int r)) (xo G Y M') sz) args s 0 0 (xA G)) (xo G Y M) sz 0 0 29 [some (.ref b), some (.int p1)] [.int w1, .ref b] := by
  unfold f_N_place_29 at hf
  refine x_iconst hc (v := 1) (xd dk_N_place 17 rfl) (by decide) ?_
  obtain ⟨r8, M, e9, hf⟩ := xbind_some hf
  refine x_callV hc (As := [.int w1, .int 1]) (n := 2) (s_N_fails hb e9) (c_N hb _) rfl (hR.call (by decide) (by decide)) ⟨by decide, by decide, by decide⟩ rfl rfl xw1357 xw18 xw1354 xw1356 xs_N_fails (Nat.le_of_ble_eq_true rfl) ⟨Nat.zero_le _, Nat.zero_le _⟩ (xd dk_N_place 18 rfl) ?_
  refine x_if_eq hc (tgt := 40) (xd dk_N_place 19 rfl) rfl (fun q10 => ?_) (fun q10 => ?_)
  · rw [if_pos q10] at hf
    refine x_aload_n hc (xd dk_N_place 22 rfl) rfl rfl ?_
    refine x_get hc (ci := 10) (k := 62) fi_N (c_N hb _) rfl (by decide) rfl xw1205 rfl (xd dk_N_place 23 rfl) ?_
    refine x_iload_n hc (xd dk_N_place 24 rfl) rfl rfl ?_
    by_cases q11 : xin p1 400 = true
    case neg => rw [if_neg q11] at hf; cases hf
    rw [if_pos q11] at hf
    refine x_iald hc (cA (xMd.ar hb 41 (by decide) rfl)) (xin_in q11) (xd dk_N_place 25 rfl) ?_
    cases hf
    exact x_ireturn hc (xd dk_N_place 26 rfl)
  · rw [if_neg q10] at hf
    refine x_iconst hc (v := 0) (xd dk_N_place 20 rfl) (by decide) ?_
    refine x_goto hc (tgt := 46) (xd dk_N_place 21 rfl) rfl ?_
    cases hf
    exact x_ireturn hc (xd dk_N_place 26 rfl)
set_option maxRecDepth 100000 in
set_option maxHeartbeats 400000 in
theorem s_N_place {l : Launch} {G : xG} {Y : xY} {sz : Nat} {b : Nat} {p1 : Int32}  (hb : xMd Y b) {M M' : xMem} {r : Int32} (hf : f_N_place b p1 M = some (r, M')) : xM l G y_N_place c_N_place 2 (some .int) 4 0 0 [.ref b, .int p1] (xo G Y M) sz (some (.int r)) (xo G Y M') sz := by
  unfold f_N_place at hf
  refine xM.of (k := 0) (L0 := [some (.ref b), some (.int p1)]) (by decide) (Nat.le_of_ble_eq_true rfl) rfl ?_
  intro p e s m args below meth c hc hnm
  have hR : xRm { frames := 4, cells := 0, slots := 0, locals := 48 * 4 } 4 := ⟨Nat.le_refl _, Nat.le_refl _⟩
  refine x_aload_n hc (xd dk_N_place 0 rfl) rfl rfl ?_
  refine x_iconst hc (v := 0) (xd dk_N_place 1 rfl) (by decide) ?_
  refine x_put hc (ci := 10) (k := 0) fi_N ft_N ft_N_ok fn_N (c_N hb _) rfl (by decide) rfl xw1143 rfl rfl rfl (Nat.le_of_ble_eq_true rfl) (xd dk_N_place 2 rfl) ?_
  rw [w_N_0 hb]
  replace hf := xlet_some hf
  generalize wI M b 0 0 = M at hf ⊢
  refine x_aload_n hc (xd dk_N_place 3 rfl) rfl rfl ?_
  obtain ⟨r12, M, e13, hf⟩ := xbind_some hf
  refine x_callV hc (As := []) (n := 0) (s_N_looks hb e13) (c_N hb _) rfl (hR.call (by decide) (by decide)) ⟨by decide, by decide, by decide⟩ rfl rfl xw1369 xw18 xw1366 xw1368 xs_N_looks (Nat.le_of_ble_eq_true rfl) ⟨Nat.zero_le _, Nat.zero_le _⟩ (xd dk_N_place 4 rfl) ?_
  refine x_aload_n hc (xd dk_N_place 5 rfl) rfl rfl ?_
  refine x_iload_n hc (xd dk_N_place 6 rfl) rfl rfl ?_
  refine x_iconst hc (v := 0) (xd dk_N_place 7 rfl) (by decide) ?_
  refine x_aload_n hc (xd dk_N_place 8 rfl) rfl rfl ?_
  refine x_get hc (ci := 10) (k := 63) fi_N (c_N hb _) rfl (by decide) rfl xw1206 rfl (xd dk_N_place 9 rfl) ?_
  refine x_iconst hc (v := 1) (xd dk_N_place 10 rfl) (by decide) ?_
  refine x_isub hc (xd dk_N_place 11 rfl) ?_
  obtain ⟨x14, hx14, hf⟩ := xval_ex hf
  rw [← hx14]
  obtain ⟨r15, M, e16, hf⟩ := xbind_some hf
  refine x_callS hc (As := [.int p1, .int 0, .int x14]) (n := 3) (s_N_in e16) (hR.call (by decide) (by decide)) ⟨by decide, by decide, by decide⟩ rfl rfl xw1043 xw18 xw1041 xw1042 (Nat.le_of_ble_eq_true rfl) ⟨Nat.zero_le _, Nat.zero_le _⟩ (xd dk_N_place 12 rfl) ?_
  refine x_if_ne hc (tgt := 28) (xd dk_N_place 13 rfl) rfl (fun q17 => ?_) (fun q17 => ?_)
  · rw [if_neg q17] at hf
    refine x_iconst hc (v := 0) (xd dk_N_place 16 rfl) (by decide) ?_
    exact s_N_place_29 hc hR hb 0 M hf
  · rw [if_pos q17] at hf
    refine x_iconst hc (v := 1) (xd dk_N_place 14 rfl) (by decide) ?_
    refine x_goto hc (tgt := 29) (xd dk_N_place 15 rfl) rfl ?_
    exact s_N_place_29 hc hR hb 1 M hf
def f_N_goes_57 (b : Nat) (p1 : Int32) (M : xMem) : Option (Int32 × xMem) :=
  (some (1, M))
def f_N_goes (b : Nat) (p1 : Int32) (M : xMem) : Option (Int32 × xMem) :=
  (if xin p1 400 = true then if M.1 (b + 40) p1.toNatClampNeg = 6 then (f_N_goes_57 b p1 M) else (if xin p1 400 = true then if M.1 (b + 40) p1.toNatClampNeg = 7 then (f_N_goes_57 b p1 M) else (if xin p1 400 = true then if M.1 (b + 40) p1.toNatClampNeg = 9 then (f_N_goes_57 b p1 M) else (if xin p1 400 = true then if M.1 (b + 40) p1.toNatClampNeg = 8 then (if xin p1 400 = true then xval (M.1 (b + 41) p1.toNatClampNeg) fun x18 => xbind (f_N_emptyAt b x18 M) fun r19 M => if r19 < 0 then (some (0, M)) else (f_N_goes_57 b p1 M) else none) else (some (0, M)) else none) else none) else none) else none)
set_option maxRecDepth 100000 in
set_option maxHeartbeats 400000 in
theorem s_N_goes_57 {p : Program} {l : Launch} {e : Env} {R : Room} {s : State} {m : MethodId} {args : Array Value} {below : List Frame} {meth : Method} {c : Code} {G : xG} {Y : xY} {sz : Nat} {b : Nat} {p1 : Int32}  (hc : xC p s m args meth c G 2 c_N_goes y_N_goes.cls (some .boolean)) (hR : xRm R 1) (hb : xMd Y b) {M' : xMem} {r : Int32} (M : xMem) (hf : f_N_goes_57 b p1 M = some (r, M')) : xW p l e R s m args below meth c G 2 (MQ below (xQc G (some (.int r)) (xo G Y M') sz) args s 0 0 (xA G)) (xo G Y M) sz 0 0 57 [some (.ref b), some (.int p1)] [] := by
  unfold f_N_goes_57 at hf
  refine x_iconst hc (v := 1) (xd dk_N_goes 31 rfl) (by decide) ?_
  refine x_goto hc (tgt := 62) (xd dk_N_goes 32 rfl) rfl ?_
  cases hf
  exact x_zreturn hc rfl (xd dk_N_goes 34 rfl)
set_option maxRecDepth 100000 in
set_option maxHeartbeats 400000 in
theorem s_N_goes {l : Launch} {G : xG} {Y : xY} {sz : Nat} {b : Nat} {p1 : Int32}  (hb : xMd Y b) {M M' : xMem} {r : Int32} (hf : f_N_goes b p1 M = some (r, M')) : xM l G y_N_goes c_N_goes 2 (some .boolean) 1 0 0 [.ref b, .int p1] (xo G Y M) sz (some (.int r)) (xo G Y M') sz := by
  unfold f_N_goes at hf
  refine xM.of (k := 0) (L0 := [some (.ref b), some (.int p1)]) (by decide) (Nat.le_of_ble_eq_true rfl) rfl ?_
  intro p e s m args below meth c hc hnm
  have hR : xRm { frames := 1, cells := 0, slots := 0, locals := 48 * 1 } 1 := ⟨Nat.le_refl _, Nat.le_refl _⟩
  refine x_aload_n hc (xd dk_N_goes 0 rfl) rfl rfl ?_
  refine x_get hc (ci := 10) (k := 61) fi_N (c_N hb _) rfl (by decide) rfl xw1204 rfl (xd dk_N_goes 1 rfl) ?_
  refine x_iload_n hc (xd dk_N_goes 2 rfl) rfl rfl ?_
  by_cases q9 : xin p1 400 = true
  case neg => rw [if_neg q9] at hf; cases hf
  rw [if_pos q9] at hf
  refine x_iald hc (cA (xMd.ar hb 40 (by decide) rfl)) (xin_in q9) (xd dk_N_goes 3 rfl) ?_
  refine x_bipush hc (v := 6) (xd dk_N_goes 4 rfl) (by decide) ?_
  refine x_icmp_eq hc (tgt := 57) (xd dk_N_goes 5 rfl) rfl (fun q10 => ?_) (fun q10 => ?_)
  · rw [if_pos q10] at hf
    exact s_N_goes_57 hc hR hb M hf
  · rw [if_neg q10] at hf
    refine x_aload_n hc (xd dk_N_goes 6 rfl) rfl rfl ?_
    refine x_get hc (ci := 10) (k := 61) fi_N (c_N hb _) rfl (by decide) rfl xw1204 rfl (xd dk_N_goes 7 rfl) ?_
    refine x_iload_n hc (xd dk_N_goes 8 rfl) rfl rfl ?_
    by_cases q11 : xin p1 400 = true
    case neg => rw [if_neg q11] at hf; cases hf
    rw [if_pos q11] at hf
    refine x_iald hc (cA (xMd.ar hb 40 (by decide) rfl)) (xin_in q11) (xd dk_N_goes 9 rfl) ?_
    refine x_bipush hc (v := 7) (xd dk_N_goes 10 rfl) (by decide) ?_
    refine x_icmp_eq hc (tgt := 57) (xd dk_N_goes 11 rfl) rfl (fun q12 => ?_) (fun q12 => ?_)
    · rw [if_pos q12] at hf
      exact s_N_goes_57 hc hR hb M hf
    · rw [if_neg q12] at hf
      refine x_aload_n hc (xd dk_N_goes 12 rfl) rfl rfl ?_
      refine x_get hc (ci := 10) (k := 61) fi_N (c_N hb _) rfl (by decide) rfl xw1204 rfl (xd dk_N_goes 13 rfl) ?_
      refine x_iload_n hc (xd dk_N_goes 14 rfl) rfl rfl ?_
      by_cases q13 : xin p1 400 = true
      case neg => rw [if_neg q13] at hf; cases hf
      rw [if_pos q13] at hf
      refine x_iald hc (cA (xMd.ar hb 40 (by decide) rfl)) (xin_in q13) (xd dk_N_goes 15 rfl) ?_
      refine x_bipush hc (v := 9) (xd dk_N_goes 16 rfl) (by decide) ?_
      refine x_icmp_eq hc (tgt := 57) (xd dk_N_goes 17 rfl) rfl (fun q14 => ?_) (fun q14 => ?_)
      · rw [if_pos q14] at hf
        exact s_N_goes_57 hc hR hb M hf
      · rw [if_neg q14] at hf
        refine x_aload_n hc (xd dk_N_goes 18 rfl) rfl rfl ?_
        refine x_get hc (ci := 10) (k := 61) fi_N (c_N hb _) rfl (by decide) rfl xw1204 rfl (xd dk_N_goes 19 rfl) ?_
        refine x_iload_n hc (xd dk_N_goes 20 rfl) rfl rfl ?_
        by_cases q15 : xin p1 400 = true
        case neg => rw [if_neg q15] at hf; cases hf
        rw [if_pos q15] at hf
        refine x_iald hc (cA (xMd.ar hb 40 (by decide) rfl)) (xin_in q15) (xd dk_N_goes 21 rfl) ?_
        refine x_bipush hc (v := 8) (xd dk_N_goes 22 rfl) (by decide) ?_
        refine x_icmp_ne hc (tgt := 61) (xd dk_N_goes 23 rfl) rfl (fun q16 => ?_) (fun q16 => ?_)
        · rw [if_neg q16] at hf
          refine x_iconst hc (v := 0) (xd dk_N_goes 33 rfl) (by decide) ?_
          cases hf
          exact x_zreturn hc rfl (xd dk_N_goes 34 rfl)
        · rw [if_pos q16] at hf
          refine x_aload_n hc (xd dk_N_goes 24 rfl) rfl rfl ?_
          refine x_aload_n hc (xd dk_N_goes 25 rfl) rfl rfl ?_
          refine x_get hc (ci := 10) (k := 62) fi_N (c_N hb _) rfl (by decide) rfl xw1205 rfl (xd dk_N_goes 26 rfl) ?_
          refine x_iload_n hc (xd dk_N_goes 27 rfl) rfl rfl ?_
          by_cases q17 : xin p1 400 = true
          case neg => rw [if_neg q17] at hf; cases hf
          rw [if_pos q17] at hf
          refine x_iald hc (cA (xMd.ar hb 41 (by decide) rfl)) (xin_in q17) (xd dk_N_goes 28 rfl) ?_
          obtain ⟨x18, hx18, hf⟩ := xval_ex hf
          rw [← hx18]
          obtain ⟨r19, M, e20, hf⟩ := xbind_some hf
          refine x_callV hc (As := [.int x18]) (n := 1) (s_N_emptyAt hb e20) (c_N hb _) rfl (hR.call (by decide) (by decide)) ⟨by decide, by decide, by decide⟩ rfl rfl xw1417 xw18 xw1414 xw1416 xs_N_emptyAt (Nat.le_of_ble_eq_true rfl) ⟨Nat.zero_le _, Nat.zero_le _⟩ (xd dk_N_goes 29 rfl) ?_
          refine x_if_lt hc (tgt := 61) (xd dk_N_goes 30 rfl) rfl (fun q21 => ?_) (fun q21 => ?_)
          · rw [if_pos q21] at hf
            refine x_iconst hc (v := 0) (xd dk_N_goes 33 rfl) (by decide) ?_
            cases hf
            exact x_zreturn hc rfl (xd dk_N_goes 34 rfl)
          · rw [if_neg q21] at hf
            exact s_N_goes_57 hc hR hb M hf
def f_N_mended_40 (b : Nat) (k6 : Int32 → Int32 → Int32 → xMem → Option (Int32 × xMem)) (k14 : Int32 → Int32 → Int32 → xMem → Option (Int32 × xMem)) (v1 : Int32) (v2 : Int32) (v3 : Int32) (M : xMem) : Option (Int32 × xMem) :=
  (k14 v1 v2 (v3 + Int32.ofInt 1) M)
def f_N_mended_236 (b : Nat) (k6 : Int32 → Int32 → Int32 → xMem → Option (Int32 × xMem)) (v1 : Int32) (v2 : Int32) (v3 : Int32) (v4 : Int32) (M : xMem) : Option (Int32 × xMem) :=
  (k6 v1 v2 v3 M)
def f_N_mended_74 (b : Nat) (k6 : Int32 → Int32 → Int32 → xMem → Option (Int32 × xMem)) (v1 : Int32) (v2 : Int32) (v3 : Int32) (w0 : Int32) (M : xMem) : Option (Int32 × xMem) :=
  (if w0 = 7 then (if xin v1 400 = true then xlet (wI M (b + 4) v1.toNatClampNeg 99) fun M => if xin (v1 + 1) 400 = true then xlet (wI M (b + 4) (v1 + 1).toNatClampNeg 111) fun M => if xin (v1 + 2) 400 = true then xlet (wI M (b + 4) (v1 + 2).toNatClampNeg 110) fun M => if xin (v1 + 3) 400 = true then xlet (wI M (b + 4) (v1 + 3).toNatClampNeg 115) fun M => if xin (v1 + 4) 400 = true then xlet (wI M (b + 4) (v1 + 4).toNatClampNeg 116) fun M => f_N_mended_236 b k6 (v1 + Int32.ofInt 5) (v2 + Int32.ofInt 3) v3 w0 M else none else none else none else none else none) else (if w0 = 6 then (if xin v1 400 = true then xlet (wI M (b + 4) v1.toNatClampNeg 61) fun M => if xin (v1 + 1) 400 = true then xlet (wI M (b + 4) (v1 + 1).toNatClampNeg 61) fun M => if xin (v1 + 2) 400 = true then xlet (wI M (b + 4) (v1 + 2).toNatClampNeg 61) fun M => f_N_mended_236 b k6 (v1 + Int32.ofInt 3) (v2 + Int32.ofInt 2) v3 w0 M else none else none else none) else (if w0 = 9 then (f_N_mended_236 b k6 v1 (v2 + Int32.ofInt 1) v3 w0 M) else (if w0 = 8 then (xbind (f_N_emptyAt b v2 M) fun r26 M => if xin r26 64 = true then f_N_mended_236 b k6 v1 (M.1 (b + 34) r26.toNatClampNeg) v3 w0 M else none) else (if xin v2 160 = true then xval (M.1 (b + 2) v2.toNatClampNeg) fun x24 => if xin v1 400 = true then xlet (wI M (b + 4) v1.toNatClampNeg x24) fun M => f_N_mended_236 b k6 (v1 + Int32.ofInt 1) (v2 + Int32.ofInt 1) v3 w0 M else none else none)))))
def f_N_mended_73 (b : Nat) (k6 : Int32 → Int32 → Int32 → xMem → Option (Int32 × xMem)) (v1 : Int32) (v2 : Int32) (v3 : Int32) (M : xMem) : Option (Int32 × xMem) :=
  (f_N_mended_74 b k6 v1 v2 v3 (-1) M)
def f_N_mended_46 (b : Nat) (k6 : Int32 → Int32 → Int32 → xMem → Option (Int32 × xMem)) (v1 : Int32) (v2 : Int32) (v3 : Int32) (M : xMem) : Option (Int32 × xMem) :=
  (if M.1 b 63 ≤ v3 then (f_N_mended_73 b k6 v1 v2 v3 M) else (if xin v3 400 = true then if M.1 (b + 41) v3.toNatClampNeg = v2 then (if xin v3 400 = true then f_N_mended_74 b k6 v1 v2 v3 (M.1 (b + 40) v3.toNatClampNeg) M else none) else (f_N_mended_73 b k6 v1 v2 v3 M) else none))
def f_N_mended_14 (b : Nat) (k6 : Int32 → Int32 → Int32 → xMem → Option (Int32 × xMem)) : Nat → Int32 → Int32 → Int32 → xMem → Option (Int32 × xMem)
  | 0, _, _, _, _ => none
  | n + 1, v1, v2, v3, M =>
    (if M.1 b 63 ≤ v3 then (f_N_mended_46 b k6 v1 v2 v3 M) else (if xin v3 400 = true then if M.1 (b + 41) v3.toNatClampNeg < v2 then (f_N_mended_40 b k6 (f_N_mended_14 b k6 n) v1 v2 v3 M) else (xbind (f_N_goes b v3 M) fun r44 M => if r44 = 0 then (f_N_mended_40 b k6 (f_N_mended_14 b k6 n) v1 v2 v3 M) else (f_N_mended_46 b k6 v1 v2 v3 M)) else none))
def f_N_mended_6 (b : Nat) : Nat → Int32 → Int32 → Int32 → xMem → Option (Int32 × xMem)
  | 0, _, _, _, _ => none
  | n + 1, v1, v2, v3, M =>
    (if M.1 b 2 ≤ v2 then (some (v1, M)) else (f_N_mended_14 b (f_N_mended_6 b n) xFuel v1 v2 v3 M))
def f_N_mended (b : Nat) (M : xMem) : Option (Int32 × xMem) :=
  (f_N_mended_6 b xFuel 0 0 0 M)
set_option maxRecDepth 100000 in
set_option maxHeartbeats 400000 in
theorem s_N_mended_40 {p : Program} {l : Launch} {e : Env} {R : Room} {s : State} {m : MethodId} {args : Array Value} {below : List Frame} {meth : Method} {c : Code} {G : xG} {Y : xY} {sz : Nat} {b : Nat}  (hc : xC p s m args meth c G 5 c_N_mended y_N_mended.cls (some .int)) (hR : xRm R 2) (hb : xMd Y b) {k6 : Int32 → Int32 → Int32 → xMem → Option (Int32 × xMem)} {k14 : Int32 → Int32 → Int32 → xMem → Option (Int32 × xMem)} {M' : xMem} {r : Int32} (hk6 : ∀ (v1 : Int32) (v2 : Int32) (v3 : Int32) (M : xMem), k6 v1 v2 v3 M = some (r, M') → xW p l e R s m args below meth c G 5 (MQ below (xQc G (some (.int r)) (xo G Y M') sz) args s 0 0 (xA G)) (xo G Y M) sz 0 0 6 [some (.ref b), some (.int v1), some (.int v2), some (.int v3), none] []) (hk14 : ∀ (v1 : Int32) (v2 : Int32) (v3 : Int32) (M : xMem), k14 v1 v2 v3 M = some (r, M') → xW p l e R s m args below meth c G 5 (MQ below (xQc G (some (.int r)) (xo G Y M') sz) args s 0 0 (xA G)) (xo G Y M) sz 0 0 14 [some (.ref b), some (.int v1), some (.int v2), some (.int v3), none] []) (v1 : Int32) (v2 : Int32) (v3 : Int32) (M : xMem) (hf : f_N_mended_40 b k6 k14 v1 v2 v3 M = some (r, M')) : xW p l e R s m args below meth c G 5 (MQ below (xQc G (some (.int r)) (xo G Y M') sz) args s 0 0 (xA G)) (xo G Y M) sz 0 0 40 [some (.ref b), some (.int v1), some (.int v2), some (.int v3), none] [] := by
  unfold f_N_mended_40 at hf
  refine x_iinc hc (xd dk_N_mended 24 rfl) rfl (by decide) rfl ?_
  refine x_goto hc (tgt := 14) (xd dk_N_mended 25 rfl) rfl ?_
  exact hk14 v1 v2 (v3 + Int32.ofInt 1) M hf
set_option maxRecDepth 100000 in
set_option maxHeartbeats 400000 in
theorem s_N_mended_236 {p : Program} {l : Launch} {e : Env} {R : Room} {s : State} {m : MethodId} {args : Array Value} {below : List Frame} {meth : Method} {c : Code} {G : xG} {Y : xY} {sz : Nat} {b : Nat}  (hc : xC p s m args meth c G 5 c_N_mended y_N_mended.cls (some .int)) (hR : xRm R 2) (hb : xMd Y b) {k6 : Int32 → Int32 → Int32 → xMem → Option (Int32 × xMem)} {M' : xMem} {r : Int32} (hk6 : ∀ (v1 : Int32) (v2 : Int32) (v3 : Int32) (M : xMem), k6 v1 v2 v3 M = some (r, M') → xW p l e R s m args below meth c G 5 (MQ below (xQc G (some (.int r)) (xo G Y M') sz) args s 0 0 (xA G)) (xo G Y M) sz 0 0 6 [some (.ref b), some (.int v1), some (.int v2), some (.int v3), none] []) (v1 : Int32) (v2 : Int32) (v3 : Int32) (v4 : Int32) (M : xMem) (hf : f_N_mended_236 b k6 v1 v2 v3 v4 M = some (r, M')) : xW p l e R s m args below meth c G 5 (MQ below (xQc G (some (.int r)) (xo G Y M') sz) args s 0 0 (xA G)) (xo G Y M) sz 0 0 236 [some (.ref b), some (.int v1), some (.int v2), some (.int v3), some (.int v4)] [] := by
  unfold f_N_mended_236 at hf
  refine x_goto hc (tgt := 6) (xd dk_N_mended 133 rfl) rfl ?_
  refine x_drop 4 ?_
  exact hk6 v1 v2 v3 M hf
set_option maxRecDepth 100000 in
set_option maxHeartbeats 400000 in
theorem s_N_mended_74 {p : Program} {l : Launch} {e : Env} {R : Room} {s : State} {m : MethodId} {args : Array Value} {below : List Frame} {meth : Method} {c : Code} {G : xG} {Y : xY} {sz : Nat} {b : Nat}  (hc : xC p s m args meth c G 5 c_N_mended y_N_mended.cls (some .int)) (hR : xRm R 2) (hb : xMd Y b) {k6 : Int32 → Int32 → Int32 → xMem → Option (Int32 × xMem)} {M' : xMem} {r : Int32} (hk6 : ∀ (v1 : Int32) (v2 : Int32) (v3 : Int32) (M : xMem), k6 v1 v2 v3 M = some (r, M') → xW p l e R s m args below meth c G 5 (MQ below (xQc G (some (.int r)) (xo G Y M') sz) args s 0 0 (xA G)) (xo G Y M) sz 0 0 6 [some (.ref b), some (.int v1), some (.int v2), some (.int v3), none] []) (v1 : Int32) (v2 : Int32) (v3 : Int32) (w0 : Int32) (M : xMem) (hf : f_N_mended_74 b k6 v1 v2 v3 w0 M = some (r, M')) : xW p l e R s m args below meth c G 5 (MQ below (xQc G (some (.int r)) (xo G Y M') sz) args s 0 0 (xA G)) (xo G Y M) sz 0 0 74 [some (.ref b), some (.int v1), some (.int v2), some (.int v3), none] [.int w0] := by
  unfold f_N_mended_74 at hf
  refine x_istore hc (xd dk_N_mended 42 rfl) (by decide) rfl ?_
  refine x_iload hc (xd dk_N_mended 43 rfl) rfl ?_
  refine x_bipush hc (v := 7) (xd dk_N_mended 44 rfl) (by decide) ?_
  refine x_icmp_ne hc (tgt := 140) (xd dk_N_mended 45 rfl) rfl (fun q19 => ?_) (fun q19 => ?_)
  · rw [if_neg q19] at hf
    refine x_iload hc (xd dk_N_mended 82 rfl) rfl ?_
    refine x_bipush hc (v := 6) (xd dk_N_mended 83 rfl) (by decide) ?_
    refine x_icmp_ne hc (tgt := 184) (xd dk_N_mended 84 rfl) rfl (fun q20 => ?_) (fun q20 => ?_)
    · rw [if_neg q20] at hf
      refine x_iload hc (xd dk_N_mended 107 rfl) rfl ?_
      refine x_bipush hc (v := 9) (xd dk_N_mended 108 rfl) (by decide) ?_
      refine x_icmp_ne hc (tgt := 197) (xd dk_N_mended 109 rfl) rfl (fun q21 => ?_) (fun q21 => ?_)
      · rw [if_neg q21] at hf
        refine x_iload hc (xd dk_N_mended 112 rfl) rfl ?_
        refine x_bipush hc (v := 8) (xd dk_N_mended 113 rfl) (by decide) ?_
        refine x_icmp_ne hc (tgt := 218) (xd dk_N_mended 114 rfl) rfl (fun q22 => ?_) (fun q22 => ?_)
        · rw [if_neg q22] at hf
          refine x_aload_n hc (xd dk_N_mended 123 rfl) rfl rfl ?_
          refine x_get hc (ci := 10) (k := 13) fi_N (c_N hb _) rfl (by decide) rfl xw1156 rfl (xd dk_N_mended 124 rfl) ?_
          refine x_iload_n hc (xd dk_N_mended 125 rfl) rfl rfl ?_
          refine x_aload_n hc (xd dk_N_mended 126 rfl) rfl rfl ?_
          refine x_get hc (ci := 10) (k := 11) fi_N (c_N hb _) rfl (by decide) rfl xw1154 rfl (xd dk_N_mended 127 rfl) ?_
          refine x_iload_n hc (xd dk_N_mended 128 rfl) rfl rfl ?_
          by_cases q23 : xin v2 160 = true
          case neg => rw [if_neg q23] at hf; cases hf
          rw [if_pos q23] at hf
          refine x_iald hc (cA (xMd.ar hb 2 (by decide) rfl)) (xin_in q23) (xd dk_N_mended 129 rfl) ?_
          obtain ⟨x24, hx24, hf⟩ := xval_ex hf
          rw [← hx24]
          by_cases q25 : xin v1 400 = true
          case neg => rw [if_neg q25] at hf; cases hf
          rw [if_pos q25] at hf
          refine x_iast hc (cA (xMd.ar hb 4 (by decide) rfl)) (xin_in q25) (xd dk_N_mended 130 rfl) ?_
          rw [wA (xMd.ar hb 4 (by decide) rfl)]
          replace hf := xlet_some hf
          generalize wI M (b + 4) v1.toNatClampNeg x24 = M at hf ⊢
          refine x_iinc hc (xd dk_N_mended 131 rfl) rfl (by decide) rfl ?_
          refine x_iinc hc (xd dk_N_mended 132 rfl) rfl (by decide) rfl ?_
          exact s_N_mended_236 hc hR hb hk6 (v1 + Int32.ofInt 1) (v2 + Int32.ofInt 1) v3 w0 M hf
        · rw [if_pos q22] at hf
          refine x_aload_n hc (xd dk_N_mended 115 rfl) rfl rfl ?_
          refine x_get hc (ci := 10) (k := 48) fi_N (c_N hb _) rfl (by decide) rfl xw1191 rfl (xd dk_N_mended 116 rfl) ?_
          refine x_aload_n hc (xd dk_N_mended 117 rfl) rfl rfl ?_
          refine x_iload_n hc (xd dk_N_mended 118 rfl) rfl rfl ?_
          obtain ⟨r26, M, e27, hf⟩ := xbind_some hf
          refine x_callV hc (As := [.int v2]) (n := 1) (s_N_emptyAt hb e27) (c_N hb _) rfl (hR.call (by decide) (by decide)) ⟨by decide, by decide, by decide⟩ rfl rfl xw1417 xw18 xw1414 xw1416 xs_N_emptyAt (Nat.le_of_ble_eq_true rfl) ⟨Nat.zero_le _, Nat.zero_le _⟩ (xd dk_N_mended 119 rfl) ?_
          by_cases q28 : xin r26 64 = true
          case neg => rw [if_neg q28] at hf; cases hf
          rw [if_pos q28] at hf
          refine x_iald hc (cA (xMd.ar hb 34 (by decide) rfl)) (xin_in q28) (xd dk_N_mended 120 rfl) ?_
          refine x_istore_n hc (xd dk_N_mended 121 rfl) (by decide) rfl ?_
          refine x_goto hc (tgt := 236) (xd dk_N_mended 122 rfl) rfl ?_
          exact s_N_mended_236 hc hR hb hk6 v1 (M.1 (b + 34) r26.toNatClampNeg) v3 w0 M hf
      · rw [if_pos q21] at hf
        refine x_iinc hc (xd dk_N_mended 110 rfl) rfl (by decide) rfl ?_
        refine x_goto hc (tgt := 236) (xd dk_N_mended 111 rfl) rfl ?_
        exact s_N_mended_236 hc hR hb hk6 v1 (v2 + Int32.ofInt 1) v3 w0 M hf
    · rw [if_pos q20] at hf
      refine x_aload_n hc (xd dk_N_mended 85 rfl) rfl rfl ?_
      refine x_get hc (ci := 10) (k := 13) fi_N (c_N hb _) rfl (by decide) rfl xw1156 rfl (xd dk_N_mended 86 rfl) ?_
      refine x_iload_n hc (xd dk_N_mended 87 rfl) rfl rfl ?_
      refine x_bipush hc (v := 61) (xd dk_N_mended 88 rfl) (by decide) ?_
      by_cases q29 : xin v1 400 = true
      case neg => rw [if_neg q29] at hf; cases hf
      rw [if_pos q29] at hf
      refine x_iast hc (cA (xMd.ar hb 4 (by decide) rfl)) (xin_in q29) (xd dk_N_mended 89 rfl) ?_
      rw [wA (xMd.ar hb 4 (by decide) rfl)]
      replace hf := xlet_some hf
      generalize wI M (b + 4) v1.toNatClampNeg 61 = M at hf ⊢
      refine x_aload_n hc (xd dk_N_mended 90 rfl) rfl rfl ?_
      refine x_get hc (ci := 10) (k := 13) fi_N (c_N hb _) rfl (by decide) rfl xw1156 rfl (xd dk_N_mended 91 rfl) ?_
      refine x_iload_n hc (xd dk_N_mended 92 rfl) rfl rfl ?_
      refine x_iconst hc (v := 1) (xd dk_N_mended 93 rfl) (by decide) ?_
      refine x_iadd hc (xd dk_N_mended 94 rfl) ?_
      refine x_bipush hc (v := 61) (xd dk_N_mended 95 rfl) (by decide) ?_
      by_cases q30 : xin (v1 + 1) 400 = true
      case neg => rw [if_neg q30] at hf; cases hf
      rw [if_pos q30] at hf
      refine x_iast hc (cA (xMd.ar hb 4 (by decide) rfl)) (xin_in q30) (xd dk_N_mended 96 rfl) ?_
      rw [wA (xMd.ar hb 4 (by decide) rfl)]
      replace hf := xlet_some hf
      generalize wI M (b + 4) (v1 + 1).toNatClampNeg 61 = M at hf ⊢
      refine x_aload_n hc (xd dk_N_mended 97 rfl) rfl rfl ?_
      refine x_get hc (ci := 10) (k := 13) fi_N (c_N hb _) rfl (by decide) rfl xw1156 rfl (xd dk_N_mended 98 rfl) ?_
      refine x_iload_n hc (xd dk_N_mended 99 rfl) rfl rfl ?_
      refine x_iconst hc (v := 2) (xd dk_N_mended 100 rfl) (by decide) ?_
      refine x_iadd hc (xd dk_N_mended 101 rfl) ?_
      refine x_bipush hc (v := 61) (xd dk_N_mended 102 rfl) (by decide) ?_
      by_cases q31 : xin (v1 + 2) 400 = true
      case neg => rw [if_neg q31] at hf; cases hf
      rw [if_pos q31] at hf
      refine x_iast hc (cA (xMd.ar hb 4 (by decide) rfl)) (xin_in q31) (xd dk_N_mended 103 rfl) ?_
      rw [wA (xMd.ar hb 4 (by decide) rfl)]
      replace hf := xlet_some hf
      generalize wI M (b + 4) (v1 + 2).toNatClampNeg 61 = M at hf ⊢
      refine x_iinc hc (xd dk_N_mended 104 rfl) rfl (by decide) rfl ?_
      refine x_iinc hc (xd dk_N_mended 105 rfl) rfl (by decide) rfl ?_
      refine x_goto hc (tgt := 236) (xd dk_N_mended 106 rfl) rfl ?_
      exact s_N_mended_236 hc hR hb hk6 (v1 + Int32.ofInt 3) (v2 + Int32.ofInt 2) v3 w0 M hf
  · rw [if_pos q19] at hf
    refine x_aload_n hc (xd dk_N_mended 46 rfl) rfl rfl ?_
    refine x_get hc (ci := 10) (k := 13) fi_N (c_N hb _) rfl (by decide) rfl xw1156 rfl (xd dk_N_mended 47 rfl) ?_
    refine x_iload_n hc (xd dk_N_mended 48 rfl) rfl rfl ?_
    refine x_bipush hc (v := 99) (xd dk_N_mended 49 rfl) (by decide) ?_
    by_cases q32 : xin v1 400 = true
    case neg => rw [if_neg q32] at hf; cases hf
    rw [if_pos q32] at hf
    refine x_iast hc (cA (xMd.ar hb 4 (by decide) rfl)) (xin_in q32) (xd dk_N_mended 50 rfl) ?_
    rw [wA (xMd.ar hb 4 (by decide) rfl)]
    replace hf := xlet_some hf
    generalize wI M (b + 4) v1.toNatClampNeg 99 = M at hf ⊢
    refine x_aload_n hc (xd dk_N_mended 51 rfl) rfl rfl ?_
    refine x_get hc (ci := 10) (k := 13) fi_N (c_N hb _) rfl (by decide) rfl xw1156 rfl (xd dk_N_mended 52 rfl) ?_
    refine x_iload_n hc (xd dk_N_mended 53 rfl) rfl rfl ?_
    refine x_iconst hc (v := 1) (xd dk_N_mended 54 rfl) (by decide) ?_
    refine x_iadd hc (xd dk_N_mended 55 rfl) ?_
    refine x_bipush hc (v := 111) (xd dk_N_mended 56 rfl) (by decide) ?_
    by_cases q33 : xin (v1 + 1) 400 = true
    case neg => rw [if_neg q33] at hf; cases hf
    rw [if_pos q33] at hf
    refine x_iast hc (cA (xMd.ar hb 4 (by decide) rfl)) (xin_in q33) (xd dk_N_mended 57 rfl) ?_
    rw [wA (xMd.ar hb 4 (by decide) rfl)]
    replace hf := xlet_some hf
    generalize wI M (b + 4) (v1 + 1).toNatClampNeg 111 = M at hf ⊢
    refine x_aload_n hc (xd dk_N_mended 58 rfl) rfl rfl ?_
    refine x_get hc (ci := 10) (k := 13) fi_N (c_N hb _) rfl (by decide) rfl xw1156 rfl (xd dk_N_mended 59 rfl) ?_
    refine x_iload_n hc (xd dk_N_mended 60 rfl) rfl rfl ?_
    refine x_iconst hc (v := 2) (xd dk_N_mended 61 rfl) (by decide) ?_
    refine x_iadd hc (xd dk_N_mended 62 rfl) ?_
    refine x_bipush hc (v := 110) (xd dk_N_mended 63 rfl) (by decide) ?_
    by_cases q34 : xin (v1 + 2) 400 = true
    case neg => rw [if_neg q34] at hf; cases hf
    rw [if_pos q34] at hf
    refine x_iast hc (cA (xMd.ar hb 4 (by decide) rfl)) (xin_in q34) (xd dk_N_mended 64 rfl) ?_
    rw [wA (xMd.ar hb 4 (by decide) rfl)]
    replace hf := xlet_some hf
    generalize wI M (b + 4) (v1 + 2).toNatClampNeg 110 = M at hf ⊢
    refine x_aload_n hc (xd dk_N_mended 65 rfl) rfl rfl ?_
    refine x_get hc (ci := 10) (k := 13) fi_N (c_N hb _) rfl (by decide) rfl xw1156 rfl (xd dk_N_mended 66 rfl) ?_
    refine x_iload_n hc (xd dk_N_mended 67 rfl) rfl rfl ?_
    refine x_iconst hc (v := 3) (xd dk_N_mended 68 rfl) (by decide) ?_
    refine x_iadd hc (xd dk_N_mended 69 rfl) ?_
    refine x_bipush hc (v := 115) (xd dk_N_mended 70 rfl) (by decide) ?_
    by_cases q35 : xin (v1 + 3) 400 = true
    case neg => rw [if_neg q35] at hf; cases hf
    rw [if_pos q35] at hf
    refine x_iast hc (cA (xMd.ar hb 4 (by decide) rfl)) (xin_in q35) (xd dk_N_mended 71 rfl) ?_
    rw [wA (xMd.ar hb 4 (by decide) rfl)]
    replace hf := xlet_some hf
    generalize wI M (b + 4) (v1 + 3).toNatClampNeg 115 = M at hf ⊢
    refine x_aload_n hc (xd dk_N_mended 72 rfl) rfl rfl ?_
    refine x_get hc (ci := 10) (k := 13) fi_N (c_N hb _) rfl (by decide) rfl xw1156 rfl (xd dk_N_mended 73 rfl) ?_
    refine x_iload_n hc (xd dk_N_mended 74 rfl) rfl rfl ?_
    refine x_iconst hc (v := 4) (xd dk_N_mended 75 rfl) (by decide) ?_
    refine x_iadd hc (xd dk_N_mended 76 rfl) ?_
    refine x_bipush hc (v := 116) (xd dk_N_mended 77 rfl) (by decide) ?_
    by_cases q36 : xin (v1 + 4) 400 = true
    case neg => rw [if_neg q36] at hf; cases hf
    rw [if_pos q36] at hf
    refine x_iast hc (cA (xMd.ar hb 4 (by decide) rfl)) (xin_in q36) (xd dk_N_mended 78 rfl) ?_
    rw [wA (xMd.ar hb 4 (by decide) rfl)]
    replace hf := xlet_some hf
    generalize wI M (b + 4) (v1 + 4).toNatClampNeg 116 = M at hf ⊢
    refine x_iinc hc (xd dk_N_mended 79 rfl) rfl (by decide) rfl ?_
    refine x_iinc hc (xd dk_N_mended 80 rfl) rfl (by decide) rfl ?_
    refine x_goto hc (tgt := 236) (xd dk_N_mended 81 rfl) rfl ?_
    exact s_N_mended_236 hc hR hb hk6 (v1 + Int32.ofInt 5) (v2 + Int32.ofInt 3) v3 w0 M hf
set_option maxRecDepth 100000 in
set_option maxHeartbeats 400000 in
theorem s_N_mended_73 {p : Program} {l : Launch} {e : Env} {R : Room} {s : State} {m : MethodId} {args : Array Value} {below : List Frame} {meth : Method} {c : Code} {G : xG} {Y : xY} {sz : Nat} {b : Nat}  (hc : xC p s m args meth c G 5 c_N_mended y_N_mended.cls (some .int)) (hR : xRm R 2) (hb : xMd Y b) {k6 : Int32 → Int32 → Int32 → xMem → Option (Int32 × xMem)} {M' : xMem} {r : Int32} (hk6 : ∀ (v1 : Int32) (v2 : Int32) (v3 : Int32) (M : xMem), k6 v1 v2 v3 M = some (r, M') → xW p l e R s m args below meth c G 5 (MQ below (xQc G (some (.int r)) (xo G Y M') sz) args s 0 0 (xA G)) (xo G Y M) sz 0 0 6 [some (.ref b), some (.int v1), some (.int v2), some (.int v3), none] []) (v1 : Int32) (v2 : Int32) (v3 : Int32) (M : xMem) (hf : f_N_mended_73 b k6 v1 v2 v3 M = some (r, M')) : xW p l e R s m args below meth c G 5 (MQ below (xQc G (some (.int r)) (xo G Y M') sz) args s 0 0 (xA G)) (xo G Y M) sz 0 0 73 [some (.ref b), some (.int v1), some (.int v2), some (.int v3), none] [] := by
  unfold f_N_mended_73 at hf
  refine x_iconst hc (v := (-1)) (xd dk_N_mended 41 rfl) (by decide) ?_
  exact s_N_mended_74 hc hR hb hk6 v1 v2 v3 (-1) M hf
set_option maxRecDepth 100000 in
set_option maxHeartbeats 400000 in
theorem s_N_mended_46 {p : Program} {l : Launch} {e : Env} {R : Room} {s : State} {m : MethodId} {args : Array Value} {below : List Frame} {meth : Method} {c : Code} {G : xG} {Y : xY} {sz : Nat} {b : Nat}  (hc : xC p s m args meth c G 5 c_N_mended y_N_mended.cls (some .int)) (hR : xRm R 2) (hb : xMd Y b) {k6 : Int32 → Int32 → Int32 → xMem → Option (Int32 × xMem)} {M' : xMem} {r : Int32} (hk6 : ∀ (v1 : Int32) (v2 : Int32) (v3 : Int32) (M : xMem), k6 v1 v2 v3 M = some (r, M') → xW p l e R s m args below meth c G 5 (MQ below (xQc G (some (.int r)) (xo G Y M') sz) args s 0 0 (xA G)) (xo G Y M) sz 0 0 6 [some (.ref b), some (.int v1), some (.int v2), some (.int v3), none] []) (v1 : Int32) (v2 : Int32) (v3 : Int32) (M : xMem) (hf : f_N_mended_46 b k6 v1 v2 v3 M = some (r, M')) : xW p l e R s m args below meth c G 5 (MQ below (xQc G (some (.int r)) (xo G Y M') sz) args s 0 0 (xA G)) (xo G Y M) sz 0 0 46 [some (.ref b), some (.int v1), some (.int v2), some (.int v3), none] [] := by
  unfold f_N_mended_46 at hf
  refine x_iload_n hc (xd dk_N_mended 26 rfl) rfl rfl ?_
  refine x_aload_n hc (xd dk_N_mended 27 rfl) rfl rfl ?_
  refine x_get hc (ci := 10) (k := 63) fi_N (c_N hb _) rfl (by decide) rfl xw1206 rfl (xd dk_N_mended 28 rfl) ?_
  refine x_icmp_ge hc (tgt := 73) (xd dk_N_mended 29 rfl) rfl (fun q37 => ?_) (fun q37 => ?_)
  · rw [if_pos q37] at hf
    exact s_N_mended_73 hc hR hb hk6 v1 v2 v3 M hf
  · rw [if_neg q37] at hf
    refine x_aload_n hc (xd dk_N_mended 30 rfl) rfl rfl ?_
    refine x_get hc (ci := 10) (k := 62) fi_N (c_N hb _) rfl (by decide) rfl xw1205 rfl (xd dk_N_mended 31 rfl) ?_
    refine x_iload_n hc (xd dk_N_mended 32 rfl) rfl rfl ?_
    by_cases q38 : xin v3 400 = true
    case neg => rw [if_neg q38] at hf; cases hf
    rw [if_pos q38] at hf
    refine x_iald hc (cA (xMd.ar hb 41 (by decide) rfl)) (xin_in q38) (xd dk_N_mended 33 rfl) ?_
    refine x_iload_n hc (xd dk_N_mended 34 rfl) rfl rfl ?_
    refine x_icmp_ne hc (tgt := 73) (xd dk_N_mended 35 rfl) rfl (fun q39 => ?_) (fun q39 => ?_)
    · rw [if_neg q39] at hf
      exact s_N_mended_73 hc hR hb hk6 v1 v2 v3 M hf
    · rw [if_pos q39] at hf
      refine x_aload_n hc (xd dk_N_mended 36 rfl) rfl rfl ?_
      refine x_get hc (ci := 10) (k := 61) fi_N (c_N hb _) rfl (by decide) rfl xw1204 rfl (xd dk_N_mended 37 rfl) ?_
      refine x_iload_n hc (xd dk_N_mended 38 rfl) rfl rfl ?_
      by_cases q40 : xin v3 400 = true
      case neg => rw [if_neg q40] at hf; cases hf
      rw [if_pos q40] at hf
      refine x_iald hc (cA (xMd.ar hb 40 (by decide) rfl)) (xin_in q40) (xd dk_N_mended 39 rfl) ?_
      refine x_goto hc (tgt := 74) (xd dk_N_mended 40 rfl) rfl ?_
      exact s_N_mended_74 hc hR hb hk6 v1 v2 v3 (M.1 (b + 40) v3.toNatClampNeg) M hf
set_option maxRecDepth 100000 in
set_option maxHeartbeats 400000 in
theorem s_N_mended_14 {p : Program} {l : Launch} {e : Env} {R : Room} {s : State} {m : MethodId} {args : Array Value} {below : List Frame} {meth : Method} {c : Code} {G : xG} {Y : xY} {sz : Nat} {b : Nat}  (hc : xC p s m args meth c G 5 c_N_mended y_N_mended.cls (some .int)) (hR : xRm R 2) (hb : xMd Y b) {k6 : Int32 → Int32 → Int32 → xMem → Option (Int32 × xMem)} {M' : xMem} {r : Int32} (hk6 : ∀ (v1 : Int32) (v2 : Int32) (v3 : Int32) (M : xMem), k6 v1 v2 v3 M = some (r, M') → xW p l e R s m args below meth c G 5 (MQ below (xQc G (some (.int r)) (xo G Y M') sz) args s 0 0 (xA G)) (xo G Y M) sz 0 0 6 [some (.ref b), some (.int v1), some (.int v2), some (.int v3), none] []) : ∀ (n : Nat) (v1 : Int32) (v2 : Int32) (v3 : Int32) (M : xMem), f_N_mended_14 b k6 n v1 v2 v3 M = some (r, M') → xW p l e R s m args below meth c G 5 (MQ below (xQc G (some (.int r)) (xo G Y M') sz) args s 0 0 (xA G)) (xo G Y M) sz 0 0 14 [some (.ref b), some (.int v1), some (.int v2), some (.int v3), none] [] := by
  intro n
  induction n with
  | zero => intro v1 v2 v3 M hf; simp only [f_N_mended_14] at hf; cases hf
  | succ n ih =>
    intro v1 v2 v3 M hf
    simp only [f_N_mended_14] at hf
    refine x_iload_n hc (xd dk_N_mended 10 rfl) rfl rfl ?_
    refine x_aload_n hc (xd dk_N_mended 11 rfl) rfl rfl ?_
    refine x_get hc (ci := 10) (k := 63) fi_N (c_N hb _) rfl (by decide) rfl xw1206 rfl (xd dk_N_mended 12 rfl) ?_
    refine x_icmp_ge hc (tgt := 46) (xd dk_N_mended 13 rfl) rfl (fun q41 => ?_) (fun q41 => ?_)
    · rw [if_pos q41] at hf
      exact s_N_mended_46 hc hR hb hk6 v1 v2 v3 M hf
    · rw [if_neg q41] at hf
      refine x_aload_n hc (xd dk_N_mended 14 rfl) rfl rfl ?_
      refine x_get hc (ci := 10) (k := 62) fi_N (c_N hb _) rfl (by decide) rfl xw1205 rfl (xd dk_N_mended 15 rfl) ?_
      refine x_iload_n hc (xd dk_N_mended 16 rfl) rfl rfl ?_
      by_cases q42 : xin v3 400 = true
      case neg => rw [if_neg q42] at hf; cases hf
      rw [if_pos q42] at hf
      refine x_iald hc (cA (xMd.ar hb 41 (by decide) rfl)) (xin_in q42) (xd dk_N_mended 17 rfl) ?_
      refine x_iload_n hc (xd dk_N_mended 18 rfl) rfl rfl ?_
      refine x_icmp_lt hc (tgt := 40) (xd dk_N_mended 19 rfl) rfl (fun q43 => ?_) (fun q43 => ?_)
      · rw [if_pos q43] at hf
        exact s_N_mended_40 hc hR hb hk6 ih v1 v2 v3 M hf
      · rw [if_neg q43] at hf
        refine x_aload_n hc (xd dk_N_mended 20 rfl) rfl rfl ?_
        refine x_iload_n hc (xd dk_N_mended 21 rfl) rfl rfl ?_
        obtain ⟨r44, M, e45, hf⟩ := xbind_some hf
        refine x_callV hc (As := [.int v3]) (n := 1) (s_N_goes hb e45) (c_N hb _) rfl (hR.call (by decide) (by decide)) ⟨by decide, by decide, by decide⟩ rfl rfl xw1413 xw18 xw1410 xw1412 xs_N_goes (Nat.le_of_ble_eq_true rfl) ⟨Nat.zero_le _, Nat.zero_le _⟩ (xd dk_N_mended 22 rfl) ?_
        refine x_if_ne hc (tgt := 46) (xd dk_N_mended 23 rfl) rfl (fun q46 => ?_) (fun q46 => ?_)
        · rw [if_neg q46] at hf
          exact s_N_mended_46 hc hR hb hk6 v1 v2 v3 M hf
        · rw [if_pos q46] at hf
          exact s_N_mended_40 hc hR hb hk6 ih v1 v2 v3 M hf
set_option maxRecDepth 100000 in
set_option maxHeartbeats 400000 in
theorem s_N_mended_6 {p : Program} {l : Launch} {e : Env} {R : Room} {s : State} {m : MethodId} {args : Array Value} {below : List Frame} {meth : Method} {c : Code} {G : xG} {Y : xY} {sz : Nat} {b : Nat}  (hc : xC p s m args meth c G 5 c_N_mended y_N_mended.cls (some .int)) (hR : xRm R 2) (hb : xMd Y b) {M' : xMem} {r : Int32} : ∀ (n : Nat) (v1 : Int32) (v2 : Int32) (v3 : Int32) (M : xMem), f_N_mended_6 b n v1 v2 v3 M = some (r, M') → xW p l e R s m args below meth c G 5 (MQ below (xQc G (some (.int r)) (xo G Y M') sz) args s 0 0 (xA G)) (xo G Y M) sz 0 0 6 [some (.ref b), some (.int v1), some (.int v2), some (.int v3), none] [] := by
  intro n
  induction n with
  | zero => intro v1 v2 v3 M hf; simp only [f_N_mended_6] at hf; cases hf
  | succ n ih =>
    intro v1 v2 v3 M hf
    simp only [f_N_mended_6] at hf
    refine x_iload_n hc (xd dk_N_mended 6 rfl) rfl rfl ?_
    refine x_aload_n hc (xd dk_N_mended 7 rfl) rfl rfl ?_
    refine x_get hc (ci := 10) (k := 2) fi_N (c_N hb _) rfl (by decide) rfl xw1145 rfl (xd dk_N_mended 8 rfl) ?_
    refine x_icmp_ge hc (tgt := 239) (xd dk_N_mended 9 rfl) rfl (fun q47 => ?_) (fun q47 => ?_)
    · rw [if_pos q47] at hf
      refine x_iload_n hc (xd dk_N_mended 134 rfl) rfl rfl ?_
      cases hf
      exact x_ireturn hc (xd dk_N_mended 135 rfl)
    · rw [if_neg q47] at hf
      exact s_N_mended_14 hc hR hb ih xFuel v1 v2 v3 M hf
set_option maxRecDepth 100000 in
set_option maxHeartbeats 400000 in
theorem s_N_mended {l : Launch} {G : xG} {Y : xY} {sz : Nat} {b : Nat}  (hb : xMd Y b) {M M' : xMem} {r : Int32} (hf : f_N_mended b M = some (r, M')) : xM l G y_N_mended c_N_mended 5 (some .int) 2 0 0 [.ref b] (xo G Y M) sz (some (.int r)) (xo G Y M') sz := by
  unfold f_N_mended at hf
  refine xM.of (k := 4) (L0 := [some (.ref b), none, none, none, none]) (by decide) (Nat.le_of_ble_eq_true rfl) rfl ?_
  intro p e s m args below meth c hc hnm
  have hR : xRm { frames := 2, cells := 0, slots := 0, locals := 48 * 2 } 2 := ⟨Nat.le_refl _, Nat.le_refl _⟩
  refine x_iconst hc (v := 0) (xd dk_N_mended 0 rfl) (by decide) ?_
  refine x_istore_n hc (xd dk_N_mended 1 rfl) (by decide) rfl ?_
  refine x_iconst hc (v := 0) (xd dk_N_mended 2 rfl) (by decide) ?_
  refine x_istore_n hc (xd dk_N_mended 3 rfl) (by decide) rfl ?_
  refine x_iconst hc (v := 0) (xd dk_N_mended 4 rfl) (by decide) ?_
  refine x_istore_n hc (xd dk_N_mended 5 rfl) (by decide) rfl ?_
  exact s_N_mended_6 hc hR hb xFuel 0 0 0 M hf
def f_N_count_58 (b : Nat) (p1 : Int32) (k38 : Int32 → Int32 → xMem → Option (Int32 × xMem)) (v2 : Int32) (v3 : Int32) (M : xMem) : Option (Int32 × xMem) :=
  (k38 v2 (v3 + Int32.ofInt 1) M)
def f_N_count_38 (b : Nat) (p1 : Int32) : Nat → Int32 → Int32 → xMem → Option (Int32 × xMem)
  | 0, _, _, _ => none
  | n + 1, v2, v3, M =>
    (if M.1 b 41 ≤ v3 then (if p1 = 0 then (some (M.1 b 2, M)) else if p1 = 1 then (some (M.1 b 9, M)) else if p1 = 2 then (some (M.1 b 63, M)) else if p1 = 3 then (some (M.1 b 36, M)) else if p1 = 4 then (some (M.1 b 27, M)) else if p1 = 5 then (some (v2, M)) else if p1 = 6 then (some (M.1 b 5, M)) else if p1 = 7 then (some (M.1 b 6, M)) else if p1 = 8 then (some (M.1 b 1, M)) else (some (M.1 b 64, M))) else (if xin v3 64 = true then if 0 ≤ M.1 (b + 26) v3.toNatClampNeg then (f_N_count_58 b p1 (f_N_count_38 b p1 n) v2 v3 M) else (f_N_count_58 b p1 (f_N_count_38 b p1 n) (v2 + Int32.ofInt 1) v3 M) else none))
def f_N_count_21 (b : Nat) (p1 : Int32) (w1 : Int32) (M : xMem) : Option (Int32 × xMem) :=
  (xbind (f_N_fails b w1 1 M) fun r20 M => if r20 = 0 then (xbind (f_N_looks b M) fun r23 M => f_N_count_38 b p1 xFuel 0 0 M) else (some (0, M)))
def f_N_count (b : Nat) (p1 : Int32) (M : xMem) : Option (Int32 × xMem) :=
  (xlet (wI M b 0 0) fun M => xbind (f_N_in p1 0 9 M) fun r25 M => if r25 = 0 then (f_N_count_21 b p1 1 M) else (f_N_count_21 b p1 0 M))
set_option maxRecDepth 100000 in
set_option maxHeartbeats 400000 in
theorem s_N_count_58 {p : Program} {l : Launch} {e : Env} {R : Room} {s : State} {m : MethodId} {args : Array Value} {below : List Frame} {meth : Method} {c : Code} {G : xG} {Y : xY} {sz : Nat} {b : Nat} {p1 : Int32}  (hc : xC p s m args meth c G 4 c_N_count y_N_count.cls (some .int)) (hR : xRm R 4) (hb : xMd Y b) {k38 : Int32 → Int32 → xMem → Option (Int32 × xMem)} {M' : xMem} {r : Int32} (hk38 : ∀ (v2 : Int32) (v3 : Int32) (M : xMem), k38 v2 v3 M = some (r, M') → xW p l e R s m args below meth c G 4 (MQ below (xQc G (some (.int r)) (xo G Y M') sz) args s 0 0 (xA G)) (xo G Y M) sz 0 0 38 [some (.ref b), some (.int p1), some (.int v2), some (.int v3)] []) (v2 : Int32) (v3 : Int32) (M : xMem) (hf : f_N_count_58 b p1 k38 v2 v3 M = some (r, M')) : xW p l e R s m args below meth c G 4 (MQ below (xQc G (some (.int r)) (xo G Y M') sz) args s 0 0 (xA G)) (xo G Y M) sz 0 0 58 [some (.ref b), some (.int p1), some (.int v2), some (.int v3)] [] := by
  unfold f_N_count_58 at hf
  refine x_iinc hc (xd dk_N_count 33 rfl) rfl (by decide) rfl ?_
  refine x_goto hc (tgt := 38) (xd dk_N_count 34 rfl) rfl ?_
  exact hk38 v2 (v3 + Int32.ofInt 1) M hf
set_option maxRecDepth 100000 in
set_option maxHeartbeats 400000 in
theorem s_N_count_38 {p : Program} {l : Launch} {e : Env} {R : Room} {s : State} {m : MethodId} {args : Array Value} {below : List Frame} {meth : Method} {c : Code} {G : xG} {Y : xY} {sz : Nat} {b : Nat} {p1 : Int32}  (hc : xC p s m args meth c G 4 c_N_count y_N_count.cls (some .int)) (hR : xRm R 4) (hb : xMd Y b) {M' : xMem} {r : Int32} : ∀ (n : Nat) (v2 : Int32) (v3 : Int32) (M : xMem), f_N_count_38 b p1 n v2 v3 M = some (r, M') → xW p l e R s m args below meth c G 4 (MQ below (xQc G (some (.int r)) (xo G Y M') sz) args s 0 0 (xA G)) (xo G Y M) sz 0 0 38 [some (.ref b), some (.int p1), some (.int v2), some (.int v3)] [] := by
  intro n
  induction n with
  | zero => intro v2 v3 M hf; simp only [f_N_count_38] at hf; cases hf
  | succ n ih =>
    intro v2 v3 M hf
    simp only [f_N_count_38] at hf
    refine x_iload_n hc (xd dk_N_count 23 rfl) rfl rfl ?_
    refine x_aload_n hc (xd dk_N_count 24 rfl) rfl rfl ?_
    refine x_get hc (ci := 10) (k := 41) fi_N (c_N hb _) rfl (by decide) rfl xw1184 rfl (xd dk_N_count 25 rfl) ?_
    refine x_icmp_ge hc (tgt := 64) (xd dk_N_count 26 rfl) rfl (fun q8 => ?_) (fun q8 => ?_)
    · rw [if_pos q8] at hf
      refine x_iload_n hc (xd dk_N_count 35 rfl) rfl rfl ?_
      by_cases q9 : p1 = 0
      case pos =>
        rw [if_pos q9] at hf
        refine x_tableIn hc (off := 51) (tgt := 116) (xd dk_N_count 36 rfl) (by rw [q9]; decide) (by rw [q9]; decide) (by rw [q9]; rfl) rfl ?_
        refine x_aload_n hc (xd dk_N_count 37 rfl) rfl rfl ?_
        refine x_get hc (ci := 10) (k := 2) fi_N (c_N hb _) rfl (by decide) rfl xw1145 rfl (xd dk_N_count 38 rfl) ?_
        cases hf
        exact x_ireturn hc (xd dk_N_count 39 rfl)
      rw [if_neg q9] at hf
      by_cases q10 : p1 = 1
      case pos =>
        rw [if_pos q10] at hf
        refine x_tableIn hc (off := 56) (tgt := 121) (xd dk_N_count 36 rfl) (by rw [q10]; decide) (by rw [q10]; decide) (by rw [q10]; rfl) rfl ?_
        refine x_aload_n hc (xd dk_N_count 40 rfl) rfl rfl ?_
        refine x_get hc (ci := 10) (k := 9) fi_N (c_N hb _) rfl (by decide) rfl xw1152 rfl (xd dk_N_count 41 rfl) ?_
        cases hf
        exact x_ireturn hc (xd dk_N_count 42 rfl)
      rw [if_neg q10] at hf
      by_cases q11 : p1 = 2
      case pos =>
        rw [if_pos q11] at hf
        refine x_tableIn hc (off := 61) (tgt := 126) (xd dk_N_count 36 rfl) (by rw [q11]; decide) (by rw [q11]; decide) (by rw [q11]; rfl) rfl ?_
        refine x_aload_n hc (xd dk_N_count 43 rfl) rfl rfl ?_
        refine x_get hc (ci := 10) (k := 63) fi_N (c_N hb _) rfl (by decide) rfl xw1206 rfl (xd dk_N_count 44 rfl) ?_
        cases hf
        exact x_ireturn hc (xd dk_N_count 45 rfl)
      rw [if_neg q11] at hf
      by_cases q12 : p1 = 3
      case pos =>
        rw [if_pos q12] at hf
        refine x_tableIn hc (off := 66) (tgt := 131) (xd dk_N_count 36 rfl) (by rw [q12]; decide) (by rw [q12]; decide) (by rw [q12]; rfl) rfl ?_
        refine x_aload_n hc (xd dk_N_count 46 rfl) rfl rfl ?_
        refine x_get hc (ci := 10) (k := 36) fi_N (c_N hb _) rfl (by decide) rfl xw1179 rfl (xd dk_N_count 47 rfl) ?_
        cases hf
        exact x_ireturn hc (xd dk_N_count 48 rfl)
      rw [if_neg q12] at hf
      by_cases q13 : p1 = 4
      case pos =>
        rw [if_pos q13] at hf
        refine x_tableIn hc (off := 71) (tgt := 136) (xd dk_N_count 36 rfl) (by rw [q13]; decide) (by rw [q13]; decide) (by rw [q13]; rfl) rfl ?_
        refine x_aload_n hc (xd dk_N_count 49 rfl) rfl rfl ?_
        refine x_get hc (ci := 10) (k := 27) fi_N (c_N hb _) rfl (by decide) rfl xw1170 rfl (xd dk_N_count 50 rfl) ?_
        cases hf
        exact x_ireturn hc (xd dk_N_count 51 rfl)
      rw [if_neg q13] at hf
      by_cases q14 : p1 = 5
      case pos =>
        rw [if_pos q14] at hf
        refine x_tableIn hc (off := 76) (tgt := 141) (xd dk_N_count 36 rfl) (by rw [q14]; decide) (by rw [q14]; decide) (by rw [q14]; rfl) rfl ?_
        refine x_iload_n hc (xd dk_N_count 52 rfl) rfl rfl ?_
        cases hf
        exact x_ireturn hc (xd dk_N_count 53 rfl)
      rw [if_neg q14] at hf
      by_cases q15 : p1 = 6
      case pos =>
        rw [if_pos q15] at hf
        refine x_tableIn hc (off := 78) (tgt := 143) (xd dk_N_count 36 rfl) (by rw [q15]; decide) (by rw [q15]; decide) (by rw [q15]; rfl) rfl ?_
        refine x_aload_n hc (xd dk_N_count 54 rfl) rfl rfl ?_
        refine x_get hc (ci := 10) (k := 5) fi_N (c_N hb _) rfl (by decide) rfl xw1148 rfl (xd dk_N_count 55 rfl) ?_
        cases hf
        exact x_ireturn hc (xd dk_N_count 56 rfl)
      rw [if_neg q15] at hf
      by_cases q16 : p1 = 7
      case pos =>
        rw [if_pos q16] at hf
        refine x_tableIn hc (off := 83) (tgt := 148) (xd dk_N_count 36 rfl) (by rw [q16]; decide) (by rw [q16]; decide) (by rw [q16]; rfl) rfl ?_
        refine x_aload_n hc (xd dk_N_count 57 rfl) rfl rfl ?_
        refine x_get hc (ci := 10) (k := 6) fi_N (c_N hb _) rfl (by decide) rfl xw1149 rfl (xd dk_N_count 58 rfl) ?_
        cases hf
        exact x_ireturn hc (xd dk_N_count 59 rfl)
      rw [if_neg q16] at hf
      by_cases q17 : p1 = 8
      case pos =>
        rw [if_pos q17] at hf
        refine x_tableIn hc (off := 88) (tgt := 153) (xd dk_N_count 36 rfl) (by rw [q17]; decide) (by rw [q17]; decide) (by rw [q17]; rfl) rfl ?_
        refine x_aload_n hc (xd dk_N_count 60 rfl) rfl rfl ?_
        refine x_get hc (ci := 10) (k := 1) fi_N (c_N hb _) rfl (by decide) rfl xw1144 rfl (xd dk_N_count 61 rfl) ?_
        cases hf
        exact x_ireturn hc (xd dk_N_count 62 rfl)
      rw [if_neg q17] at hf
      refine x_tableOut hc (tgt := 158) (xd dk_N_count 36 rfl) (by have q9n := xne (v := 0) q9 (by decide); have q10n := xne (v := 1) q10 (by decide); have q11n := xne (v := 2) q11 (by decide); have q12n := xne (v := 3) q12 (by decide); have q13n := xne (v := 4) q13 (by decide); have q14n := xne (v := 5) q14 (by decide); have q15n := xne (v := 6) q15 (by decide); have q16n := xne (v := 7) q16 (by decide); have q17n := xne (v := 8) q17 (by decide); omega) rfl ?_
      refine x_aload_n hc (xd dk_N_count 63 rfl) rfl rfl ?_
      refine x_get hc (ci := 10) (k := 64) fi_N (c_N hb _) rfl (by decide) rfl xw1207 rfl (xd dk_N_count 64 rfl) ?_
      cases hf
      exact x_ireturn hc (xd dk_N_count 65 rfl)
    · rw [if_neg q8] at hf
      refine x_aload_n hc (xd dk_N_count 27 rfl) rfl rfl ?_
      refine x_get hc (ci := 10) (k := 39) fi_N (c_N hb _) rfl (by decide) rfl xw1182 rfl (xd dk_N_count 28 rfl) ?_
      refine x_iload_n hc (xd dk_N_count 29 rfl) rfl rfl ?_
      by_cases q18 : xin v3 64 = true
      case neg => rw [if_neg q18] at hf; cases hf
      rw [if_pos q18] at hf
      refine x_iald hc (cA (xMd.ar hb 26 (by decide) rfl)) (xin_in q18) (xd dk_N_count 30 rfl) ?_
      refine x_if_ge hc (tgt := 58) (xd dk_N_count 31 rfl) rfl (fun q19 => ?_) (fun q19 => ?_)
      · rw [if_pos q19] at hf
        exact s_N_count_58 hc hR hb ih v2 v3 M hf
      · rw [if_neg q19] at hf
        refine x_iinc hc (xd dk_N_count 32 rfl) rfl (by decide) rfl ?_
        exact s_N_count_58 hc hR hb ih (v2 + Int32.ofInt 1) v3 M hf
set_option maxRecDepth 100000 in
set_option maxHeartbeats 400000 in
theorem s_N_count_21 {p : Program} {l : Launch} {e : Env} {R : Room} {s : State} {m : MethodId} {args : Array Value} {below : List Frame} {meth : Method} {c : Code} {G : xG} {Y : xY} {sz : Nat} {b : Nat} {p1 : Int32}  (hc : xC p s m args meth c G 4 c_N_count y_N_count.cls (some .int)) (hR : xRm R 4) (hb : xMd Y b) {M' : xMem} {r : Int32} (w1 : Int32) (M : xMem) (hf : f_N_count_21 b p1 w1 M = some (r, M')) : xW p l e R s m args below meth c G 4 (MQ below (xQc G (some (.int r)) (xo G Y M') sz) args s 0 0 (xA G)) (xo G Y M) sz 0 0 21 [some (.ref b), some (.int p1), none, none] [.int w1, .ref b] := by
  unfold f_N_count_21 at hf
  refine x_iconst hc (v := 1) (xd dk_N_count 12 rfl) (by decide) ?_
  obtain ⟨r20, M, e21, hf⟩ := xbind_some hf
  refine x_callV hc (As := [.int w1, .int 1]) (n := 2) (s_N_fails hb e21) (c_N hb _) rfl (hR.call (by decide) (by decide)) ⟨by decide, by decide, by decide⟩ rfl rfl xw1357 xw18 xw1354 xw1356 xs_N_fails (Nat.le_of_ble_eq_true rfl) ⟨Nat.zero_le _, Nat.zero_le _⟩ (xd dk_N_count 13 rfl) ?_
  refine x_if_eq hc (tgt := 30) (xd dk_N_count 14 rfl) rfl (fun q22 => ?_) (fun q22 => ?_)
  · rw [if_pos q22] at hf
    refine x_aload_n hc (xd dk_N_count 17 rfl) rfl rfl ?_
    obtain ⟨r23, M, e24, hf⟩ := xbind_some hf
    refine x_callV hc (As := []) (n := 0) (s_N_looks hb e24) (c_N hb _) rfl (hR.call (by decide) (by decide)) ⟨by decide, by decide, by decide⟩ rfl rfl xw1369 xw18 xw1366 xw1368 xs_N_looks (Nat.le_of_ble_eq_true rfl) ⟨Nat.zero_le _, Nat.zero_le _⟩ (xd dk_N_count 18 rfl) ?_
    refine x_iconst hc (v := 0) (xd dk_N_count 19 rfl) (by decide) ?_
    refine x_istore_n hc (xd dk_N_count 20 rfl) (by decide) rfl ?_
    refine x_iconst hc (v := 0) (xd dk_N_count 21 rfl) (by decide) ?_
    refine x_istore_n hc (xd dk_N_count 22 rfl) (by decide) rfl ?_
    exact s_N_count_38 hc hR hb xFuel 0 0 M hf
  · rw [if_neg q22] at hf
    refine x_iconst hc (v := 0) (xd dk_N_count 15 rfl) (by decide) ?_
    cases hf
    exact x_ireturn hc (xd dk_N_count 16 rfl)
set_option maxRecDepth 100000 in
set_option maxHeartbeats 400000 in
theorem s_N_count {l : Launch} {G : xG} {Y : xY} {sz : Nat} {b : Nat} {p1 : Int32}  (hb : xMd Y b) {M M' : xMem} {r : Int32} (hf : f_N_count b p1 M = some (r, M')) : xM l G y_N_count c_N_count 4 (some .int) 4 0 0 [.ref b, .int p1] (xo G Y M) sz (some (.int r)) (xo G Y M') sz := by
  unfold f_N_count at hf
  refine xM.of (k := 2) (L0 := [some (.ref b), some (.int p1), none, none]) (by decide) (Nat.le_of_ble_eq_true rfl) rfl ?_
  intro p e s m args below meth c hc hnm
  have hR : xRm { frames := 4, cells := 0, slots := 0, locals := 48 * 4 } 4 := ⟨Nat.le_refl _, Nat.le_refl _⟩
  refine x_aload_n hc (xd dk_N_count 0 rfl) rfl rfl ?_
  refine x_iconst hc (v := 0) (xd dk_N_count 1 rfl) (by decide) ?_
  refine x_put hc (ci := 10) (k := 0) fi_N ft_N ft_N_ok fn_N (c_N hb _) rfl (by decide) rfl xw1143 rfl rfl rfl (Nat.le_of_ble_eq_true rfl) (xd dk_N_count 2 rfl) ?_
  rw [w_N_0 hb]
  replace hf := xlet_some hf
  generalize wI M b 0 0 = M at hf ⊢
  refine x_aload_n hc (xd dk_N_count 3 rfl) rfl rfl ?_
  refine x_iload_n hc (xd dk_N_count 4 rfl) rfl rfl ?_
  refine x_iconst hc (v := 0) (xd dk_N_count 5 rfl) (by decide) ?_
  refine x_bipush hc (v := 9) (xd dk_N_count 6 rfl) (by decide) ?_
  obtain ⟨r25, M, e26, hf⟩ := xbind_some hf
  refine x_callS hc (As := [.int p1, .int 0, .int 9]) (n := 3) (s_N_in e26) (hR.call (by decide) (by decide)) ⟨by decide, by decide, by decide⟩ rfl rfl xw1043 xw18 xw1041 xw1042 (Nat.le_of_ble_eq_true rfl) ⟨Nat.zero_le _, Nat.zero_le _⟩ (xd dk_N_count 7 rfl) ?_
  refine x_if_ne hc (tgt := 20) (xd dk_N_count 8 rfl) rfl (fun q27 => ?_) (fun q27 => ?_)
  · rw [if_neg q27] at hf
    refine x_iconst hc (v := 0) (xd dk_N_count 11 rfl) (by decide) ?_
    exact s_N_count_21 hc hR hb 0 M hf
  · rw [if_pos q27] at hf
    refine x_iconst hc (v := 1) (xd dk_N_count 9 rfl) (by decide) ?_
    refine x_goto hc (tgt := 21) (xd dk_N_count 10 rfl) rfl ?_
    exact s_N_count_21 hc hR hb 1 M hf
def f_N_cuts_43 (b : Nat) (k9 : Int32 → Int32 → xMem → Option (Unit × xMem)) (k13 : Int32 → Int32 → xMem → Option (Unit × xMem)) (v1 : Int32) (v2 : Int32) (M : xMem) : Option (Unit × xMem) :=
  (k13 (v1 + Int32.ofInt 1) v2 M)
def f_N_cuts_137 (b : Nat) (k9 : Int32 → Int32 → xMem → Option (Unit × xMem)) (k115 : Int32 → Int32 → Int32 → xMem → Option (Unit × xMem)) (v1 : Int32) (v2 : Int32) (v3 : Int32) (M : xMem) : Option (Unit × xMem) :=
  (k115 (v1 + Int32.ofInt 1) v2 v3 M)
def f_N_cuts_287 (b : Nat) (k9 : Int32 → Int32 → xMem → Option (Unit × xMem)) (v1 : Int32) (v2 : Int32) (v3 : Int32) (M : xMem) : Option (Unit × xMem) :=
  (k9 v1 v2 M)
def f_N_cuts_272 (b : Nat) (k9 : Int32 → Int32 → xMem → Option (Unit × xMem)) (v1 : Int32) (v2 : Int32) (v3 : Int32) (w0 : Int32) (M : xMem) : Option (Unit × xMem) :=
  (if w0 = 0 then (f_N_cuts_287 b k9 v1 w0 v3 M) else (xval ((M.1 b 9) + 1) fun x41 => xlet (wI M b 9 x41) fun M => f_N_cuts_287 b k9 v1 w0 v3 M))
def f_N_cuts_271 (b : Nat) (k9 : Int32 → Int32 → xMem → Option (Unit × xMem)) (v1 : Int32) (v2 : Int32) (v3 : Int32) (M : xMem) : Option (Unit × xMem) :=
  (f_N_cuts_272 b k9 v1 v2 v3 0 M)
def f_N_cuts_247 (b : Nat) (k9 : Int32 → Int32 → xMem → Option (Unit × xMem)) (v1 : Int32) (v2 : Int32) (v3 : Int32) (M : xMem) : Option (Unit × xMem) :=
  (if xin v3 64 = true then if M.1 (b + 8) v3.toNatClampNeg = 0 then (f_N_cuts_271 b k9 v1 v2 v3 M) else (if xin v3 64 = true then if M.1 (b + 8) v3.toNatClampNeg = 27 then (f_N_cuts_271 b k9 v1 v2 v3 M) else (f_N_cuts_272 b k9 v1 v2 v3 1 M) else none) else none)
def f_N_cuts_115 (b : Nat) (k9 : Int32 → Int32 → xMem → Option (Unit × xMem)) : Nat → Int32 → Int32 → Int32 → xMem → Option (Unit × xMem)
  | 0, _, _, _, _ => none
  | n + 1, v1, v2, v3, M =>
    (xbind (f_N_c b v1 M) fun r46 M => xbind (f_N_isLetter r46 M) fun r48 M => if r48 = 0 then (xbind (f_N_c b v1 M) fun r51 M => xbind (f_N_isDigit r51 M) fun r53 M => if r53 = 0 then (if xin v3 64 = true then xlet (wI M (b + 10) v3.toNatClampNeg v1) fun M => xbind (f_N_word b v3 M) fun r57 M => if xin v3 64 = true then xlet (wI M (b + 8) v3.toNatClampNeg r57) fun M => f_N_cuts_247 b k9 v1 v2 v3 M else none else none) else (f_N_cuts_137 b k9 (f_N_cuts_115 b k9 n) v1 v2 v3 M)) else (f_N_cuts_137 b k9 (f_N_cuts_115 b k9 n) v1 v2 v3 M))
def f_N_cuts_176 (b : Nat) (k9 : Int32 → Int32 → xMem → Option (Unit × xMem)) : Nat → Int32 → Int32 → Int32 → xMem → Option (Unit × xMem)
  | 0, _, _, _, _ => none
  | n + 1, v1, v2, v3, M =>
    (xbind (f_N_c b v1 M) fun r60 M => xbind (f_N_isDigit r60 M) fun r62 M => if r62 = 0 then (if xin v3 64 = true then xlet (wI M (b + 10) v3.toNatClampNeg v1) fun M => if xin v3 64 = true then xlet (wI M (b + 8) v3.toNatClampNeg 2) fun M => f_N_cuts_247 b k9 v1 v2 v3 M else none else none) else (f_N_cuts_176 b k9 n (v1 + Int32.ofInt 1) v2 v3 M))
def f_N_cuts_239 (b : Nat) (k9 : Int32 → Int32 → xMem → Option (Unit × xMem)) (v1 : Int32) (v2 : Int32) (v3 : Int32) (w1 : Int32) (w2 : Int32) (M : xMem) : Option (Unit × xMem) :=
  (if xin w1 64 = true then xlet (wI M (b + 8) w1.toNatClampNeg w2) fun M => if xin v3 64 = true then f_N_cuts_247 b k9 (M.1 (b + 10) v3.toNatClampNeg) v2 v3 M else none else none)
def f_N_cuts_49 (b : Nat) (k9 : Int32 → Int32 → xMem → Option (Unit × xMem)) (v1 : Int32) (v2 : Int32) (M : xMem) : Option (Unit × xMem) :=
  (xval (M.1 b 9) fun x69 => if xin x69 64 = true then xlet (wI M (b + 9) x69.toNatClampNeg v1) fun M => if xin x69 64 = true then xlet (wI M (b + 10) x69.toNatClampNeg v1) fun M => if v1 = M.1 b 2 then (if xin x69 64 = true then xlet (wI M (b + 8) x69.toNatClampNeg 0) fun M => f_N_cuts_247 b k9 v1 v2 x69 M else none) else (if x69 = 60 then (if xin x69 64 = true then xlet (wI M (b + 8) x69.toNatClampNeg 27) fun M => f_N_cuts_247 b k9 v1 v2 x69 M else none) else (if xin v1 160 = true then xval (M.1 (b + 2) v1.toNatClampNeg) fun x75 => xbind (f_N_isLetter x75 M) fun r76 M => if r76 = 0 then (if xin v1 160 = true then xval (M.1 (b + 2) v1.toNatClampNeg) fun x80 => xbind (f_N_isDigit x80 M) fun r81 M => if r81 = 0 then (if xin v1 160 = true then if M.1 (b + 2) v1.toNatClampNeg = 39 then (xbind (f_N_quoted b x69 M) fun r88 M => f_N_cuts_239 b k9 v1 v2 x69 x69 r88 M) else (xbind (f_N_sign b x69 M) fun r86 M => f_N_cuts_239 b k9 v1 v2 x69 x69 r86 M) else none) else (f_N_cuts_176 b k9 xFuel v1 v2 x69 M) else none) else (f_N_cuts_115 b k9 xFuel v1 v2 x69 M) else none)) else none else none)
def f_N_cuts_13 (b : Nat) (k9 : Int32 → Int32 → xMem → Option (Unit × xMem)) : Nat → Int32 → Int32 → xMem → Option (Unit × xMem)
  | 0, _, _, _ => none
  | n + 1, v1, v2, M =>
    (if M.1 b 2 ≤ v1 then (f_N_cuts_49 b k9 v1 v2 M) else (if xin v1 160 = true then if M.1 (b + 2) v1.toNatClampNeg = 32 then (f_N_cuts_43 b k9 (f_N_cuts_13 b k9 n) v1 v2 M) else (if xin v1 160 = true then if M.1 (b + 2) v1.toNatClampNeg = 10 then (f_N_cuts_43 b k9 (f_N_cuts_13 b k9 n) v1 v2 M) else (f_N_cuts_49 b k9 v1 v2 M) else none) else none))
def f_N_cuts_9 (b : Nat) : Nat → Int32 → Int32 → xMem → Option (Unit × xMem)
  | 0, _, _, _ => none
  | n + 1, v1, v2, M =>
    (if v2 = 0 then (some ((), M)) else (f_N_cuts_13 b (f_N_cuts_9 b n) xFuel v1 v2 M))
def f_N_cuts (b : Nat) (M : xMem) : Option (Unit × xMem) :=
  (xlet (wI M b 9 0) fun M => f_N_cuts_9 b xFuel 0 1 M)
set_option maxRecDepth 100000 in
set_option maxHeartbeats 400000 in
theorem s_N_cuts_43 {p : Program} {l : Launch} {e : Env} {R : Room} {s : State} {m : MethodId} {args : Array Value} {below : List Frame} {meth : Method} {c : Code} {G : xG} {Y : xY} {sz : Nat} {b : Nat}  (hc : xC p s m args meth c G 4 c_N_cuts y_N_cuts.cls none) (hR : xRm R 2) (hb : xMd Y b) {k9 : Int32 → Int32 → xMem → Option (Unit × xMem)} {k13 : Int32 → Int32 → xMem → Option (Unit × xMem)} {M' : xMem} {r : Unit} (hk9 : ∀ (v1 : Int32) (v2 : Int32) (M : xMem), k9 v1 v2 M = some (r, M') → xW p l e R s m args below meth c G 4 (MQ below (xQc G none (xo G Y M') sz) args s 0 0 (xA G)) (xo G Y M) sz 0 0 9 [some (.ref b), some (.int v1), some (.int v2), none] []) (hk13 : ∀ (v1 : Int32) (v2 : Int32) (M : xMem), k13 v1 v2 M = some (r, M') → xW p l e R s m args below meth c G 4 (MQ below (xQc G none (xo G Y M') sz) args s 0 0 (xA G)) (xo G Y M) sz 0 0 13 [some (.ref b), some (.int v1), some (.int v2), none] []) (v1 : Int32) (v2 : Int32) (M : xMem) (hf : f_N_cuts_43 b k9 k13 v1 v2 M = some (r, M')) : xW p l e R s m args below meth c G 4 (MQ below (xQc G none (xo G Y M') sz) args s 0 0 (xA G)) (xo G Y M) sz 0 0 43 [some (.ref b), some (.int v1), some (.int v2), none] [] := by
  unfold f_N_cuts_43 at hf
  refine x_iinc hc (xd dk_N_cuts 25 rfl) rfl (by decide) rfl ?_
  refine x_goto hc (tgt := 13) (xd dk_N_cuts 26 rfl) rfl ?_
  exact hk13 (v1 + Int32.ofInt 1) v2 M hf
set_option maxRecDepth 100000 in
set_option maxHeartbeats 400000 in
theorem s_N_cuts_137 {p : Program} {l : Launch} {e : Env} {R : Room} {s : State} {m : MethodId} {args : Array Value} {below : List Frame} {meth : Method} {c : Code} {G : xG} {Y : xY} {sz : Nat} {b : Nat}  (hc : xC p s m args meth c G 4 c_N_cuts y_N_cuts.cls none) (hR : xRm R 2) (hb : xMd Y b) {k9 : Int32 → Int32 → xMem → Option (Unit × xMem)} {k115 : Int32 → Int32 → Int32 → xMem → Option (Unit × xMem)} {M' : xMem} {r : Unit} (hk9 : ∀ (v1 : Int32) (v2 : Int32) (M : xMem), k9 v1 v2 M = some (r, M') → xW p l e R s m args below meth c G 4 (MQ below (xQc G none (xo G Y M') sz) args s 0 0 (xA G)) (xo G Y M) sz 0 0 9 [some (.ref b), some (.int v1), some (.int v2), none] []) (hk115 : ∀ (v1 : Int32) (v2 : Int32) (v3 : Int32) (M : xMem), k115 v1 v2 v3 M = some (r, M') → xW p l e R s m args below meth c G 4 (MQ below (xQc G none (xo G Y M') sz) args s 0 0 (xA G)) (xo G Y M) sz 0 0 115 [some (.ref b), some (.int v1), some (.int v2), some (.int v3)] []) (v1 : Int32) (v2 : Int32) (v3 : Int32) (M : xMem) (hf : f_N_cuts_137 b k9 k115 v1 v2 v3 M = some (r, M')) : xW p l e R s m args below meth c G 4 (MQ below (xQc G none (xo G Y M') sz) args s 0 0 (xA G)) (xo G Y M) sz 0 0 137 [some (.ref b), some (.int v1), some (.int v2), some (.int v3)] [] := by
  unfold f_N_cuts_137 at hf
  refine x_iinc hc (xd dk_N_cuts 75 rfl) rfl (by decide) rfl ?_
  refine x_goto hc (tgt := 115) (xd dk_N_cuts 76 rfl) rfl ?_
  exact hk115 (v1 + Int32.ofInt 1) v2 v3 M hf
set_option maxRecDepth 100000 in
set_option maxHeartbeats 400000 in
theorem s_N_cuts_287 {p : Program} {l : Launch} {e : Env} {R : Room} {s : State} {m : MethodId} {args : Array Value} {below : List Frame} {meth : Method} {c : Code} {G : xG} {Y : xY} {sz : Nat} {b : Nat}  (hc : xC p s m args meth c G 4 c_N_cuts y_N_cuts.cls none) (hR : xRm R 2) (hb : xMd Y b) {k9 : Int32 → Int32 → xMem → Option (Unit × xMem)} {M' : xMem} {r : Unit} (hk9 : ∀ (v1 : Int32) (v2 : Int32) (M : xMem), k9 v1 v2 M = some (r, M') → xW p l e R s m args below meth c G 4 (MQ below (xQc G none (xo G Y M') sz) args s 0 0 (xA G)) (xo G Y M) sz 0 0 9 [some (.ref b), some (.int v1), some (.int v2), none] []) (v1 : Int32) (v2 : Int32) (v3 : Int32) (M : xMem) (hf : f_N_cuts_287 b k9 v1 v2 v3 M = some (r, M')) : xW p l e R s m args below meth c G 4 (MQ below (xQc G none (xo G Y M') sz) args s 0 0 (xA G)) (xo G Y M) sz 0 0 287 [some (.ref b), some (.int v1), some (.int v2), some (.int v3)] [] := by
  unfold f_N_cuts_287 at hf
  refine x_goto hc (tgt := 9) (xd dk_N_cuts 159 rfl) rfl ?_
  refine x_drop 3 ?_
  exact hk9 v1 v2 M hf
set_option maxRecDepth 100000 in
set_option maxHeartbeats 400000 in
theorem s_N_cuts_272 {p : Program} {l : Launch} {e : Env} {R : Room} {s : State} {m : MethodId} {args : Array Value} {below : List Frame} {meth : Method} {c : Code} {G : xG} {Y : xY} {sz : Nat} {b : Nat}  (hc : xC p s m args meth c G 4 c_N_cuts y_N_cuts.cls none) (hR : xRm R 2) (hb : xMd Y b) {k9 : Int32 → Int32 → xMem → Option (Unit × xMem)} {M' : xMem} {r : Unit} (hk9 : ∀ (v1 : Int32) (v2 : Int32) (M : xMem), k9 v1 v2 M = some (r, M') → xW p l e R s m args below meth c G 4 (MQ below (xQc G none (xo G Y M') sz) args s 0 0 (xA G)) (xo G Y M) sz 0 0 9 [some (.ref b), some (.int v1), some (.int v2), none] []) (v1 : Int32) (v2 : Int32) (v3 : Int32) (w0 : Int32) (M : xMem) (hf : f_N_cuts_272 b k9 v1 v2 v3 w0 M = some (r, M')) : xW p l e R s m args below meth c G 4 (MQ below (xQc G none (xo G Y M') sz) args s 0 0 (xA G)) (xo G Y M) sz 0 0 272 [some (.ref b), some (.int v1), some (.int v2), some (.int v3)] [.int w0] := by
  unfold f_N_cuts_272 at hf
  refine x_istore_n hc (xd dk_N_cuts 150 rfl) (by decide) rfl ?_
  refine x_iload_n hc (xd dk_N_cuts 151 rfl) rfl rfl ?_
  refine x_if_eq hc (tgt := 287) (xd dk_N_cuts 152 rfl) rfl (fun q40 => ?_) (fun q40 => ?_)
  · rw [if_pos q40] at hf
    exact s_N_cuts_287 hc hR hb hk9 v1 w0 v3 M hf
  · rw [if_neg q40] at hf
    refine x_aload_n hc (xd dk_N_cuts 153 rfl) rfl rfl ?_
    refine x_dup hc (xd dk_N_cuts 154 rfl) rfl ?_
    refine x_get hc (ci := 10) (k := 9) fi_N (c_N hb _) rfl (by decide) rfl xw1152 rfl (xd dk_N_cuts 155 rfl) ?_
    refine x_iconst hc (v := 1) (xd dk_N_cuts 156 rfl) (by decide) ?_
    refine x_iadd hc (xd dk_N_cuts 157 rfl) ?_
    obtain ⟨x41, hx41, hf⟩ := xval_ex hf
    rw [← hx41]
    refine x_put hc (ci := 10) (k := 9) fi_N ft_N ft_N_ok fn_N (c_N hb _) rfl (by decide) rfl xw1152 rfl rfl rfl (Nat.le_of_ble_eq_true rfl) (xd dk_N_cuts 158 rfl) ?_
    rw [w_N_9 hb]
    replace hf := xlet_some hf
    generalize wI M b 9 x41 = M at hf ⊢
    exact s_N_cuts_287 hc hR hb hk9 v1 w0 v3 M hf
set_option maxRecDepth 100000 in
set_option maxHeartbeats 400000 in
theorem s_N_cuts_271 {p : Program} {l : Launch} {e : Env} {R : Room} {s : State} {m : MethodId} {args : Array Value} {below : List Frame} {meth : Method} {c : Code} {G : xG} {Y : xY} {sz : Nat} {b : Nat}  (hc : xC p s m args meth c G 4 c_N_cuts y_N_cuts.cls none) (hR : xRm R 2) (hb : xMd Y b) {k9 : Int32 → Int32 → xMem → Option (Unit × xMem)} {M' : xMem} {r : Unit} (hk9 : ∀ (v1 : Int32) (v2 : Int32) (M : xMem), k9 v1 v2 M = some (r, M') → xW p l e R s m args below meth c G 4 (MQ below (xQc G none (xo G Y M') sz) args s 0 0 (xA G)) (xo G Y M) sz 0 0 9 [some (.ref b), some (.int v1), some (.int v2), none] []) (v1 : Int32) (v2 : Int32) (v3 : Int32) (M : xMem) (hf : f_N_cuts_271 b k9 v1 v2 v3 M = some (r, M')) : xW p l e R s m args below meth c G 4 (MQ below (xQc G none (xo G Y M') sz) args s 0 0 (xA G)) (xo G Y M) sz 0 0 271 [some (.ref b), some (.int v1), some (.int v2), some (.int v3)] [] := by
  unfold f_N_cuts_271 at hf
  refine x_iconst hc (v := 0) (xd dk_N_cuts 149 rfl) (by decide) ?_
  exact s_N_cuts_272 hc hR hb hk9 v1 v2 v3 0 M hf
set_option maxRecDepth 100000 in
set_option maxHeartbeats 400000 in
theorem s_N_cuts_247 {p : Program} {l : Launch} {e : Env} {R : Room} {s : State} {m : MethodId} {args : Array Value} {below : List Frame} {meth : Method} {c : Code} {G : xG} {Y : xY} {sz : Nat} {b : Nat}  (hc : xC p s m args meth c G 4 c_N_cuts y_N_cuts.cls none) (hR : xRm R 2) (hb : xMd Y b) {k9 : Int32 → Int32 → xMem → Option (Unit × xMem)} {M' : xMem} {r : Unit} (hk9 : ∀ (v1 : Int32) (v2 : Int32) (M : xMem), k9 v1 v2 M = some (r, M') → xW p l e R s m args below meth c G 4 (MQ below (xQc G none (xo G Y M') sz) args s 0 0 (xA G)) (xo G Y M) sz 0 0 9 [some (.ref b), some (.int v1), some (.int v2), none] []) (v1 : Int32) (v2 : Int32) (v3 : Int32) (M : xMem) (hf : f_N_cuts_247 b k9 v1 v2 v3 M = some (r, M')) : xW p l e R s m args below meth c G 4 (MQ below (xQc G none (xo G Y M') sz) args s 0 0 (xA G)) (xo G Y M) sz 0 0 247 [some (.ref b), some (.int v1), some (.int v2), some (.int v3)] [] := by
  unfold f_N_cuts_247 at hf
  refine x_aload_n hc (xd dk_N_cuts 136 rfl) rfl rfl ?_
  refine x_get hc (ci := 10) (k := 17) fi_N (c_N hb _) rfl (by decide) rfl xw1160 rfl (xd dk_N_cuts 137 rfl) ?_
  refine x_iload_n hc (xd dk_N_cuts 138 rfl) rfl rfl ?_
  by_cases q42 : xin v3 64 = true
  case neg => rw [if_neg q42] at hf; cases hf
  rw [if_pos q42] at hf
  refine x_iald hc (cA (xMd.ar hb 8 (by decide) rfl)) (xin_in q42) (xd dk_N_cuts 139 rfl) ?_
  refine x_if_eq hc (tgt := 271) (xd dk_N_cuts 140 rfl) rfl (fun q43 => ?_) (fun q43 => ?_)
  · rw [if_pos q43] at hf
    exact s_N_cuts_271 hc hR hb hk9 v1 v2 v3 M hf
  · rw [if_neg q43] at hf
    refine x_aload_n hc (xd dk_N_cuts 141 rfl) rfl rfl ?_
    refine x_get hc (ci := 10) (k := 17) fi_N (c_N hb _) rfl (by decide) rfl xw1160 rfl (xd dk_N_cuts 142 rfl) ?_
    refine x_iload_n hc (xd dk_N_cuts 143 rfl) rfl rfl ?_
    by_cases q44 : xin v3 64 = true
    case neg => rw [if_neg q44] at hf; cases hf
    rw [if_pos q44] at hf
    refine x_iald hc (cA (xMd.ar hb 8 (by decide) rfl)) (xin_in q44) (xd dk_N_cuts 144 rfl) ?_
    refine x_bipush hc (v := 27) (xd dk_N_cuts 145 rfl) (by decide) ?_
    refine x_icmp_eq hc (tgt := 271) (xd dk_N_cuts 146 rfl) rfl (fun q45 => ?_) (fun q45 => ?_)
    · rw [if_pos q45] at hf
      exact s_N_cuts_271 hc hR hb hk9 v1 v2 v3 M hf
    · rw [if_neg q45] at hf
      refine x_iconst hc (v := 1) (xd dk_N_cuts 147 rfl) (by decide) ?_
      refine x_goto hc (tgt := 272) (xd dk_N_cuts 148 rfl) rfl ?_
      exact s_N_cuts_272 hc hR hb hk9 v1 v2 v3 1 M hf
set_option maxRecDepth 100000 in
set_option maxHeartbeats 400000 in
theorem s_N_cuts_115 {p : Program} {l : Launch} {e : Env} {R : Room} {s : State} {m : MethodId} {args : Array Value} {below : List Frame} {meth : Method} {c : Code} {G : xG} {Y : xY} {sz : Nat} {b : Nat}  (hc : xC p s m args meth c G 4 c_N_cuts y_N_cuts.cls none) (hR : xRm R 2) (hb : xMd Y b) {k9 : Int32 → Int32 → xMem → Option (Unit × xMem)} {M' : xMem} {r : Unit} (hk9 : ∀ (v1 : Int32) (v2 : Int32) (M : xMem), k9 v1 v2 M = some (r, M') → xW p l e R s m args below meth c G 4 (MQ below (xQc G none (xo G Y M') sz) args s 0 0 (xA G)) (xo G Y M) sz 0 0 9 [some (.ref b), some (.int v1), some (.int v2), none] []) : ∀ (n : Nat) (v1 : Int32) (v2 : Int32) (v3 : Int32) (M : xMem), f_N_cuts_115 b k9 n v1 v2 v3 M = some (r, M') → xW p l e R s m args below meth c G 4 (MQ below (xQc G none (xo G Y M') sz) args s 0 0 (xA G)) (xo G Y M) sz 0 0 115 [some (.ref b), some (.int v1), some (.int v2), some (.int v3)] [] := by
  intro n
  induction n with
  | zero => intro v1 v2 v3 M hf; simp only [f_N_cuts_115] at hf; cases hf
  | succ n ih =>
    intro v1 v2 v3 M hf
    simp only [f_N_cuts_115] at hf
    refine x_aload_n hc (xd dk_N_cuts 65 rfl) rfl rfl ?_
    refine x_iload_n hc (xd dk_N_cuts 66 rfl) rfl rfl ?_
    obtain ⟨r46, M, e47, hf⟩ := xbind_some hf
    refine x_callV hc (As := [.int v1]) (n := 1) (s_N_c hb e47) (c_N hb _) rfl (hR.call (by decide) (by decide)) ⟨by decide, by decide, by decide⟩ rfl rfl xw1047 xw18 xw1044 xw1046 xs_N_c (Nat.le_of_ble_eq_true rfl) ⟨Nat.zero_le _, Nat.zero_le _⟩ (xd dk_N_cuts 67 rfl) ?_
    obtain ⟨r48, M, e49, hf⟩ := xbind_some hf
    refine x_callS hc (As := [.int r46]) (n := 1) (s_N_isLetter e49) (hR.call (by decide) (by decide)) ⟨by decide, by decide, by decide⟩ rfl rfl xw1040 xw18 xw1038 xw1039 (Nat.le_of_ble_eq_true rfl) ⟨Nat.zero_le _, Nat.zero_le _⟩ (xd dk_N_cuts 68 rfl) ?_
    refine x_if_ne hc (tgt := 137) (xd dk_N_cuts 69 rfl) rfl (fun q50 => ?_) (fun q50 => ?_)
    · rw [if_neg q50] at hf
      exact s_N_cuts_137 hc hR hb hk9 ih v1 v2 v3 M hf
    · rw [if_pos q50] at hf
      refine x_aload_n hc (xd dk_N_cuts 70 rfl) rfl rfl ?_
      refine x_iload_n hc (xd dk_N_cuts 71 rfl) rfl rfl ?_
      obtain ⟨r51, M, e52, hf⟩ := xbind_some hf
      refine x_callV hc (As := [.int v1]) (n := 1) (s_N_c hb e52) (c_N hb _) rfl (hR.call (by decide) (by decide)) ⟨by decide, by decide, by decide⟩ rfl rfl xw1047 xw18 xw1044 xw1046 xs_N_c (Nat.le_of_ble_eq_true rfl) ⟨Nat.zero_le _, Nat.zero_le _⟩ (xd dk_N_cuts 72 rfl) ?_
      obtain ⟨r53, M, e54, hf⟩ := xbind_some hf
      refine x_callS hc (As := [.int r51]) (n := 1) (s_N_isDigit e54) (hR.call (by decide) (by decide)) ⟨by decide, by decide, by decide⟩ rfl rfl xw1050 xw18 xw1048 xw1049 (Nat.le_of_ble_eq_true rfl) ⟨Nat.zero_le _, Nat.zero_le _⟩ (xd dk_N_cuts 73 rfl) ?_
      refine x_if_eq hc (tgt := 143) (xd dk_N_cuts 74 rfl) rfl (fun q55 => ?_) (fun q55 => ?_)
      · rw [if_pos q55] at hf
        refine x_aload_n hc (xd dk_N_cuts 77 rfl) rfl rfl ?_
        refine x_get hc (ci := 10) (k := 19) fi_N (c_N hb _) rfl (by decide) rfl xw1162 rfl (xd dk_N_cuts 78 rfl) ?_
        refine x_iload_n hc (xd dk_N_cuts 79 rfl) rfl rfl ?_
        refine x_iload_n hc (xd dk_N_cuts 80 rfl) rfl rfl ?_
        by_cases q56 : xin v3 64 = true
        case neg => rw [if_neg q56] at hf; cases hf
        rw [if_pos q56] at hf
        refine x_iast hc (cA (xMd.ar hb 10 (by decide) rfl)) (xin_in q56) (xd dk_N_cuts 81 rfl) ?_
        rw [wA (xMd.ar hb 10 (by decide) rfl)]
        replace hf := xlet_some hf
        generalize wI M (b + 10) v3.toNatClampNeg v1 = M at hf ⊢
        refine x_aload_n hc (xd dk_N_cuts 82 rfl) rfl rfl ?_
        refine x_get hc (ci := 10) (k := 17) fi_N (c_N hb _) rfl (by decide) rfl xw1160 rfl (xd dk_N_cuts 83 rfl) ?_
        refine x_iload_n hc (xd dk_N_cuts 84 rfl) rfl rfl ?_
        refine x_aload_n hc (xd dk_N_cuts 85 rfl) rfl rfl ?_
        refine x_iload_n hc (xd dk_N_cuts 86 rfl) rfl rfl ?_
        obtain ⟨r57, M, e58, hf⟩ := xbind_some hf
        refine x_callV hc (As := [.int v3]) (n := 1) (s_N_word hb e58) (c_N hb _) rfl (hR.call (by decide) (by decide)) ⟨by decide, by decide, by decide⟩ rfl rfl xw1054 xw18 xw1051 xw1053 xs_N_word (Nat.le_of_ble_eq_true rfl) ⟨Nat.zero_le _, Nat.zero_le _⟩ (xd dk_N_cuts 87 rfl) ?_
        by_cases q59 : xin v3 64 = true
        case neg => rw [if_neg q59] at hf; cases hf
        rw [if_pos q59] at hf
        refine x_iast hc (cA (xMd.ar hb 8 (by decide) rfl)) (xin_in q59) (xd dk_N_cuts 88 rfl) ?_
        rw [wA (xMd.ar hb 8 (by decide) rfl)]
        replace hf := xlet_some hf
        generalize wI M (b + 8) v3.toNatClampNeg r57 = M at hf ⊢
        refine x_goto hc (tgt := 247) (xd dk_N_cuts 89 rfl) rfl ?_
        exact s_N_cuts_247 hc hR hb hk9 v1 v2 v3 M hf
      · rw [if_neg q55] at hf
        exact s_N_cuts_137 hc hR hb hk9 ih v1 v2 v3 M hf
set_option maxRecDepth 100000 in
set_option maxHeartbeats 400000 in
theorem s_N_cuts_176 {p : Program} {l : Launch} {e : Env} {R : Room} {s : State} {m : MethodId} {args : Array Value} {below : List Frame} {meth : Method} {c : Code} {G : xG} {Y : xY} {sz : Nat} {b : Nat}  (hc : xC p s m args meth c G 4 c_N_cuts y_N_cuts.cls none) (hR : xRm R 2) (hb : xMd Y b) {k9 : Int32 → Int32 → xMem → Option (Unit × xMem)} {M' : xMem} {r : Unit} (hk9 : ∀ (v1 : Int32) (v2 : Int32) (M : xMem), k9 v1 v2 M = some (r, M') → xW p l e R s m args below meth c G 4 (MQ below (xQc G none (xo G Y M') sz) args s 0 0 (xA G)) (xo G Y M) sz 0 0 9 [some (.ref b), some (.int v1), some (.int v2), none] []) : ∀ (n : Nat) (v1 : Int32) (v2 : Int32) (v3 : Int32) (M : xMem), f_N_cuts_176 b k9 n v1 v2 v3 M = some (r, M') → xW p l e R s m args below meth c G 4 (MQ below (xQc G none (xo G Y M') sz) args s 0 0 (xA G)) (xo G Y M) sz 0 0 176 [some (.ref b), some (.int v1), some (.int v2), some (.int v3)] [] := by
  intro n
  induction n with
  | zero => intro v1 v2 v3 M hf; simp only [f_N_cuts_176] at hf; cases hf
  | succ n ih =>
    intro v1 v2 v3 M hf
    simp only [f_N_cuts_176] at hf
    refine x_aload_n hc (xd dk_N_cuts 96 rfl) rfl rfl ?_
    refine x_iload_n hc (xd dk_N_cuts 97 rfl) rfl rfl ?_
    obtain ⟨r60, M, e61, hf⟩ := xbind_some hf
    refine x_callV hc (As := [.int v1]) (n := 1) (s_N_c hb e61) (c_N hb _) rfl (hR.call (by decide) (by decide)) ⟨by decide, by decide, by decide⟩ rfl rfl xw1047 xw18 xw1044 xw1046 xs_N_c (Nat.le_of_ble_eq_true rfl) ⟨Nat.zero_le _, Nat.zero_le _⟩ (xd dk_N_cuts 98 rfl) ?_
    obtain ⟨r62, M, e63, hf⟩ := xbind_some hf
    refine x_callS hc (As := [.int r60]) (n := 1) (s_N_isDigit e63) (hR.call (by decide) (by decide)) ⟨by decide, by decide, by decide⟩ rfl rfl xw1050 xw18 xw1048 xw1049 (Nat.le_of_ble_eq_true rfl) ⟨Nat.zero_le _, Nat.zero_le _⟩ (xd dk_N_cuts 99 rfl) ?_
    refine x_if_eq hc (tgt := 193) (xd dk_N_cuts 100 rfl) rfl (fun q64 => ?_) (fun q64 => ?_)
    · rw [if_pos q64] at hf
      refine x_aload_n hc (xd dk_N_cuts 103 rfl) rfl rfl ?_
      refine x_get hc (ci := 10) (k := 19) fi_N (c_N hb _) rfl (by decide) rfl xw1162 rfl (xd dk_N_cuts 104 rfl) ?_
      refine x_iload_n hc (xd dk_N_cuts 105 rfl) rfl rfl ?_
      refine x_iload_n hc (xd dk_N_cuts 106 rfl) rfl rfl ?_
      by_cases q65 : xin v3 64 = true
      case neg => rw [if_neg q65] at hf; cases hf
      rw [if_pos q65] at hf
      refine x_iast hc (cA (xMd.ar hb 10 (by decide) rfl)) (xin_in q65) (xd dk_N_cuts 107 rfl) ?_
      rw [wA (xMd.ar hb 10 (by decide) rfl)]
      replace hf := xlet_some hf
      generalize wI M (b + 10) v3.toNatClampNeg v1 = M at hf ⊢
      refine x_aload_n hc (xd dk_N_cuts 108 rfl) rfl rfl ?_
      refine x_get hc (ci := 10) (k := 17) fi_N (c_N hb _) rfl (by decide) rfl xw1160 rfl (xd dk_N_cuts 109 rfl) ?_
      refine x_iload_n hc (xd dk_N_cuts 110 rfl) rfl rfl ?_
      refine x_iconst hc (v := 2) (xd dk_N_cuts 111 rfl) (by decide) ?_
      by_cases q66 : xin v3 64 = true
      case neg => rw [if_neg q66] at hf; cases hf
      rw [if_pos q66] at hf
      refine x_iast hc (cA (xMd.ar hb 8 (by decide) rfl)) (xin_in q66) (xd dk_N_cuts 112 rfl) ?_
      rw [wA (xMd.ar hb 8 (by decide) rfl)]
      replace hf := xlet_some hf
      generalize wI M (b + 8) v3.toNatClampNeg 2 = M at hf ⊢
      refine x_goto hc (tgt := 247) (xd dk_N_cuts 113 rfl) rfl ?_
      exact s_N_cuts_247 hc hR hb hk9 v1 v2 v3 M hf
    · rw [if_neg q64] at hf
      refine x_iinc hc (xd dk_N_cuts 101 rfl) rfl (by decide) rfl ?_
      refine x_goto hc (tgt := 176) (xd dk_N_cuts 102 rfl) rfl ?_
      exact ih (v1 + Int32.ofInt 1) v2 v3 M hf
set_option maxRecDepth 100000 in
set_option maxHeartbeats 400000 in
theorem s_N_cuts_239 {p : Program} {l : Launch} {e : Env} {R : Room} {s : State} {m : MethodId} {args : Array Value} {below : List Frame} {meth : Method} {c : Code} {G : xG} {Y : xY} {sz : Nat} {b : Nat}  (hc : xC p s m args meth c G 4 c_N_cuts y_N_cuts.cls none) (hR : xRm R 2) (hb : xMd Y b) {k9 : Int32 → Int32 → xMem → Option (Unit × xMem)} {M' : xMem} {r : Unit} (hk9 : ∀ (v1 : Int32) (v2 : Int32) (M : xMem), k9 v1 v2 M = some (r, M') → xW p l e R s m args below meth c G 4 (MQ below (xQc G none (xo G Y M') sz) args s 0 0 (xA G)) (xo G Y M) sz 0 0 9 [some (.ref b), some (.int v1), some (.int v2), none] []) (v1 : Int32) (v2 : Int32) (v3 : Int32) (w1 : Int32) (w2 : Int32) (M : xMem) (hf : f_N_cuts_239 b k9 v1 v2 v3 w1 w2 M = some (r, M')) : xW p l e R s m args below meth c G 4 (MQ below (xQc G none (xo G Y M') sz) args s 0 0 (xA G)) (xo G Y M) sz 0 0 239 [some (.ref b), some (.int v1), some (.int v2), some (.int v3)] [.int w2, .int w1, .ref (b + 8)] := by
  unfold f_N_cuts_239 at hf
  by_cases q67 : xin w1 64 = true
  case neg => rw [if_neg q67] at hf; cases hf
  rw [if_pos q67] at hf
  refine x_iast hc (cA (xMd.ar hb 8 (by decide) rfl)) (xin_in q67) (xd dk_N_cuts 130 rfl) ?_
  rw [wA (xMd.ar hb 8 (by decide) rfl)]
  replace hf := xlet_some hf
  generalize wI M (b + 8) w1.toNatClampNeg w2 = M at hf ⊢
  refine x_aload_n hc (xd dk_N_cuts 131 rfl) rfl rfl ?_
  refine x_get hc (ci := 10) (k := 19) fi_N (c_N hb _) rfl (by decide) rfl xw1162 rfl (xd dk_N_cuts 132 rfl) ?_
  refine x_iload_n hc (xd dk_N_cuts 133 rfl) rfl rfl ?_
  by_cases q68 : xin v3 64 = true
  case neg => rw [if_neg q68] at hf; cases hf
  rw [if_pos q68] at hf
  refine x_iald hc (cA (xMd.ar hb 10 (by decide) rfl)) (xin_in q68) (xd dk_N_cuts 134 rfl) ?_
  refine x_istore_n hc (xd dk_N_cuts 135 rfl) (by decide) rfl ?_
  exact s_N_cuts_247 hc hR hb hk9 (M.1 (b + 10) v3.toNatClampNeg) v2 v3 M hf
set_option maxRecDepth 100000 in
set_option maxHeartbeats 400000 in
theorem s_N_cuts_49 {p : Program} {l : Launch} {e : Env} {R : Room} {s : State} {m : MethodId} {args : Array Value} {below : List Frame} {meth : Method} {c : Code} {G : xG} {Y : xY} {sz : Nat} {b : Nat}  (hc : xC p s m args meth c G 4 c_N_cuts y_N_cuts.cls none) (hR : xRm R 2) (hb : xMd Y b) {k9 : Int32 → Int32 → xMem → Option (Unit × xMem)} {M' : xMem} {r : Unit} (hk9 : ∀ (v1 : Int32) (v2 : Int32) (M : xMem), k9 v1 v2 M = some (r, M') → xW p l e R s m args below meth c G 4 (MQ below (xQc G none (xo G Y M') sz) args s 0 0 (xA G)) (xo G Y M) sz 0 0 9 [some (.ref b), some (.int v1), some (.int v2), none] []) (v1 : Int32) (v2 : Int32) (M : xMem) (hf : f_N_cuts_49 b k9 v1 v2 M = some (r, M')) : xW p l e R s m args below meth c G 4 (MQ below (xQc G none (xo G Y M') sz) args s 0 0 (xA G)) (xo G Y M) sz 0 0 49 [some (.ref b), some (.int v1), some (.int v2), none] [] := by
  unfold f_N_cuts_49 at hf
  refine x_aload_n hc (xd dk_N_cuts 27 rfl) rfl rfl ?_
  refine x_get hc (ci := 10) (k := 9) fi_N (c_N hb _) rfl (by decide) rfl xw1152 rfl (xd dk_N_cuts 28 rfl) ?_
  refine x_istore_n hc (xd dk_N_cuts 29 rfl) (by decide) rfl ?_
  refine x_aload_n hc (xd dk_N_cuts 30 rfl) rfl rfl ?_
  refine x_get hc (ci := 10) (k := 18) fi_N (c_N hb _) rfl (by decide) rfl xw1161 rfl (xd dk_N_cuts 31 rfl) ?_
  refine x_iload_n hc (xd dk_N_cuts 32 rfl) rfl rfl ?_
  refine x_iload_n hc (xd dk_N_cuts 33 rfl) rfl rfl ?_
  obtain ⟨x69, hx69, hf⟩ := xval_ex hf
  rw [← hx69]
  by_cases q70 : xin x69 64 = true
  case neg => rw [if_neg q70] at hf; cases hf
  rw [if_pos q70] at hf
  refine x_iast hc (cA (xMd.ar hb 9 (by decide) rfl)) (xin_in q70) (xd dk_N_cuts 34 rfl) ?_
  rw [wA (xMd.ar hb 9 (by decide) rfl)]
  replace hf := xlet_some hf
  generalize wI M (b + 9) x69.toNatClampNeg v1 = M at hf ⊢
  refine x_aload_n hc (xd dk_N_cuts 35 rfl) rfl rfl ?_
  refine x_get hc (ci := 10) (k := 19) fi_N (c_N hb _) rfl (by decide) rfl xw1162 rfl (xd dk_N_cuts 36 rfl) ?_
  refine x_iload_n hc (xd dk_N_cuts 37 rfl) rfl rfl ?_
  refine x_iload_n hc (xd dk_N_cuts 38 rfl) rfl rfl ?_
  by_cases q71 : xin x69 64 = true
  case neg => rw [if_neg q71] at hf; cases hf
  rw [if_pos q71] at hf
  refine x_iast hc (cA (xMd.ar hb 10 (by decide) rfl)) (xin_in q71) (xd dk_N_cuts 39 rfl) ?_
  rw [wA (xMd.ar hb 10 (by decide) rfl)]
  replace hf := xlet_some hf
  generalize wI M (b + 10) x69.toNatClampNeg v1 = M at hf ⊢
  refine x_iload_n hc (xd dk_N_cuts 40 rfl) rfl rfl ?_
  refine x_aload_n hc (xd dk_N_cuts 41 rfl) rfl rfl ?_
  refine x_get hc (ci := 10) (k := 2) fi_N (c_N hb _) rfl (by decide) rfl xw1145 rfl (xd dk_N_cuts 42 rfl) ?_
  refine x_icmp_ne hc (tgt := 86) (xd dk_N_cuts 43 rfl) rfl (fun q72 => ?_) (fun q72 => ?_)
  · rw [if_neg q72] at hf
    refine x_iload_n hc (xd dk_N_cuts 50 rfl) rfl rfl ?_
    refine x_bipush hc (v := 60) (xd dk_N_cuts 51 rfl) (by decide) ?_
    refine x_icmp_ne hc (tgt := 103) (xd dk_N_cuts 52 rfl) rfl (fun q73 => ?_) (fun q73 => ?_)
    · rw [if_neg q73] at hf
      refine x_aload_n hc (xd dk_N_cuts 59 rfl) rfl rfl ?_
      refine x_get hc (ci := 10) (k := 11) fi_N (c_N hb _) rfl (by decide) rfl xw1154 rfl (xd dk_N_cuts 60 rfl) ?_
      refine x_iload_n hc (xd dk_N_cuts 61 rfl) rfl rfl ?_
      by_cases q74 : xin v1 160 = true
      case neg => rw [if_neg q74] at hf; cases hf
      rw [if_pos q74] at hf
      refine x_iald hc (cA (xMd.ar hb 2 (by decide) rfl)) (xin_in q74) (xd dk_N_cuts 62 rfl) ?_
      obtain ⟨x75, hx75, hf⟩ := xval_ex hf
      rw [← hx75]
      obtain ⟨r76, M, e77, hf⟩ := xbind_some hf
      refine x_callS hc (As := [.int x75]) (n := 1) (s_N_isLetter e77) (hR.call (by decide) (by decide)) ⟨by decide, by decide, by decide⟩ rfl rfl xw1040 xw18 xw1038 xw1039 (Nat.le_of_ble_eq_true rfl) ⟨Nat.zero_le _, Nat.zero_le _⟩ (xd dk_N_cuts 63 rfl) ?_
      refine x_if_eq hc (tgt := 164) (xd dk_N_cuts 64 rfl) rfl (fun q78 => ?_) (fun q78 => ?_)
      · rw [if_pos q78] at hf
        refine x_aload_n hc (xd dk_N_cuts 90 rfl) rfl rfl ?_
        refine x_get hc (ci := 10) (k := 11) fi_N (c_N hb _) rfl (by decide) rfl xw1154 rfl (xd dk_N_cuts 91 rfl) ?_
        refine x_iload_n hc (xd dk_N_cuts 92 rfl) rfl rfl ?_
        by_cases q79 : xin v1 160 = true
        case neg => rw [if_neg q79] at hf; cases hf
        rw [if_pos q79] at hf
        refine x_iald hc (cA (xMd.ar hb 2 (by decide) rfl)) (xin_in q79) (xd dk_N_cuts 93 rfl) ?_
        obtain ⟨x80, hx80, hf⟩ := xval_ex hf
        rw [← hx80]
        obtain ⟨r81, M, e82, hf⟩ := xbind_some hf
        refine x_callS hc (As := [.int x80]) (n := 1) (s_N_isDigit e82) (hR.call (by decide) (by decide)) ⟨by decide, by decide, by decide⟩ rfl rfl xw1050 xw18 xw1048 xw1049 (Nat.le_of_ble_eq_true rfl) ⟨Nat.zero_le _, Nat.zero_le _⟩ (xd dk_N_cuts 94 rfl) ?_
        refine x_if_eq hc (tgt := 210) (xd dk_N_cuts 95 rfl) rfl (fun q83 => ?_) (fun q83 => ?_)
        · rw [if_pos q83] at hf
          refine x_aload_n hc (xd dk_N_cuts 114 rfl) rfl rfl ?_
          refine x_get hc (ci := 10) (k := 17) fi_N (c_N hb _) rfl (by decide) rfl xw1160 rfl (xd dk_N_cuts 115 rfl) ?_
          refine x_iload_n hc (xd dk_N_cuts 116 rfl) rfl rfl ?_
          refine x_aload_n hc (xd dk_N_cuts 117 rfl) rfl rfl ?_
          refine x_get hc (ci := 10) (k := 11) fi_N (c_N hb _) rfl (by decide) rfl xw1154 rfl (xd dk_N_cuts 118 rfl) ?_
          refine x_iload_n hc (xd dk_N_cuts 119 rfl) rfl rfl ?_
          by_cases q84 : xin v1 160 = true
          case neg => rw [if_neg q84] at hf; cases hf
          rw [if_pos q84] at hf
          refine x_iald hc (cA (xMd.ar hb 2 (by decide) rfl)) (xin_in q84) (xd dk_N_cuts 120 rfl) ?_
          refine x_bipush hc (v := 39) (xd dk_N_cuts 121 rfl) (by decide) ?_
          refine x_icmp_ne hc (tgt := 234) (xd dk_N_cuts 122 rfl) rfl (fun q85 => ?_) (fun q85 => ?_)
          · rw [if_neg q85] at hf
            refine x_aload_n hc (xd dk_N_cuts 127 rfl) rfl rfl ?_
            refine x_iload_n hc (xd dk_N_cuts 128 rfl) rfl rfl ?_
            obtain ⟨r86, M, e87, hf⟩ := xbind_some hf
            refine x_callV hc (As := [.int x69]) (n := 1) (s_N_sign hb e87) (c_N hb _) rfl (hR.call (by decide) (by decide)) ⟨by decide, by decide, by decide⟩ rfl rfl xw1066 xw18 xw1063 xw1065 xs_N_sign (Nat.le_of_ble_eq_true rfl) ⟨Nat.zero_le _, Nat.zero_le _⟩ (xd dk_N_cuts 129 rfl) ?_
            exact s_N_cuts_239 hc hR hb hk9 v1 v2 x69 x69 r86 M hf
          · rw [if_pos q85] at hf
            refine x_aload_n hc (xd dk_N_cuts 123 rfl) rfl rfl ?_
            refine x_iload_n hc (xd dk_N_cuts 124 rfl) rfl rfl ?_
            obtain ⟨r88, M, e89, hf⟩ := xbind_some hf
            refine x_callV hc (As := [.int x69]) (n := 1) (s_N_quoted hb e89) (c_N hb _) rfl (hR.call (by decide) (by decide)) ⟨by decide, by decide, by decide⟩ rfl rfl xw1062 xw18 xw1059 xw1061 xs_N_quoted (Nat.le_of_ble_eq_true rfl) ⟨Nat.zero_le _, Nat.zero_le _⟩ (xd dk_N_cuts 125 rfl) ?_
            refine x_goto hc (tgt := 239) (xd dk_N_cuts 126 rfl) rfl ?_
            exact s_N_cuts_239 hc hR hb hk9 v1 v2 x69 x69 r88 M hf
        · rw [if_neg q83] at hf
          exact s_N_cuts_176 hc hR hb hk9 xFuel v1 v2 x69 M hf
      · rw [if_neg q78] at hf
        exact s_N_cuts_115 hc hR hb hk9 xFuel v1 v2 x69 M hf
    · rw [if_pos q73] at hf
      refine x_aload_n hc (xd dk_N_cuts 53 rfl) rfl rfl ?_
      refine x_get hc (ci := 10) (k := 17) fi_N (c_N hb _) rfl (by decide) rfl xw1160 rfl (xd dk_N_cuts 54 rfl) ?_
      refine x_iload_n hc (xd dk_N_cuts 55 rfl) rfl rfl ?_
      refine x_bipush hc (v := 27) (xd dk_N_cuts 56 rfl) (by decide) ?_
      by_cases q90 : xin x69 64 = true
      case neg => rw [if_neg q90] at hf; cases hf
      rw [if_pos q90] at hf
      refine x_iast hc (cA (xMd.ar hb 8 (by decide) rfl)) (xin_in q90) (xd dk_N_cuts 57 rfl) ?_
      rw [wA (xMd.ar hb 8 (by decide) rfl)]
      replace hf := xlet_some hf
      generalize wI M (b + 8) x69.toNatClampNeg 27 = M at hf ⊢
      refine x_goto hc (tgt := 247) (xd dk_N_cuts 58 rfl) rfl ?_
      exact s_N_cuts_247 hc hR hb hk9 v1 v2 x69 M hf
  · rw [if_pos q72] at hf
    refine x_aload_n hc (xd dk_N_cuts 44 rfl) rfl rfl ?_
    refine x_get hc (ci := 10) (k := 17) fi_N (c_N hb _) rfl (by decide) rfl xw1160 rfl (xd dk_N_cuts 45 rfl) ?_
    refine x_iload_n hc (xd dk_N_cuts 46 rfl) rfl rfl ?_
    refine x_iconst hc (v := 0) (xd dk_N_cuts 47 rfl) (by decide) ?_
    by_cases q91 : xin x69 64 = true
    case neg => rw [if_neg q91] at hf; cases hf
    rw [if_pos q91] at hf
    refine x_iast hc (cA (xMd.ar hb 8 (by decide) rfl)) (xin_in q91) (xd dk_N_cuts 48 rfl) ?_
    rw [wA (xMd.ar hb 8 (by decide) rfl)]
    replace hf := xlet_some hf
    generalize wI M (b + 8) x69.toNatClampNeg 0 = M at hf ⊢
    refine x_goto hc (tgt := 247) (xd dk_N_cuts 49 rfl) rfl ?_
    exact s_N_cuts_247 hc hR hb hk9 v1 v2 x69 M hf
set_option maxRecDepth 100000 in
set_option maxHeartbeats 400000 in
theorem s_N_cuts_13 {p : Program} {l : Launch} {e : Env} {R : Room} {s : State} {m : MethodId} {args : Array Value} {below : List Frame} {meth : Method} {c : Code} {G : xG} {Y : xY} {sz : Nat} {b : Nat}  (hc : xC p s m args meth c G 4 c_N_cuts y_N_cuts.cls none) (hR : xRm R 2) (hb : xMd Y b) {k9 : Int32 → Int32 → xMem → Option (Unit × xMem)} {M' : xMem} {r : Unit} (hk9 : ∀ (v1 : Int32) (v2 : Int32) (M : xMem), k9 v1 v2 M = some (r, M') → xW p l e R s m args below meth c G 4 (MQ below (xQc G none (xo G Y M') sz) args s 0 0 (xA G)) (xo G Y M) sz 0 0 9 [some (.ref b), some (.int v1), some (.int v2), none] []) : ∀ (n : Nat) (v1 : Int32) (v2 : Int32) (M : xMem), f_N_cuts_13 b k9 n v1 v2 M = some (r, M') → xW p l e R s m args below meth c G 4 (MQ below (xQc G none (xo G Y M') sz) args s 0 0 (xA G)) (xo G Y M) sz 0 0 13 [some (.ref b), some (.int v1), some (.int v2), none] [] := by
  intro n
  induction n with
  | zero => intro v1 v2 M hf; simp only [f_N_cuts_13] at hf; cases hf
  | succ n ih =>
    intro v1 v2 M hf
    simp only [f_N_cuts_13] at hf
    refine x_iload_n hc (xd dk_N_cuts 9 rfl) rfl rfl ?_
    refine x_aload_n hc (xd dk_N_cuts 10 rfl) rfl rfl ?_
    refine x_get hc (ci := 10) (k := 2) fi_N (c_N hb _) rfl (by decide) rfl xw1145 rfl (xd dk_N_cuts 11 rfl) ?_
    refine x_icmp_ge hc (tgt := 49) (xd dk_N_cuts 12 rfl) rfl (fun q92 => ?_) (fun q92 => ?_)
    · rw [if_pos q92] at hf
      exact s_N_cuts_49 hc hR hb hk9 v1 v2 M hf
    · rw [if_neg q92] at hf
      refine x_aload_n hc (xd dk_N_cuts 13 rfl) rfl rfl ?_
      refine x_get hc (ci := 10) (k := 11) fi_N (c_N hb _) rfl (by decide) rfl xw1154 rfl (xd dk_N_cuts 14 rfl) ?_
      refine x_iload_n hc (xd dk_N_cuts 15 rfl) rfl rfl ?_
      by_cases q93 : xin v1 160 = true
      case neg => rw [if_neg q93] at hf; cases hf
      rw [if_pos q93] at hf
      refine x_iald hc (cA (xMd.ar hb 2 (by decide) rfl)) (xin_in q93) (xd dk_N_cuts 16 rfl) ?_
      refine x_bipush hc (v := 32) (xd dk_N_cuts 17 rfl) (by decide) ?_
      refine x_icmp_eq hc (tgt := 43) (xd dk_N_cuts 18 rfl) rfl (fun q94 => ?_) (fun q94 => ?_)
      · rw [if_pos q94] at hf
        exact s_N_cuts_43 hc hR hb hk9 ih v1 v2 M hf
      · rw [if_neg q94] at hf
        refine x_aload_n hc (xd dk_N_cuts 19 rfl) rfl rfl ?_
        refine x_get hc (ci := 10) (k := 11) fi_N (c_N hb _) rfl (by decide) rfl xw1154 rfl (xd dk_N_cuts 20 rfl) ?_
        refine x_iload_n hc (xd dk_N_cuts 21 rfl) rfl rfl ?_
        by_cases q95 : xin v1 160 = true
        case neg => rw [if_neg q95] at hf; cases hf
        rw [if_pos q95] at hf
        refine x_iald hc (cA (xMd.ar hb 2 (by decide) rfl)) (xin_in q95) (xd dk_N_cuts 22 rfl) ?_
        refine x_bipush hc (v := 10) (xd dk_N_cuts 23 rfl) (by decide) ?_
        refine x_icmp_ne hc (tgt := 49) (xd dk_N_cuts 24 rfl) rfl (fun q96 => ?_) (fun q96 => ?_)
        · rw [if_neg q96] at hf
          exact s_N_cuts_49 hc hR hb hk9 v1 v2 M hf
        · rw [if_pos q96] at hf
          exact s_N_cuts_43 hc hR hb hk9 ih v1 v2 M hf
set_option maxRecDepth 100000 in
set_option maxHeartbeats 400000 in
theorem s_N_cuts_9 {p : Program} {l : Launch} {e : Env} {R : Room} {s : State} {m : MethodId} {args : Array Value} {below : List Frame} {meth : Method} {c : Code} {G : xG} {Y : xY} {sz : Nat} {b : Nat}  (hc : xC p s m args meth c G 4 c_N_cuts y_N_cuts.cls none) (hR : xRm R 2) (hb : xMd Y b) {M' : xMem} {r : Unit} : ∀ (n : Nat) (v1 : Int32) (v2 : Int32) (M : xMem), f_N_cuts_9 b n v1 v2 M = some (r, M') → xW p l e R s m args below meth c G 4 (MQ below (xQc G none (xo G Y M') sz) args s 0 0 (xA G)) (xo G Y M) sz 0 0 9 [some (.ref b), some (.int v1), some (.int v2), none] [] := by
  intro n
  induction n with
  | zero => intro v1 v2 M hf; simp only [f_N_cuts_9] at hf; cases hf
  | succ n ih =>
    intro v1 v2 M hf
    simp only [f_N_cuts_9] at hf
    refine x_iload_n hc (xd dk_N_cuts 7 rfl) rfl rfl ?_
    refine x_if_eq hc (tgt := 290) (xd dk_N_cuts 8 rfl) rfl (fun q97 => ?_) (fun q97 => ?_)
    · rw [if_pos q97] at hf
      cases hf
      exact x_return hc (xd dk_N_cuts 160 rfl)
    · rw [if_neg q97] at hf
      exact s_N_cuts_13 hc hR hb ih xFuel v1 v2 M hf
set_option maxRecDepth 100000 in
set_option maxHeartbeats 400000 in
theorem s_N_cuts {l : Launch} {G : xG} {Y : xY} {sz : Nat} {b : Nat}  (hb : xMd Y b) {M M' : xMem} {r : Unit} (hf : f_N_cuts b M = some (r, M')) : xM l G y_N_cuts c_N_cuts 4 none 2 0 0 [.ref b] (xo G Y M) sz none (xo G Y M') sz := by
  unfold f_N_cuts at hf
  refine xM.of (k := 3) (L0 := [some (.ref b), none, none, none]) (by decide) (Nat.le_of_ble_eq_true rfl) rfl ?_
  intro p e s m args below meth c hc hnm
  have hR : xRm { frames := 2, cells := 0, slots := 0, locals := 48 * 2 } 2 := ⟨Nat.le_refl _, Nat.le_refl _⟩
  refine x_iconst hc (v := 0) (xd dk_N_cuts 0 rfl) (by decide) ?_
  refine x_istore_n hc (xd dk_N_cuts 1 rfl) (by decide) rfl ?_
  refine x_aload_n hc (xd dk_N_cuts 2 rfl) rfl rfl ?_
  refine x_iconst hc (v := 0) (xd dk_N_cuts 3 rfl) (by decide) ?_
  refine x_put hc (ci := 10) (k := 9) fi_N ft_N ft_N_ok fn_N (c_N hb _) rfl (by decide) rfl xw1152 rfl rfl rfl (Nat.le_of_ble_eq_true rfl) (xd dk_N_cuts 4 rfl) ?_
  rw [w_N_9 hb]
  replace hf := xlet_some hf
  generalize wI M b 9 0 = M at hf ⊢
  refine x_iconst hc (v := 1) (xd dk_N_cuts 5 rfl) (by decide) ?_
  refine x_istore_n hc (xd dk_N_cuts 6 rfl) (by decide) rfl ?_
  exact s_N_cuts_9 hc hR hb xFuel 0 1 M hf
def f_N_declares_142 (b : Nat) (p1 : Int32) (p2 : Int32) (v3 : Int32) (v4 : Int32) (M : xMem) : Option (Int32 × xMem) :=
  (if xin v4 64 = true then xval ((M.1 (b + 21) v4.toNatClampNeg) + 1) fun x17 => if xin v4 64 = true then xlet (wI M (b + 21) v4.toNatClampNeg x17) fun M => some (v4, M) else none else none)
def f_N_declares_50 (b : Nat) (p1 : Int32) (p2 : Int32) (v3 : Int32) (v4 : Int32) (M : xMem) : Option (Int32 × xMem) :=
  (if xin p1 64 = true then xval (M.1 (b + 9) p1.toNatClampNeg) fun x20 => xval (M.1 b 54) fun x21 => if xin x21 64 = true then xlet (wI M (b + 28) x21.toNatClampNeg x20) fun M => xval ((M.1 b 54) + 1) fun x23 => xlet (wI M b 54 x23) fun M => f_N_declares_142 b p1 p2 v3 v4 M else none else none)
def f_N_declares_20 (b : Nat) (p1 : Int32) (p2 : Int32) (w0 : Int32) (M : xMem) : Option (Int32 × xMem) :=
  (xbind (f_N_thingIn b w0 p1 M) fun r24 M => if r24 < 0 then (xval ((M.1 b 36) + 1) fun x27 => xval (M.1 b 36) fun x28 => xlet (wI M b 36 x27) fun M => if xin x28 64 = true then xlet (wI M (b + 18) x28.toNatClampNeg p1) fun M => if xin x28 64 = true then xlet (wI M (b + 19) x28.toNatClampNeg w0) fun M => if xin x28 64 = true then xlet (wI M (b + 20) x28.toNatClampNeg p2) fun M => if xin x28 64 = true then xlet (wI M (b + 21) x28.toNatClampNeg 0) fun M => if xin x28 64 = true then xlet (wI M (b + 22) x28.toNatClampNeg 0) fun M => if xin x28 64 = true then xlet (wI M (b + 23) x28.toNatClampNeg 0) fun M => f_N_declares_142 b p1 p2 w0 x28 M else none else none else none else none else none else none) else (if p2 = 2 then (if xin r24 64 = true then if M.1 (b + 20) r24.toNatClampNeg = 2 then (f_N_declares_142 b p1 p2 w0 r24 M) else (f_N_declares_50 b p1 p2 w0 r24 M) else none) else (f_N_declares_50 b p1 p2 w0 r24 M)))
def f_N_declares (b : Nat) (p1 : Int32) (p2 : Int32) (M : xMem) : Option (Int32 × xMem) :=
  (if p2 = 2 then (xval (M.1 b 28) fun x39 => xbind (f_N_fnAround b x39 M) fun r40 M => f_N_declares_20 b p1 p2 r40 M) else (f_N_declares_20 b p1 p2 (M.1 b 28) M))
set_option maxRecDepth 100000 in
set_option maxHeartbeats 400000 in
theorem s_N_declares_142 {p : Program} {l : Launch} {e : Env} {R : Room} {s : State} {m : MethodId} {args : Array Value} {below : List Frame} {meth : Method} {c : Code} {G : xG} {Y : xY} {sz : Nat} {b : Nat} {p1 : Int32} {p2 : Int32}  (hc : xC p s m args meth c G 5 c_N_declares y_N_declares.cls (some .int)) (hR : xRm R 2) (hb : xMd Y b) {M' : xMem} {r : Int32} (v3 : Int32) (v4 : Int32) (M : xMem) (hf : f_N_declares_142 b p1 p2 v3 v4 M = some (r, M')) : xW p l e R s m args below meth c G 5 (MQ below (xQc G (some (.int r)) (xo G Y M') sz) args s 0 0 (xA G)) (xo G Y M) sz 0 0 142 [some (.ref b), some (.int p1), some (.int p2), some (.int v3), some (.int v4)] [] := by
  unfold f_N_declares_142 at hf
  refine x_aload_n hc (xd dk_N_declares 82 rfl) rfl rfl ?_
  refine x_get hc (ci := 10) (k := 33) fi_N (c_N hb _) rfl (by decide) rfl xw1176 rfl (xd dk_N_declares 83 rfl) ?_
  refine x_iload hc (xd dk_N_declares 84 rfl) rfl ?_
  refine x_dup2_11 hc (xd dk_N_declares 85 rfl) rfl rfl ?_
  by_cases q16 : xin v4 64 = true
  case neg => rw [if_neg q16] at hf; cases hf
  rw [if_pos q16] at hf
  refine x_iald hc (cA (xMd.ar hb 21 (by decide) rfl)) (xin_in q16) (xd dk_N_declares 86 rfl) ?_
  refine x_iconst hc (v := 1) (xd dk_N_declares 87 rfl) (by decide) ?_
  refine x_iadd hc (xd dk_N_declares 88 rfl) ?_
  obtain ⟨x17, hx17, hf⟩ := xval_ex hf
  rw [← hx17]
  by_cases q18 : xin v4 64 = true
  case neg => rw [if_neg q18] at hf; cases hf
  rw [if_pos q18] at hf
  refine x_iast hc (cA (xMd.ar hb 21 (by decide) rfl)) (xin_in q18) (xd dk_N_declares 89 rfl) ?_
  rw [wA (xMd.ar hb 21 (by decide) rfl)]
  replace hf := xlet_some hf
  generalize wI M (b + 21) v4.toNatClampNeg x17 = M at hf ⊢
  refine x_iload hc (xd dk_N_declares 90 rfl) rfl ?_
  cases hf
  exact x_ireturn hc (xd dk_N_declares 91 rfl)
set_option maxRecDepth 100000 in
set_option maxHeartbeats 400000 in
theorem s_N_declares_50 {p : Program} {l : Launch} {e : Env} {R : Room} {s : State} {m : MethodId} {args : Array Value} {below : List Frame} {meth : Method} {c : Code} {G : xG} {Y : xY} {sz : Nat} {b : Nat} {p1 : Int32} {p2 : Int32}  (hc : xC p s m args meth c G 5 c_N_declares y_N_declares.cls (some .int)) (hR : xRm R 2) (hb : xMd Y b) {M' : xMem} {r : Int32} (v3 : Int32) (v4 : Int32) (M : xMem) (hf : f_N_declares_50 b p1 p2 v3 v4 M = some (r, M')) : xW p l e R s m args below meth c G 5 (MQ below (xQc G (some (.int r)) (xo G Y M') sz) args s 0 0 (xA G)) (xo G Y M) sz 0 0 50 [some (.ref b), some (.int p1), some (.int p2), some (.int v3), some (.int v4)] [] := by
  unfold f_N_declares_50 at hf
  refine x_aload_n hc (xd dk_N_declares 27 rfl) rfl rfl ?_
  refine x_get hc (ci := 10) (k := 42) fi_N (c_N hb _) rfl (by decide) rfl xw1185 rfl (xd dk_N_declares 28 rfl) ?_
  refine x_aload_n hc (xd dk_N_declares 29 rfl) rfl rfl ?_
  refine x_get hc (ci := 10) (k := 54) fi_N (c_N hb _) rfl (by decide) rfl xw1197 rfl (xd dk_N_declares 30 rfl) ?_
  refine x_aload_n hc (xd dk_N_declares 31 rfl) rfl rfl ?_
  refine x_get hc (ci := 10) (k := 18) fi_N (c_N hb _) rfl (by decide) rfl xw1161 rfl (xd dk_N_declares 32 rfl) ?_
  refine x_iload_n hc (xd dk_N_declares 33 rfl) rfl rfl ?_
  by_cases q19 : xin p1 64 = true
  case neg => rw [if_neg q19] at hf; cases hf
  rw [if_pos q19] at hf
  refine x_iald hc (cA (xMd.ar hb 9 (by decide) rfl)) (xin_in q19) (xd dk_N_declares 34 rfl) ?_
  obtain ⟨x20, hx20, hf⟩ := xval_ex hf
  rw [← hx20]
  obtain ⟨x21, hx21, hf⟩ := xval_ex hf
  rw [← hx21]
  by_cases q22 : xin x21 64 = true
  case neg => rw [if_neg q22] at hf; cases hf
  rw [if_pos q22] at hf
  refine x_iast hc (cA (xMd.ar hb 28 (by decide) rfl)) (xin_in q22) (xd dk_N_declares 35 rfl) ?_
  rw [wA (xMd.ar hb 28 (by decide) rfl)]
  replace hf := xlet_some hf
  generalize wI M (b + 28) x21.toNatClampNeg x20 = M at hf ⊢
  refine x_aload_n hc (xd dk_N_declares 36 rfl) rfl rfl ?_
  refine x_dup hc (xd dk_N_declares 37 rfl) rfl ?_
  refine x_get hc (ci := 10) (k := 54) fi_N (c_N hb _) rfl (by decide) rfl xw1197 rfl (xd dk_N_declares 38 rfl) ?_
  refine x_iconst hc (v := 1) (xd dk_N_declares 39 rfl) (by decide) ?_
  refine x_iadd hc (xd dk_N_declares 40 rfl) ?_
  obtain ⟨x23, hx23, hf⟩ := xval_ex hf
  rw [← hx23]
  refine x_put hc (ci := 10) (k := 54) fi_N ft_N ft_N_ok fn_N (c_N hb _) rfl (by decide) rfl xw1197 rfl rfl rfl (Nat.le_of_ble_eq_true rfl) (xd dk_N_declares 41 rfl) ?_
  rw [w_N_54 hb]
  replace hf := xlet_some hf
  generalize wI M b 54 x23 = M at hf ⊢
  refine x_goto hc (tgt := 142) (xd dk_N_declares 42 rfl) rfl ?_
  exact s_N_declares_142 hc hR hb v3 v4 M hf
set_option maxRecDepth 100000 in
set_option maxHeartbeats 400000 in
theorem s_N_declares_20 {p : Program} {l : Launch} {e : Env} {R : Room} {s : State} {m : MethodId} {args : Array Value} {below : List Frame} {meth : Method} {c : Code} {G : xG} {Y : xY} {sz : Nat} {b : Nat} {p1 : Int32} {p2 : Int32}  (hc : xC p s m args meth c G 5 c_N_declares y_N_declares.cls (some .int)) (hR : xRm R 2) (hb : xMd Y b) {M' : xMem} {r : Int32} (w0 : Int32) (M : xMem) (hf : f_N_declares_20 b p1 p2 w0 M = some (r, M')) : xW p l e R s m args below meth c G 5 (MQ below (xQc G (some (.int r)) (xo G Y M') sz) args s 0 0 (xA G)) (xo G Y M) sz 0 0 20 [some (.ref b), some (.int p1), some (.int p2), none, none] [.int w0] := by
  unfold f_N_declares_20 at hf
  refine x_istore_n hc (xd dk_N_declares 10 rfl) (by decide) rfl ?_
  refine x_aload_n hc (xd dk_N_declares 11 rfl) rfl rfl ?_
  refine x_iload_n hc (xd dk_N_declares 12 rfl) rfl rfl ?_
  refine x_iload_n hc (xd dk_N_declares 13 rfl) rfl rfl ?_
  obtain ⟨r24, M, e25, hf⟩ := xbind_some hf
  refine x_callV hc (As := [.int w0, .int p1]) (n := 2) (s_N_thingIn hb e25) (c_N hb _) rfl (hR.call (by decide) (by decide)) ⟨by decide, by decide, by decide⟩ rfl rfl xw1114 xw18 xw1111 xw1113 xs_N_thingIn (Nat.le_of_ble_eq_true rfl) ⟨Nat.zero_le _, Nat.zero_le _⟩ (xd dk_N_declares 14 rfl) ?_
  refine x_istore hc (xd dk_N_declares 15 rfl) (by decide) rfl ?_
  refine x_iload hc (xd dk_N_declares 16 rfl) rfl ?_
  refine x_if_lt hc (tgt := 78) (xd dk_N_declares 17 rfl) rfl (fun q26 => ?_) (fun q26 => ?_)
  · rw [if_pos q26] at hf
    refine x_aload_n hc (xd dk_N_declares 43 rfl) rfl rfl ?_
    refine x_get hc (ci := 10) (k := 36) fi_N (c_N hb _) rfl (by decide) rfl xw1179 rfl (xd dk_N_declares 44 rfl) ?_
    refine x_istore hc (xd dk_N_declares 45 rfl) (by decide) rfl ?_
    refine x_aload_n hc (xd dk_N_declares 46 rfl) rfl rfl ?_
    refine x_dup hc (xd dk_N_declares 47 rfl) rfl ?_
    refine x_get hc (ci := 10) (k := 36) fi_N (c_N hb _) rfl (by decide) rfl xw1179 rfl (xd dk_N_declares 48 rfl) ?_
    refine x_iconst hc (v := 1) (xd dk_N_declares 49 rfl) (by decide) ?_
    refine x_iadd hc (xd dk_N_declares 50 rfl) ?_
    obtain ⟨x27, hx27, hf⟩ := xval_ex hf
    rw [← hx27]
    obtain ⟨x28, hx28, hf⟩ := xval_ex hf
    rw [← hx28]
    refine x_put hc (ci := 10) (k := 36) fi_N ft_N ft_N_ok fn_N (c_N hb _) rfl (by decide) rfl xw1179 rfl rfl rfl (Nat.le_of_ble_eq_true rfl) (xd dk_N_declares 51 rfl) ?_
    rw [w_N_36 hb]
    replace hf := xlet_some hf
    generalize wI M b 36 x27 = M at hf ⊢
    refine x_aload_n hc (xd dk_N_declares 52 rfl) rfl rfl ?_
    refine x_get hc (ci := 10) (k := 30) fi_N (c_N hb _) rfl (by decide) rfl xw1173 rfl (xd dk_N_declares 53 rfl) ?_
    refine x_iload hc (xd dk_N_declares 54 rfl) rfl ?_
    refine x_iload_n hc (xd dk_N_declares 55 rfl) rfl rfl ?_
    by_cases q29 : xin x28 64 = true
    case neg => rw [if_neg q29] at hf; cases hf
    rw [if_pos q29] at hf
    refine x_iast hc (cA (xMd.ar hb 18 (by decide) rfl)) (xin_in q29) (xd dk_N_declares 56 rfl) ?_
    rw [wA (xMd.ar hb 18 (by decide) rfl)]
    replace hf := xlet_some hf
    generalize wI M (b + 18) x28.toNatClampNeg p1 = M at hf ⊢
    refine x_aload_n hc (xd dk_N_declares 57 rfl) rfl rfl ?_
    refine x_get hc (ci := 10) (k := 31) fi_N (c_N hb _) rfl (by decide) rfl xw1174 rfl (xd dk_N_declares 58 rfl) ?_
    refine x_iload hc (xd dk_N_declares 59 rfl) rfl ?_
    refine x_iload_n hc (xd dk_N_declares 60 rfl) rfl rfl ?_
    by_cases q30 : xin x28 64 = true
    case neg => rw [if_neg q30] at hf; cases hf
    rw [if_pos q30] at hf
    refine x_iast hc (cA (xMd.ar hb 19 (by decide) rfl)) (xin_in q30) (xd dk_N_declares 61 rfl) ?_
    rw [wA (xMd.ar hb 19 (by decide) rfl)]
    replace hf := xlet_some hf
    generalize wI M (b + 19) x28.toNatClampNeg w0 = M at hf ⊢
    refine x_aload_n hc (xd dk_N_declares 62 rfl) rfl rfl ?_
    refine x_get hc (ci := 10) (k := 32) fi_N (c_N hb _) rfl (by decide) rfl xw1175 rfl (xd dk_N_declares 63 rfl) ?_
    refine x_iload hc (xd dk_N_declares 64 rfl) rfl ?_
    refine x_iload_n hc (xd dk_N_declares 65 rfl) rfl rfl ?_
    by_cases q31 : xin x28 64 = true
    case neg => rw [if_neg q31] at hf; cases hf
    rw [if_pos q31] at hf
    refine x_iast hc (cA (xMd.ar hb 20 (by decide) rfl)) (xin_in q31) (xd dk_N_declares 66 rfl) ?_
    rw [wA (xMd.ar hb 20 (by decide) rfl)]
    replace hf := xlet_some hf
    generalize wI M (b + 20) x28.toNatClampNeg p2 = M at hf ⊢
    refine x_aload_n hc (xd dk_N_declares 67 rfl) rfl rfl ?_
    refine x_get hc (ci := 10) (k := 33) fi_N (c_N hb _) rfl (by decide) rfl xw1176 rfl (xd dk_N_declares 68 rfl) ?_
    refine x_iload hc (xd dk_N_declares 69 rfl) rfl ?_
    refine x_iconst hc (v := 0) (xd dk_N_declares 70 rfl) (by decide) ?_
    by_cases q32 : xin x28 64 = true
    case neg => rw [if_neg q32] at hf; cases hf
    rw [if_pos q32] at hf
    refine x_iast hc (cA (xMd.ar hb 21 (by decide) rfl)) (xin_in q32) (xd dk_N_declares 71 rfl) ?_
    rw [wA (xMd.ar hb 21 (by decide) rfl)]
    replace hf := xlet_some hf
    generalize wI M (b + 21) x28.toNatClampNeg 0 = M at hf ⊢
    refine x_aload_n hc (xd dk_N_declares 72 rfl) rfl rfl ?_
    refine x_get hc (ci := 10) (k := 34) fi_N (c_N hb _) rfl (by decide) rfl xw1177 rfl (xd dk_N_declares 73 rfl) ?_
    refine x_iload hc (xd dk_N_declares 74 rfl) rfl ?_
    refine x_iconst hc (v := 0) (xd dk_N_declares 75 rfl) (by decide) ?_
    by_cases q33 : xin x28 64 = true
    case neg => rw [if_neg q33] at hf; cases hf
    rw [if_pos q33] at hf
    refine x_iast hc (cA (xMd.ar hb 22 (by decide) rfl)) (xin_in q33) (xd dk_N_declares 76 rfl) ?_
    rw [wA (xMd.ar hb 22 (by decide) rfl)]
    replace hf := xlet_some hf
    generalize wI M (b + 22) x28.toNatClampNeg 0 = M at hf ⊢
    refine x_aload_n hc (xd dk_N_declares 77 rfl) rfl rfl ?_
    refine x_get hc (ci := 10) (k := 35) fi_N (c_N hb _) rfl (by decide) rfl xw1178 rfl (xd dk_N_declares 78 rfl) ?_
    refine x_iload hc (xd dk_N_declares 79 rfl) rfl ?_
    refine x_iconst hc (v := 0) (xd dk_N_declares 80 rfl) (by decide) ?_
    by_cases q34 : xin x28 64 = true
    case neg => rw [if_neg q34] at hf; cases hf
    rw [if_pos q34] at hf
    refine x_iast hc (cA (xMd.ar hb 23 (by decide) rfl)) (xin_in q34) (xd dk_N_declares 81 rfl) ?_
    rw [wA (xMd.ar hb 23 (by decide) rfl)]
    replace hf := xlet_some hf
    generalize wI M (b + 23) x28.toNatClampNeg 0 = M at hf ⊢
    exact s_N_declares_142 hc hR hb w0 x28 M hf
  · rw [if_neg q26] at hf
    refine x_iload_n hc (xd dk_N_declares 18 rfl) rfl rfl ?_
    refine x_iconst hc (v := 2) (xd dk_N_declares 19 rfl) (by decide) ?_
    refine x_icmp_ne hc (tgt := 50) (xd dk_N_declares 20 rfl) rfl (fun q35 => ?_) (fun q35 => ?_)
    · rw [if_neg q35] at hf
      exact s_N_declares_50 hc hR hb w0 r24 M hf
    · rw [if_pos q35] at hf
      refine x_aload_n hc (xd dk_N_declares 21 rfl) rfl rfl ?_
      refine x_get hc (ci := 10) (k := 32) fi_N (c_N hb _) rfl (by decide) rfl xw1175 rfl (xd dk_N_declares 22 rfl) ?_
      refine x_iload hc (xd dk_N_declares 23 rfl) rfl ?_
      by_cases q36 : xin r24 64 = true
      case neg => rw [if_neg q36] at hf; cases hf
      rw [if_pos q36] at hf
      refine x_iald hc (cA (xMd.ar hb 20 (by decide) rfl)) (xin_in q36) (xd dk_N_declares 24 rfl) ?_
      refine x_iconst hc (v := 2) (xd dk_N_declares 25 rfl) (by decide) ?_
      refine x_icmp_eq hc (tgt := 142) (xd dk_N_declares 26 rfl) rfl (fun q37 => ?_) (fun q37 => ?_)
      · rw [if_pos q37] at hf
        exact s_N_declares_142 hc hR hb w0 r24 M hf
      · rw [if_neg q37] at hf
        exact s_N_declares_50 hc hR hb w0 r24 M hf
set_option maxRecDepth 100000 in
set_option maxHeartbeats 400000 in
theorem s_N_declares {l : Launch} {G : xG} {Y : xY} {sz : Nat} {b : Nat} {p1 : Int32} {p2 : Int32}  (hb : xMd Y b) {M M' : xMem} {r : Int32} (hf : f_N_declares b p1 p2 M = some (r, M')) : xM l G y_N_declares c_N_declares 5 (some .int) 2 0 0 [.ref b, .int p1, .int p2] (xo G Y M) sz (some (.int r)) (xo G Y M') sz := by
  unfold f_N_declares at hf
  refine xM.of (k := 2) (L0 := [some (.ref b), some (.int p1), some (.int p2), none, none]) (by decide) (Nat.le_of_ble_eq_true rfl) rfl ?_
  intro p e s m args below meth c hc hnm
  have hR : xRm { frames := 2, cells := 0, slots := 0, locals := 48 * 2 } 2 := ⟨Nat.le_refl _, Nat.le_refl _⟩
  refine x_iload_n hc (xd dk_N_declares 0 rfl) rfl rfl ?_
  refine x_iconst hc (v := 2) (xd dk_N_declares 1 rfl) (by decide) ?_
  refine x_icmp_ne hc (tgt := 16) (xd dk_N_declares 2 rfl) rfl (fun q38 => ?_) (fun q38 => ?_)
  · rw [if_neg q38] at hf
    refine x_aload_n hc (xd dk_N_declares 8 rfl) rfl rfl ?_
    refine x_get hc (ci := 10) (k := 28) fi_N (c_N hb _) rfl (by decide) rfl xw1171 rfl (xd dk_N_declares 9 rfl) ?_
    exact s_N_declares_20 hc hR hb (M.1 b 28) M hf
  · rw [if_pos q38] at hf
    refine x_aload_n hc (xd dk_N_declares 3 rfl) rfl rfl ?_
    refine x_aload_n hc (xd dk_N_declares 4 rfl) rfl rfl ?_
    refine x_get hc (ci := 10) (k := 28) fi_N (c_N hb _) rfl (by decide) rfl xw1171 rfl (xd dk_N_declares 5 rfl) ?_
    obtain ⟨x39, hx39, hf⟩ := xval_ex hf
    rw [← hx39]
    obtain ⟨r40, M, e41, hf⟩ := xbind_some hf
    refine x_callV hc (As := [.int x39]) (n := 1) (s_N_fnAround hb e41) (c_N hb _) rfl (hR.call (by decide) (by decide)) ⟨by decide, by decide, by decide⟩ rfl rfl xw1110 xw18 xw1107 xw1109 xs_N_fnAround (Nat.le_of_ble_eq_true rfl) ⟨Nat.zero_le _, Nat.zero_le _⟩ (xd dk_N_declares 6 rfl) ?_
    refine x_goto hc (tgt := 20) (xd dk_N_declares 7 rfl) rfl ?_
    exact s_N_declares_20 hc hR hb r40 M hf
def f_N_function_148 (b : Nat) (p1 : Int32) (k56 : Int32 → xMem → Option (Unit × xMem)) (v2 : Int32) (w1 : Int32) (M : xMem) : Option (Unit × xMem) :=
  (xbind (f_N_wrongs b w1 M) fun r30 M => k56 v2 M)
def f_N_function_147 (b : Nat) (p1 : Int32) (k56 : Int32 → xMem → Option (Unit × xMem)) (v2 : Int32) (M : xMem) : Option (Unit × xMem) :=
  (f_N_function_148 b p1 k56 v2 0 M)
def f_N_function_125 (b : Nat) (p1 : Int32) (k56 : Int32 → xMem → Option (Unit × xMem)) (v2 : Int32) (M : xMem) : Option (Unit × xMem) :=
  (if (v2 + Int32.ofInt 1) = 4 then (xbind (f_N_is b 21 M) fun r33 M => if r33 = 0 then (f_N_function_148 b p1 k56 (v2 + Int32.ofInt 1) 1 M) else (f_N_function_147 b p1 k56 (v2 + Int32.ofInt 1) M)) else (f_N_function_147 b p1 k56 (v2 + Int32.ofInt 1) M))
def f_N_function_101 (b : Nat) (p1 : Int32) (k56 : Int32 → xMem → Option (Unit × xMem)) (v2 : Int32) (M : xMem) : Option (Unit × xMem) :=
  (xbind (f_N_takes b 1 M) fun r36 M => if 0 ≤ M.1 b 4 then (f_N_function_125 b p1 k56 v2 M) else (xval ((M.1 b 7) - 1) fun x39 => xbind (f_N_declares b x39 4 M) fun r40 M => f_N_function_125 b p1 k56 v2 M))
def f_N_function_91 (b : Nat) (p1 : Int32) (k56 : Int32 → xMem → Option (Unit × xMem)) (v2 : Int32) (M : xMem) : Option (Unit × xMem) :=
  (if v2 ≤ 0 then (f_N_function_101 b p1 k56 v2 M) else (xbind (f_N_takes b 25 M) fun r43 M => f_N_function_101 b p1 k56 v2 M))
def f_N_function_154 (b : Nat) (p1 : Int32) (v2 : Int32) (M : xMem) : Option (Unit × xMem) :=
  (xbind (f_N_takes b 21 M) fun r45 M => xbind (f_N_takes b 22 M) fun r47 M => xbind (f_N_push b 9 p1 0 0 M) fun r49 M => xbind (f_N_lists b (p1 + 1) 23 M) fun r51 M => some ((), M))
def f_N_function_56 (b : Nat) (p1 : Int32) : Nat → Int32 → xMem → Option (Unit × xMem)
  | 0, _, _ => none
  | n + 1, v2, M =>
    (if 0 ≤ M.1 b 4 then (f_N_function_154 b p1 v2 M) else (xbind (f_N_is b 21 M) fun r54 M => if r54 = 0 then (f_N_function_91 b p1 (f_N_function_56 b p1 n) v2 M) else (if v2 = 0 then (f_N_function_154 b p1 v2 M) else (if xin ((M.1 b 7) - 1) 64 = true then if M.1 (b + 8) ((M.1 b 7) - 1).toNatClampNeg = 1 then (f_N_function_154 b p1 v2 M) else (f_N_function_91 b p1 (f_N_function_56 b p1 n) v2 M) else none))))
def f_N_function (b : Nat) (p1 : Int32) (M : xMem) : Option (Unit × xMem) :=
  (xval ((M.1 b 7) + 1) fun x60 => xlet (wI M b 7 x60) fun M => xbind (f_N_takes b 1 M) fun r61 M => if M.1 b 4 < 0 then (xval ((M.1 b 7) - 1) fun x64 => xbind (f_N_declares b x64 3 M) fun r65 M => xbind (f_N_takes b 20 M) fun r67 M => if M.1 b 4 < 0 then (xbind (f_N_enters b 1 M) fun r70 M => f_N_function_56 b p1 xFuel 0 M) else (some ((), M))) else (some ((), M)))
set_option maxRecDepth 100000 in
set_option maxHeartbeats 400000 in
theorem s_N_function_148 {p : Program} {l : Launch} {e : Env} {R : Room} {s : State} {m : MethodId} {args : Array Value} {below : List Frame} {meth : Method} {c : Code} {G : xG} {Y : xY} {sz : Nat} {b : Nat} {p1 : Int32}  (hc : xC p s m args meth c G 3 c_N_function y_N_function.cls none) (hR : xRm R 3) (hb : xMd Y b) {k56 : Int32 → xMem → Option (Unit × xMem)} {M' : xMem} {r : Unit} (hk56 : ∀ (v2 : Int32) (M : xMem), k56 v2 M = some (r, M') → xW p l e R s m args below meth c G 3 (MQ below (xQc G none (xo G Y M') sz) args s 0 0 (xA G)) (xo G Y M) sz 0 0 56 [some (.ref b), some (.int p1), some (.int v2)] []) (v2 : Int32) (w1 : Int32) (M : xMem) (hf : f_N_function_148 b p1 k56 v2 w1 M = some (r, M')) : xW p l e R s m args below meth c G 3 (MQ below (xQc G none (xo G Y M') sz) args s 0 0 (xA G)) (xo G Y M) sz 0 0 148 [some (.ref b), some (.int p1), some (.int v2)] [.int w1, .ref b] := by
  unfold f_N_function_148 at hf
  obtain ⟨r30, M, e31, hf⟩ := xbind_some hf
  refine x_callV hc (As := [.int w1]) (n := 1) (s_N_wrongs hb e31) (c_N hb _) rfl (hR.call (by decide) (by decide)) ⟨by decide, by decide, by decide⟩ rfl rfl xw1090 xw18 xw1087 xw1089 xs_N_wrongs (Nat.le_of_ble_eq_true rfl) ⟨Nat.zero_le _, Nat.zero_le _⟩ (xd dk_N_function 82 rfl) ?_
  refine x_goto hc (tgt := 56) (xd dk_N_function 83 rfl) rfl ?_
  exact hk56 v2 M hf
set_option maxRecDepth 100000 in
set_option maxHeartbeats 400000 in
theorem s_N_function_147 {p : Program} {l : Launch} {e : Env} {R : Room} {s : State} {m : MethodId} {args : Array Value} {below : List Frame} {meth : Method} {c : Code} {G : xG} {Y : xY} {sz : Nat} {b : Nat} {p1 : Int32}  (hc : xC p s m args meth c G 3 c_N_function y_N_function.cls none) (hR : xRm R 3) (hb : xMd Y b) {k56 : Int32 → xMem → Option (Unit × xMem)} {M' : xMem} {r : Unit} (hk56 : ∀ (v2 : Int32) (M : xMem), k56 v2 M = some (r, M') → xW p l e R s m args below meth c G 3 (MQ below (xQc G none (xo G Y M') sz) args s 0 0 (xA G)) (xo G Y M) sz 0 0 56 [some (.ref b), some (.int p1), some (.int v2)] []) (v2 : Int32) (M : xMem) (hf : f_N_function_147 b p1 k56 v2 M = some (r, M')) : xW p l e R s m args below meth c G 3 (MQ below (xQc G none (xo G Y M') sz) args s 0 0 (xA G)) (xo G Y M) sz 0 0 147 [some (.ref b), some (.int p1), some (.int v2)] [.ref b] := by
  unfold f_N_function_147 at hf
  refine x_iconst hc (v := 0) (xd dk_N_function 81 rfl) (by decide) ?_
  exact s_N_function_148 hc hR hb hk56 v2 0 M hf
set_option maxRecDepth 100000 in
set_option maxHeartbeats 400000 in
theorem s_N_function_125 {p : Program} {l : Launch} {e : Env} {R : Room} {s : State} {m : MethodId} {args : Array Value} {below : List Frame} {meth : Method} {c : Code} {G : xG} {Y : xY} {sz : Nat} {b : Nat} {p1 : Int32}  (hc : xC p s m args meth c G 3 c_N_function y_N_function.cls none) (hR : xRm R 3) (hb : xMd Y b) {k56 : Int32 → xMem → Option (Unit × xMem)} {M' : xMem} {r : Unit} (hk56 : ∀ (v2 : Int32) (M : xMem), k56 v2 M = some (r, M') → xW p l e R s m args below meth c G 3 (MQ below (xQc G none (xo G Y M') sz) args s 0 0 (xA G)) (xo G Y M) sz 0 0 56 [some (.ref b), some (.int p1), some (.int v2)] []) (v2 : Int32) (M : xMem) (hf : f_N_function_125 b p1 k56 v2 M = some (r, M')) : xW p l e R s m args below meth c G 3 (MQ below (xQc G none (xo G Y M') sz) args s 0 0 (xA G)) (xo G Y M) sz 0 0 125 [some (.ref b), some (.int p1), some (.int v2)] [] := by
  unfold f_N_function_125 at hf
  refine x_iinc hc (xd dk_N_function 70 rfl) rfl (by decide) rfl ?_
  refine x_aload_n hc (xd dk_N_function 71 rfl) rfl rfl ?_
  refine x_iload_n hc (xd dk_N_function 72 rfl) rfl rfl ?_
  refine x_iconst hc (v := 4) (xd dk_N_function 73 rfl) (by decide) ?_
  refine x_icmp_ne hc (tgt := 147) (xd dk_N_function 74 rfl) rfl (fun q32 => ?_) (fun q32 => ?_)
  · rw [if_neg q32] at hf
    exact s_N_function_147 hc hR hb hk56 (v2 + Int32.ofInt 1) M hf
  · rw [if_pos q32] at hf
    refine x_aload_n hc (xd dk_N_function 75 rfl) rfl rfl ?_
    refine x_bipush hc (v := 21) (xd dk_N_function 76 rfl) (by decide) ?_
    obtain ⟨r33, M, e34, hf⟩ := xbind_some hf
    refine x_callV hc (As := [.int 21]) (n := 1) (s_N_is hb e34) (c_N hb _) rfl (hR.call (by decide) (by decide)) ⟨by decide, by decide, by decide⟩ rfl rfl xw1082 xw18 xw1079 xw1081 xs_N_is (Nat.le_of_ble_eq_true rfl) ⟨Nat.zero_le _, Nat.zero_le _⟩ (xd dk_N_function 77 rfl) ?_
    refine x_if_ne hc (tgt := 147) (xd dk_N_function 78 rfl) rfl (fun q35 => ?_) (fun q35 => ?_)
    · rw [if_neg q35] at hf
      exact s_N_function_147 hc hR hb hk56 (v2 + Int32.ofInt 1) M hf
    · rw [if_pos q35] at hf
      refine x_iconst hc (v := 1) (xd dk_N_function 79 rfl) (by decide) ?_
      refine x_goto hc (tgt := 148) (xd dk_N_function 80 rfl) rfl ?_
      exact s_N_function_148 hc hR hb hk56 (v2 + Int32.ofInt 1) 1 M hf
set_option maxRecDepth 100000 in
set_option maxHeartbeats 400000 in
theorem s_N_function_101 {p : Program} {l : Launch} {e : Env} {R : Room} {s : State} {m : MethodId} {args : Array Value} {below : List Frame} {meth : Method} {c : Code} {G : xG} {Y : xY} {sz : Nat} {b : Nat} {p1 : Int32}  (hc : xC p s m args meth c G 3 c_N_function y_N_function.cls none) (hR : xRm R 3) (hb : xMd Y b) {k56 : Int32 → xMem → Option (Unit × xMem)} {M' : xMem} {r : Unit} (hk56 : ∀ (v2 : Int32) (M : xMem), k56 v2 M = some (r, M') → xW p l e R s m args below meth c G 3 (MQ below (xQc G none (xo G Y M') sz) args s 0 0 (xA G)) (xo G Y M) sz 0 0 56 [some (.ref b), some (.int p1), some (.int v2)] []) (v2 : Int32) (M : xMem) (hf : f_N_function_101 b p1 k56 v2 M = some (r, M')) : xW p l e R s m args below meth c G 3 (MQ below (xQc G none (xo G Y M') sz) args s 0 0 (xA G)) (xo G Y M) sz 0 0 101 [some (.ref b), some (.int p1), some (.int v2)] [] := by
  unfold f_N_function_101 at hf
  refine x_aload_n hc (xd dk_N_function 56 rfl) rfl rfl ?_
  refine x_iconst hc (v := 1) (xd dk_N_function 57 rfl) (by decide) ?_
  obtain ⟨r36, M, e37, hf⟩ := xbind_some hf
  refine x_callV hc (As := [.int 1]) (n := 1) (s_N_takes hb e37) (c_N hb _) rfl (hR.call (by decide) (by decide)) ⟨by decide, by decide, by decide⟩ rfl rfl xw1102 xw18 xw1099 xw1101 xs_N_takes (Nat.le_of_ble_eq_true rfl) ⟨Nat.zero_le _, Nat.zero_le _⟩ (xd dk_N_function 58 rfl) ?_
  refine x_aload_n hc (xd dk_N_function 59 rfl) rfl rfl ?_
  refine x_get hc (ci := 10) (k := 4) fi_N (c_N hb _) rfl (by decide) rfl xw1147 rfl (xd dk_N_function 60 rfl) ?_
  refine x_if_ge hc (tgt := 125) (xd dk_N_function 61 rfl) rfl (fun q38 => ?_) (fun q38 => ?_)
  · rw [if_pos q38] at hf
    exact s_N_function_125 hc hR hb hk56 v2 M hf
  · rw [if_neg q38] at hf
    refine x_aload_n hc (xd dk_N_function 62 rfl) rfl rfl ?_
    refine x_aload_n hc (xd dk_N_function 63 rfl) rfl rfl ?_
    refine x_get hc (ci := 10) (k := 7) fi_N (c_N hb _) rfl (by decide) rfl xw1150 rfl (xd dk_N_function 64 rfl) ?_
    refine x_iconst hc (v := 1) (xd dk_N_function 65 rfl) (by decide) ?_
    refine x_isub hc (xd dk_N_function 66 rfl) ?_
    refine x_iconst hc (v := 4) (xd dk_N_function 67 rfl) (by decide) ?_
    obtain ⟨x39, hx39, hf⟩ := xval_ex hf
    rw [← hx39]
    obtain ⟨r40, M, e41, hf⟩ := xbind_some hf
    refine x_callV hc (As := [.int x39, .int 4]) (n := 2) (s_N_declares hb e41) (c_N hb _) rfl (hR.call (by decide) (by decide)) ⟨by decide, by decide, by decide⟩ rfl rfl xw1106 xw18 xw1103 xw1105 xs_N_declares (Nat.le_of_ble_eq_true rfl) ⟨Nat.zero_le _, Nat.zero_le _⟩ (xd dk_N_function 68 rfl) ?_
    refine x_pop hc (xd dk_N_function 69 rfl) rfl ?_
    exact s_N_function_125 hc hR hb hk56 v2 M hf
set_option maxRecDepth 100000 in
set_option maxHeartbeats 400000 in
theorem s_N_function_91 {p : Program} {l : Launch} {e : Env} {R : Room} {s : State} {m : MethodId} {args : Array Value} {below : List Frame} {meth : Method} {c : Code} {G : xG} {Y : xY} {sz : Nat} {b : Nat} {p1 : Int32}  (hc : xC p s m args meth c G 3 c_N_function y_N_function.cls none) (hR : xRm R 3) (hb : xMd Y b) {k56 : Int32 → xMem → Option (Unit × xMem)} {M' : xMem} {r : Unit} (hk56 : ∀ (v2 : Int32) (M : xMem), k56 v2 M = some (r, M') → xW p l e R s m args below meth c G 3 (MQ below (xQc G none (xo G Y M') sz) args s 0 0 (xA G)) (xo G Y M) sz 0 0 56 [some (.ref b), some (.int p1), some (.int v2)] []) (v2 : Int32) (M : xMem) (hf : f_N_function_91 b p1 k56 v2 M = some (r, M')) : xW p l e R s m args below meth c G 3 (MQ below (xQc G none (xo G Y M') sz) args s 0 0 (xA G)) (xo G Y M) sz 0 0 91 [some (.ref b), some (.int p1), some (.int v2)] [] := by
  unfold f_N_function_91 at hf
  refine x_iload_n hc (xd dk_N_function 51 rfl) rfl rfl ?_
  refine x_if_le hc (tgt := 101) (xd dk_N_function 52 rfl) rfl (fun q42 => ?_) (fun q42 => ?_)
  · rw [if_pos q42] at hf
    exact s_N_function_101 hc hR hb hk56 v2 M hf
  · rw [if_neg q42] at hf
    refine x_aload_n hc (xd dk_N_function 53 rfl) rfl rfl ?_
    refine x_bipush hc (v := 25) (xd dk_N_function 54 rfl) (by decide) ?_
    obtain ⟨r43, M, e44, hf⟩ := xbind_some hf
    refine x_callV hc (As := [.int 25]) (n := 1) (s_N_takes hb e44) (c_N hb _) rfl (hR.call (by decide) (by decide)) ⟨by decide, by decide, by decide⟩ rfl rfl xw1102 xw18 xw1099 xw1101 xs_N_takes (Nat.le_of_ble_eq_true rfl) ⟨Nat.zero_le _, Nat.zero_le _⟩ (xd dk_N_function 55 rfl) ?_
    exact s_N_function_101 hc hR hb hk56 v2 M hf
set_option maxRecDepth 100000 in
set_option maxHeartbeats 400000 in
theorem s_N_function_154 {p : Program} {l : Launch} {e : Env} {R : Room} {s : State} {m : MethodId} {args : Array Value} {below : List Frame} {meth : Method} {c : Code} {G : xG} {Y : xY} {sz : Nat} {b : Nat} {p1 : Int32}  (hc : xC p s m args meth c G 3 c_N_function y_N_function.cls none) (hR : xRm R 3) (hb : xMd Y b) {M' : xMem} {r : Unit} (v2 : Int32) (M : xMem) (hf : f_N_function_154 b p1 v2 M = some (r, M')) : xW p l e R s m args below meth c G 3 (MQ below (xQc G none (xo G Y M') sz) args s 0 0 (xA G)) (xo G Y M) sz 0 0 154 [some (.ref b), some (.int p1), some (.int v2)] [] := by
  unfold f_N_function_154 at hf
  refine x_aload_n hc (xd dk_N_function 84 rfl) rfl rfl ?_
  refine x_bipush hc (v := 21) (xd dk_N_function 85 rfl) (by decide) ?_
  obtain ⟨r45, M, e46, hf⟩ := xbind_some hf
  refine x_callV hc (As := [.int 21]) (n := 1) (s_N_takes hb e46) (c_N hb _) rfl (hR.call (by decide) (by decide)) ⟨by decide, by decide, by decide⟩ rfl rfl xw1102 xw18 xw1099 xw1101 xs_N_takes (Nat.le_of_ble_eq_true rfl) ⟨Nat.zero_le _, Nat.zero_le _⟩ (xd dk_N_function 86 rfl) ?_
  refine x_aload_n hc (xd dk_N_function 87 rfl) rfl rfl ?_
  refine x_bipush hc (v := 22) (xd dk_N_function 88 rfl) (by decide) ?_
  obtain ⟨r47, M, e48, hf⟩ := xbind_some hf
  refine x_callV hc (As := [.int 22]) (n := 1) (s_N_takes hb e48) (c_N hb _) rfl (hR.call (by decide) (by decide)) ⟨by decide, by decide, by decide⟩ rfl rfl xw1102 xw18 xw1099 xw1101 xs_N_takes (Nat.le_of_ble_eq_true rfl) ⟨Nat.zero_le _, Nat.zero_le _⟩ (xd dk_N_function 89 rfl) ?_
  refine x_aload_n hc (xd dk_N_function 90 rfl) rfl rfl ?_
  refine x_bipush hc (v := 9) (xd dk_N_function 91 rfl) (by decide) ?_
  refine x_iload_n hc (xd dk_N_function 92 rfl) rfl rfl ?_
  refine x_iconst hc (v := 0) (xd dk_N_function 93 rfl) (by decide) ?_
  refine x_iconst hc (v := 0) (xd dk_N_function 94 rfl) (by decide) ?_
  obtain ⟨r49, M, e50, hf⟩ := xbind_some hf
  refine x_callV hc (As := [.int 9, .int p1, .int 0, .int 0]) (n := 4) (s_N_push hb e50) (c_N hb _) rfl (hR.call (by decide) (by decide)) ⟨by decide, by decide, by decide⟩ rfl rfl xw1078 xw18 xw1075 xw1077 xs_N_push (Nat.le_of_ble_eq_true rfl) ⟨Nat.zero_le _, Nat.zero_le _⟩ (xd dk_N_function 95 rfl) ?_
  refine x_aload_n hc (xd dk_N_function 96 rfl) rfl rfl ?_
  refine x_iload_n hc (xd dk_N_function 97 rfl) rfl rfl ?_
  refine x_iconst hc (v := 1) (xd dk_N_function 98 rfl) (by decide) ?_
  refine x_iadd hc (xd dk_N_function 99 rfl) ?_
  refine x_bipush hc (v := 23) (xd dk_N_function 100 rfl) (by decide) ?_
  obtain ⟨r51, M, e52, hf⟩ := xbind_some hf
  refine x_callV hc (As := [.int ((p1 + 1)), .int 23]) (n := 2) (s_N_lists hb e52) (c_N hb _) rfl (hR.call (by decide) (by decide)) ⟨by decide, by decide, by decide⟩ rfl rfl xw1074 xw18 xw1071 xw1073 xs_N_lists (Nat.le_of_ble_eq_true rfl) ⟨Nat.zero_le _, Nat.zero_le _⟩ (xd dk_N_function 101 rfl) ?_
  cases hf
  exact x_return hc (xd dk_N_function 102 rfl)
set_option maxRecDepth 100000 in
set_option maxHeartbeats 400000 in
theorem s_N_function_56 {p : Program} {l : Launch} {e : Env} {R : Room} {s : State} {m : MethodId} {args : Array Value} {below : List Frame} {meth : Method} {c : Code} {G : xG} {Y : xY} {sz : Nat} {b : Nat} {p1 : Int32}  (hc : xC p s m args meth c G 3 c_N_function y_N_function.cls none) (hR : xRm R 3) (hb : xMd Y b) {M' : xMem} {r : Unit} : ∀ (n : Nat) (v2 : Int32) (M : xMem), f_N_function_56 b p1 n v2 M = some (r, M') → xW p l e R s m args below meth c G 3 (MQ below (xQc G none (xo G Y M') sz) args s 0 0 (xA G)) (xo G Y M) sz 0 0 56 [some (.ref b), some (.int p1), some (.int v2)] [] := by
  intro n
  induction n with
  | zero => intro v2 M hf; simp only [f_N_function_56] at hf; cases hf
  | succ n ih =>
    intro v2 M hf
    simp only [f_N_function_56] at hf
    refine x_aload_n hc (xd dk_N_function 33 rfl) rfl rfl ?_
    refine x_get hc (ci := 10) (k := 4) fi_N (c_N hb _) rfl (by decide) rfl xw1147 rfl (xd dk_N_function 34 rfl) ?_
    refine x_if_ge hc (tgt := 154) (xd dk_N_function 35 rfl) rfl (fun q53 => ?_) (fun q53 => ?_)
    · rw [if_pos q53] at hf
      exact s_N_function_154 hc hR hb v2 M hf
    · rw [if_neg q53] at hf
      refine x_aload_n hc (xd dk_N_function 36 rfl) rfl rfl ?_
      refine x_bipush hc (v := 21) (xd dk_N_function 37 rfl) (by decide) ?_
      obtain ⟨r54, M, e55, hf⟩ := xbind_some hf
      refine x_callV hc (As := [.int 21]) (n := 1) (s_N_is hb e55) (c_N hb _) rfl (hR.call (by decide) (by decide)) ⟨by decide, by decide, by decide⟩ rfl rfl xw1082 xw18 xw1079 xw1081 xs_N_is (Nat.le_of_ble_eq_true rfl) ⟨Nat.zero_le _, Nat.zero_le _⟩ (xd dk_N_function 38 rfl) ?_
      refine x_if_eq hc (tgt := 91) (xd dk_N_function 39 rfl) rfl (fun q56 => ?_) (fun q56 => ?_)
      · rw [if_pos q56] at hf
        exact s_N_function_91 hc hR hb ih v2 M hf
      · rw [if_neg q56] at hf
        refine x_iload_n hc (xd dk_N_function 40 rfl) rfl rfl ?_
        refine x_if_eq hc (tgt := 154) (xd dk_N_function 41 rfl) rfl (fun q57 => ?_) (fun q57 => ?_)
        · rw [if_pos q57] at hf
          exact s_N_function_154 hc hR hb v2 M hf
        · rw [if_neg q57] at hf
          refine x_aload_n hc (xd dk_N_function 42 rfl) rfl rfl ?_
          refine x_get hc (ci := 10) (k := 17) fi_N (c_N hb _) rfl (by decide) rfl xw1160 rfl (xd dk_N_function 43 rfl) ?_
          refine x_aload_n hc (xd dk_N_function 44 rfl) rfl rfl ?_
          refine x_get hc (ci := 10) (k := 7) fi_N (c_N hb _) rfl (by decide) rfl xw1150 rfl (xd dk_N_function 45 rfl) ?_
          refine x_iconst hc (v := 1) (xd dk_N_function 46 rfl) (by decide) ?_
          refine x_isub hc (xd dk_N_function 47 rfl) ?_
          by_cases q58 : xin ((M.1 b 7) - 1) 64 = true
          case neg => rw [if_neg q58] at hf; cases hf
          rw [if_pos q58] at hf
          refine x_iald hc (cA (xMd.ar hb 8 (by decide) rfl)) (xin_in q58) (xd dk_N_function 48 rfl) ?_
          refine x_iconst hc (v := 1) (xd dk_N_function 49 rfl) (by decide) ?_
          refine x_icmp_eq hc (tgt := 154) (xd dk_N_function 50 rfl) rfl (fun q59 => ?_) (fun q59 => ?_)
          · rw [if_pos q59] at hf
            exact s_N_function_154 hc hR hb v2 M hf
          · rw [if_neg q59] at hf
            exact s_N_function_91 hc hR hb ih v2 M hf
set_option maxRecDepth 100000 in
set_option maxHeartbeats 400000 in
theorem s_N_function {l : Launch} {G : xG} {Y : xY} {sz : Nat} {b : Nat} {p1 : Int32}  (hb : xMd Y b) {M M' : xMem} {r : Unit} (hf : f_N_function b p1 M = some (r, M')) : xM l G y_N_function c_N_function 3 none 3 0 0 [.ref b, .int p1] (xo G Y M) sz none (xo G Y M') sz := by
  unfold f_N_function at hf
  refine xM.of (k := 1) (L0 := [some (.ref b), some (.int p1), none]) (by decide) (Nat.le_of_ble_eq_true rfl) rfl ?_
  intro p e s m args below meth c hc hnm
  have hR : xRm { frames := 3, cells := 0, slots := 0, locals := 48 * 3 } 3 := ⟨Nat.le_refl _, Nat.le_refl _⟩
  refine x_aload_n hc (xd dk_N_function 0 rfl) rfl rfl ?_
  refine x_dup hc (xd dk_N_function 1 rfl) rfl ?_
  refine x_get hc (ci := 10) (k := 7) fi_N (c_N hb _) rfl (by decide) rfl xw1150 rfl (xd dk_N_function 2 rfl) ?_
  refine x_iconst hc (v := 1) (xd dk_N_function 3 rfl) (by decide) ?_
  refine x_iadd hc (xd dk_N_function 4 rfl) ?_
  obtain ⟨x60, hx60, hf⟩ := xval_ex hf
  rw [← hx60]
  refine x_put hc (ci := 10) (k := 7) fi_N ft_N ft_N_ok fn_N (c_N hb _) rfl (by decide) rfl xw1150 rfl rfl rfl (Nat.le_of_ble_eq_true rfl) (xd dk_N_function 5 rfl) ?_
  rw [w_N_7 hb]
  replace hf := xlet_some hf
  generalize wI M b 7 x60 = M at hf ⊢
  refine x_aload_n hc (xd dk_N_function 6 rfl) rfl rfl ?_
  refine x_iconst hc (v := 1) (xd dk_N_function 7 rfl) (by decide) ?_
  obtain ⟨r61, M, e62, hf⟩ := xbind_some hf
  refine x_callV hc (As := [.int 1]) (n := 1) (s_N_takes hb e62) (c_N hb _) rfl (hR.call (by decide) (by decide)) ⟨by decide, by decide, by decide⟩ rfl rfl xw1102 xw18 xw1099 xw1101 xs_N_takes (Nat.le_of_ble_eq_true rfl) ⟨Nat.zero_le _, Nat.zero_le _⟩ (xd dk_N_function 8 rfl) ?_
  refine x_aload_n hc (xd dk_N_function 9 rfl) rfl rfl ?_
  refine x_get hc (ci := 10) (k := 4) fi_N (c_N hb _) rfl (by decide) rfl xw1147 rfl (xd dk_N_function 10 rfl) ?_
  refine x_if_lt hc (tgt := 23) (xd dk_N_function 11 rfl) rfl (fun q63 => ?_) (fun q63 => ?_)
  · rw [if_pos q63] at hf
    refine x_aload_n hc (xd dk_N_function 13 rfl) rfl rfl ?_
    refine x_aload_n hc (xd dk_N_function 14 rfl) rfl rfl ?_
    refine x_get hc (ci := 10) (k := 7) fi_N (c_N hb _) rfl (by decide) rfl xw1150 rfl (xd dk_N_function 15 rfl) ?_
    refine x_iconst hc (v := 1) (xd dk_N_function 16 rfl) (by decide) ?_
    refine x_isub hc (xd dk_N_function 17 rfl) ?_
    refine x_iconst hc (v := 3) (xd dk_N_function 18 rfl) (by decide) ?_
    obtain ⟨x64, hx64, hf⟩ := xval_ex hf
    rw [← hx64]
    obtain ⟨r65, M, e66, hf⟩ := xbind_some hf
    refine x_callV hc (As := [.int x64, .int 3]) (n := 2) (s_N_declares hb e66) (c_N hb _) rfl (hR.call (by decide) (by decide)) ⟨by decide, by decide, by decide⟩ rfl rfl xw1106 xw18 xw1103 xw1105 xs_N_declares (Nat.le_of_ble_eq_true rfl) ⟨Nat.zero_le _, Nat.zero_le _⟩ (xd dk_N_function 19 rfl) ?_
    refine x_pop hc (xd dk_N_function 20 rfl) rfl ?_
    refine x_aload_n hc (xd dk_N_function 21 rfl) rfl rfl ?_
    refine x_bipush hc (v := 20) (xd dk_N_function 22 rfl) (by decide) ?_
    obtain ⟨r67, M, e68, hf⟩ := xbind_some hf
    refine x_callV hc (As := [.int 20]) (n := 1) (s_N_takes hb e68) (c_N hb _) rfl (hR.call (by decide) (by decide)) ⟨by decide, by decide, by decide⟩ rfl rfl xw1102 xw18 xw1099 xw1101 xs_N_takes (Nat.le_of_ble_eq_true rfl) ⟨Nat.zero_le _, Nat.zero_le _⟩ (xd dk_N_function 23 rfl) ?_
    refine x_aload_n hc (xd dk_N_function 24 rfl) rfl rfl ?_
    refine x_get hc (ci := 10) (k := 4) fi_N (c_N hb _) rfl (by decide) rfl xw1147 rfl (xd dk_N_function 25 rfl) ?_
    refine x_if_lt hc (tgt := 49) (xd dk_N_function 26 rfl) rfl (fun q69 => ?_) (fun q69 => ?_)
    · rw [if_pos q69] at hf
      refine x_aload_n hc (xd dk_N_function 28 rfl) rfl rfl ?_
      refine x_iconst hc (v := 1) (xd dk_N_function 29 rfl) (by decide) ?_
      obtain ⟨r70, M, e71, hf⟩ := xbind_some hf
      refine x_callV hc (As := [.int 1]) (n := 1) (s_N_enters hb e71) (c_N hb _) rfl (hR.call (by decide) (by decide)) ⟨by decide, by decide, by decide⟩ rfl rfl xw1070 xw18 xw1067 xw1069 xs_N_enters (Nat.le_of_ble_eq_true rfl) ⟨Nat.zero_le _, Nat.zero_le _⟩ (xd dk_N_function 30 rfl) ?_
      refine x_iconst hc (v := 0) (xd dk_N_function 31 rfl) (by decide) ?_
      refine x_istore_n hc (xd dk_N_function 32 rfl) (by decide) rfl ?_
      exact s_N_function_56 hc hR hb xFuel 0 M hf
    · rw [if_neg q69] at hf
      cases hf
      exact x_return hc (xd dk_N_function 27 rfl)
  · rw [if_neg q63] at hf
    cases hf
    exact x_return hc (xd dk_N_function 12 rfl)
def f_N_belongs_73 (b : Nat) (k2 : Int32 → xMem → Option (Unit × xMem)) (v1 : Int32) (v2 : Int32) (M : xMem) : Option (Unit × xMem) :=
  (k2 (v1 + Int32.ofInt 1) M)
def f_N_belongs_2 (b : Nat) : Nat → Int32 → xMem → Option (Unit × xMem)
  | 0, _, _ => none
  | n + 1, v1, M =>
    (if M.1 b 41 ≤ v1 then (some ((), M)) else (if xin v1 64 = true then if xin v1 64 = true then xval (M.1 (b + 25) v1.toNatClampNeg) fun x14 => xval (M.1 (b + 24) v1.toNatClampNeg) fun x15 => xbind (f_N_thingAround b x14 x15 M) fun r16 M => if xin v1 64 = true then xlet (wI M (b + 26) v1.toNatClampNeg r16) fun M => if 0 ≤ r16 then (if xin v1 64 = true then if M.1 (b + 27) v1.toNatClampNeg = 0 then (if xin r16 64 = true then xval ((M.1 (b + 22) r16.toNatClampNeg) + 1) fun x23 => if xin r16 64 = true then xlet (wI M (b + 22) r16.toNatClampNeg x23) fun M => f_N_belongs_73 b (f_N_belongs_2 b n) v1 r16 M else none else none) else (if xin r16 64 = true then xval ((M.1 (b + 23) r16.toNatClampNeg) + 1) fun x26 => if xin r16 64 = true then xlet (wI M (b + 23) r16.toNatClampNeg x26) fun M => f_N_belongs_73 b (f_N_belongs_2 b n) v1 r16 M else none else none) else none) else (f_N_belongs_73 b (f_N_belongs_2 b n) v1 r16 M) else none else none else none))
def f_N_belongs (b : Nat) (M : xMem) : Option (Unit × xMem) :=
  (f_N_belongs_2 b xFuel 0 M)
set_option maxRecDepth 100000 in
set_option maxHeartbeats 400000 in
theorem s_N_belongs_73 {p : Program} {l : Launch} {e : Env} {R : Room} {s : State} {m : MethodId} {args : Array Value} {below : List Frame} {meth : Method} {c : Code} {G : xG} {Y : xY} {sz : Nat} {b : Nat}  (hc : xC p s m args meth c G 3 c_N_belongs y_N_belongs.cls none) (hR : xRm R 3) (hb : xMd Y b) {k2 : Int32 → xMem → Option (Unit × xMem)} {M' : xMem} {r : Unit} (hk2 : ∀ (v1 : Int32) (M : xMem), k2 v1 M = some (r, M') → xW p l e R s m args below meth c G 3 (MQ below (xQc G none (xo G Y M') sz) args s 0 0 (xA G)) (xo G Y M) sz 0 0 2 [some (.ref b), some (.int v1), none] []) (v1 : Int32) (v2 : Int32) (M : xMem) (hf : f_N_belongs_73 b k2 v1 v2 M = some (r, M')) : xW p l e R s m args below meth c G 3 (MQ below (xQc G none (xo G Y M') sz) args s 0 0 (xA G)) (xo G Y M) sz 0 0 73 [some (.ref b), some (.int v1), some (.int v2)] [] := by
  unfold f_N_belongs_73 at hf
  refine x_iinc hc (xd dk_N_belongs 47 rfl) rfl (by decide) rfl ?_
  refine x_goto hc (tgt := 2) (xd dk_N_belongs 48 rfl) rfl ?_
  refine x_drop 2 ?_
  exact hk2 (v1 + Int32.ofInt 1) M hf
set_option maxRecDepth 100000 in
set_option maxHeartbeats 400000 in
theorem s_N_belongs_2 {p : Program} {l : Launch} {e : Env} {R : Room} {s : State} {m : MethodId} {args : Array Value} {below : List Frame} {meth : Method} {c : Code} {G : xG} {Y : xY} {sz : Nat} {b : Nat}  (hc : xC p s m args meth c G 3 c_N_belongs y_N_belongs.cls none) (hR : xRm R 3) (hb : xMd Y b) {M' : xMem} {r : Unit} : ∀ (n : Nat) (v1 : Int32) (M : xMem), f_N_belongs_2 b n v1 M = some (r, M') → xW p l e R s m args below meth c G 3 (MQ below (xQc G none (xo G Y M') sz) args s 0 0 (xA G)) (xo G Y M) sz 0 0 2 [some (.ref b), some (.int v1), none] [] := by
  intro n
  induction n with
  | zero => intro v1 M hf; simp only [f_N_belongs_2] at hf; cases hf
  | succ n ih =>
    intro v1 M hf
    simp only [f_N_belongs_2] at hf
    refine x_iload_n hc (xd dk_N_belongs 2 rfl) rfl rfl ?_
    refine x_aload_n hc (xd dk_N_belongs 3 rfl) rfl rfl ?_
    refine x_get hc (ci := 10) (k := 41) fi_N (c_N hb _) rfl (by decide) rfl xw1184 rfl (xd dk_N_belongs 4 rfl) ?_
    refine x_icmp_ge hc (tgt := 79) (xd dk_N_belongs 5 rfl) rfl (fun q11 => ?_) (fun q11 => ?_)
    · rw [if_pos q11] at hf
      cases hf
      exact x_return hc (xd dk_N_belongs 49 rfl)
    · rw [if_neg q11] at hf
      refine x_aload_n hc (xd dk_N_belongs 6 rfl) rfl rfl ?_
      refine x_aload_n hc (xd dk_N_belongs 7 rfl) rfl rfl ?_
      refine x_get hc (ci := 10) (k := 38) fi_N (c_N hb _) rfl (by decide) rfl xw1181 rfl (xd dk_N_belongs 8 rfl) ?_
      refine x_iload_n hc (xd dk_N_belongs 9 rfl) rfl rfl ?_
      by_cases q12 : xin v1 64 = true
      case neg => rw [if_neg q12] at hf; cases hf
      rw [if_pos q12] at hf
      refine x_iald hc (cA (xMd.ar hb 25 (by decide) rfl)) (xin_in q12) (xd dk_N_belongs 10 rfl) ?_
      refine x_aload_n hc (xd dk_N_belongs 11 rfl) rfl rfl ?_
      refine x_get hc (ci := 10) (k := 37) fi_N (c_N hb _) rfl (by decide) rfl xw1180 rfl (xd dk_N_belongs 12 rfl) ?_
      refine x_iload_n hc (xd dk_N_belongs 13 rfl) rfl rfl ?_
      by_cases q13 : xin v1 64 = true
      case neg => rw [if_neg q13] at hf; cases hf
      rw [if_pos q13] at hf
      refine x_iald hc (cA (xMd.ar hb 24 (by decide) rfl)) (xin_in q13) (xd dk_N_belongs 14 rfl) ?_
      obtain ⟨x14, hx14, hf⟩ := xval_ex hf
      rw [← hx14]
      obtain ⟨x15, hx15, hf⟩ := xval_ex hf
      rw [← hx15]
      obtain ⟨r16, M, e17, hf⟩ := xbind_some hf
      refine x_callV hc (As := [.int x14, .int x15]) (n := 2) (s_N_thingAround hb e17) (c_N hb _) rfl (hR.call (by decide) (by decide)) ⟨by decide, by decide, by decide⟩ rfl rfl xw1142 xw18 xw1139 xw1141 xs_N_thingAround (Nat.le_of_ble_eq_true rfl) ⟨Nat.zero_le _, Nat.zero_le _⟩ (xd dk_N_belongs 15 rfl) ?_
      refine x_istore_n hc (xd dk_N_belongs 16 rfl) (by decide) rfl ?_
      refine x_aload_n hc (xd dk_N_belongs 17 rfl) rfl rfl ?_
      refine x_get hc (ci := 10) (k := 39) fi_N (c_N hb _) rfl (by decide) rfl xw1182 rfl (xd dk_N_belongs 18 rfl) ?_
      refine x_iload_n hc (xd dk_N_belongs 19 rfl) rfl rfl ?_
      refine x_iload_n hc (xd dk_N_belongs 20 rfl) rfl rfl ?_
      by_cases q18 : xin v1 64 = true
      case neg => rw [if_neg q18] at hf; cases hf
      rw [if_pos q18] at hf
      refine x_iast hc (cA (xMd.ar hb 26 (by decide) rfl)) (xin_in q18) (xd dk_N_belongs 21 rfl) ?_
      rw [wA (xMd.ar hb 26 (by decide) rfl)]
      replace hf := xlet_some hf
      generalize wI M (b + 26) v1.toNatClampNeg r16 = M at hf ⊢
      refine x_iload_n hc (xd dk_N_belongs 22 rfl) rfl rfl ?_
      refine x_if_ge hc (tgt := 41) (xd dk_N_belongs 23 rfl) rfl (fun q19 => ?_) (fun q19 => ?_)
      · rw [if_pos q19] at hf
        refine x_aload_n hc (xd dk_N_belongs 25 rfl) rfl rfl ?_
        refine x_get hc (ci := 10) (k := 40) fi_N (c_N hb _) rfl (by decide) rfl xw1183 rfl (xd dk_N_belongs 26 rfl) ?_
        refine x_iload_n hc (xd dk_N_belongs 27 rfl) rfl rfl ?_
        by_cases q20 : xin v1 64 = true
        case neg => rw [if_neg q20] at hf; cases hf
        rw [if_pos q20] at hf
        refine x_zald hc (cA (xMd.ar hb 27 (by decide) rfl)) (xin_in q20) (xd dk_N_belongs 28 rfl) ?_
        refine x_if_eq hc (tgt := 63) (xd dk_N_belongs 29 rfl) rfl (fun q21 => ?_) (fun q21 => ?_)
        · rw [if_pos q21] at hf
          refine x_aload_n hc (xd dk_N_belongs 39 rfl) rfl rfl ?_
          refine x_get hc (ci := 10) (k := 34) fi_N (c_N hb _) rfl (by decide) rfl xw1177 rfl (xd dk_N_belongs 40 rfl) ?_
          refine x_iload_n hc (xd dk_N_belongs 41 rfl) rfl rfl ?_
          refine x_dup2_11 hc (xd dk_N_belongs 42 rfl) rfl rfl ?_
          by_cases q22 : xin r16 64 = true
          case neg => rw [if_neg q22] at hf; cases hf
          rw [if_pos q22] at hf
          refine x_iald hc (cA (xMd.ar hb 22 (by decide) rfl)) (xin_in q22) (xd dk_N_belongs 43 rfl) ?_
          refine x_iconst hc (v := 1) (xd dk_N_belongs 44 rfl) (by decide) ?_
          refine x_iadd hc (xd dk_N_belongs 45 rfl) ?_
          obtain ⟨x23, hx23, hf⟩ := xval_ex hf
          rw [← hx23]
          by_cases q24 : xin r16 64 = true
          case neg => rw [if_neg q24] at hf; cases hf
          rw [if_pos q24] at hf
          refine x_iast hc (cA (xMd.ar hb 22 (by decide) rfl)) (xin_in q24) (xd dk_N_belongs 46 rfl) ?_
          rw [wA (xMd.ar hb 22 (by decide) rfl)]
          replace hf := xlet_some hf
          generalize wI M (b + 22) r16.toNatClampNeg x23 = M at hf ⊢
          exact s_N_belongs_73 hc hR hb ih v1 r16 M hf
        · rw [if_neg q21] at hf
          refine x_aload_n hc (xd dk_N_belongs 30 rfl) rfl rfl ?_
          refine x_get hc (ci := 10) (k := 35) fi_N (c_N hb _) rfl (by decide) rfl xw1178 rfl (xd dk_N_belongs 31 rfl) ?_
          refine x_iload_n hc (xd dk_N_belongs 32 rfl) rfl rfl ?_
          refine x_dup2_11 hc (xd dk_N_belongs 33 rfl) rfl rfl ?_
          by_cases q25 : xin r16 64 = true
          case neg => rw [if_neg q25] at hf; cases hf
          rw [if_pos q25] at hf
          refine x_iald hc (cA (xMd.ar hb 23 (by decide) rfl)) (xin_in q25) (xd dk_N_belongs 34 rfl) ?_
          refine x_iconst hc (v := 1) (xd dk_N_belongs 35 rfl) (by decide) ?_
          refine x_iadd hc (xd dk_N_belongs 36 rfl) ?_
          obtain ⟨x26, hx26, hf⟩ := xval_ex hf
          rw [← hx26]
          by_cases q27 : xin r16 64 = true
          case neg => rw [if_neg q27] at hf; cases hf
          rw [if_pos q27] at hf
          refine x_iast hc (cA (xMd.ar hb 23 (by decide) rfl)) (xin_in q27) (xd dk_N_belongs 37 rfl) ?_
          rw [wA (xMd.ar hb 23 (by decide) rfl)]
          replace hf := xlet_some hf
          generalize wI M (b + 23) r16.toNatClampNeg x26 = M at hf ⊢
          refine x_goto hc (tgt := 73) (xd dk_N_belongs 38 rfl) rfl ?_
          exact s_N_belongs_73 hc hR hb ih v1 r16 M hf
      · rw [if_neg q19] at hf
        refine x_goto hc (tgt := 73) (xd dk_N_belongs 24 rfl) rfl ?_
        exact s_N_belongs_73 hc hR hb ih v1 r16 M hf
set_option maxRecDepth 100000 in
set_option maxHeartbeats 400000 in
theorem s_N_belongs {l : Launch} {G : xG} {Y : xY} {sz : Nat} {b : Nat}  (hb : xMd Y b) {M M' : xMem} {r : Unit} (hf : f_N_belongs b M = some (r, M')) : xM l G y_N_belongs c_N_belongs 3 none 3 0 0 [.ref b] (xo G Y M) sz none (xo G Y M') sz := by
  unfold f_N_belongs at hf
  refine xM.of (k := 2) (L0 := [some (.ref b), none, none]) (by decide) (Nat.le_of_ble_eq_true rfl) rfl ?_
  intro p e s m args below meth c hc hnm
  have hR : xRm { frames := 3, cells := 0, slots := 0, locals := 48 * 3 } 3 := ⟨Nat.le_refl _, Nat.le_refl _⟩
  refine x_iconst hc (v := 0) (xd dk_N_belongs 0 rfl) (by decide) ?_
  refine x_istore_n hc (xd dk_N_belongs 1 rfl) (by decide) rfl ?_
  exact s_N_belongs_2 hc hR hb xFuel 0 M hf
def f_N_write_52 (b : Nat) (p1 : Int64) (k13 : Int32 → Int32 → xMem → Option (Int32 × xMem)) (v3 : Int32) (v4 : Int32) (w1 : Int32) (M : xMem) : Option (Int32 × xMem) :=
  (xbind (f_N_fails b w1 1 M) fun r18 M => if r18 = 0 then (k13 v3 (v4 + Int32.ofInt 1) M) else (some (0, M)))
def f_N_write_51 (b : Nat) (p1 : Int64) (k13 : Int32 → Int32 → xMem → Option (Int32 × xMem)) (v3 : Int32) (v4 : Int32) (M : xMem) : Option (Int32 × xMem) :=
  (f_N_write_52 b p1 k13 v3 v4 0 M)
def f_N_write_114 (b : Nat) (p1 : Int64) : Nat → Int32 → Int32 → xMem → Option (Int32 × xMem)
  | 0, _, _, _ => none
  | n + 1, v3, v4, M =>
    (if v3 ≤ v4 then (xval ((M.1 b 1) + v3) fun x22 => xlet (wI M b 1 x22) fun M => some (M.1 b 1, M)) else (xval ((M.1 b 1) + v4) fun x23 => xbind (f_N_octet p1 v4 M) fun r24 M => if xin x23 160 = true then xlet (wI M (b + 1) x23.toNatClampNeg r24) fun M => f_N_write_114 b p1 n v3 (v4 + Int32.ofInt 1) M else none))
def f_N_write_102 (b : Nat) (p1 : Int64) (v3 : Int32) (v4 : Int32) (w1 : Int32) (M : xMem) : Option (Int32 × xMem) :=
  (xbind (f_N_fails b w1 2 M) fun r27 M => if r27 = 0 then (f_N_write_114 b p1 xFuel v3 0 M) else (some (0, M)))
def f_N_write_77 (b : Nat) (p1 : Int64) (v3 : Int32) (v4 : Int32) (w1 : Int32) (M : xMem) : Option (Int32 × xMem) :=
  (xbind (f_N_fails b w1 1 M) fun r30 M => if r30 = 0 then (if ((M.1 b 1) + v3) ≤ 160 then (f_N_write_102 b p1 v3 v4 0 M) else (f_N_write_102 b p1 v3 v4 1 M)) else (some (0, M)))
def f_N_write_13 (b : Nat) (p1 : Int64) : Nat → Int32 → Int32 → xMem → Option (Int32 × xMem)
  | 0, _, _, _ => none
  | n + 1, v3, v4, M =>
    (if v3 ≤ v4 then (if v3 = 0 then (f_N_write_77 b p1 v3 v4 1 M) else (f_N_write_77 b p1 v3 v4 0 M)) else (xbind (f_N_octet p1 v4 M) fun r36 M => xbind (f_N_in r36 32 126 M) fun r38 M => if r38 = 0 then (xbind (f_N_octet p1 v4 M) fun r41 M => if r41 = 10 then (f_N_write_51 b p1 (f_N_write_13 b p1 n) v3 v4 M) else (f_N_write_52 b p1 (f_N_write_13 b p1 n) v3 v4 1 M)) else (f_N_write_51 b p1 (f_N_write_13 b p1 n) v3 v4 M)))
def f_N_write (b : Nat) (p1 : Int64) (M : xMem) : Option (Int32 × xMem) :=
  (xlet (wI M b 0 0) fun M => xbind (f_N_sizeOf p1 M) fun r44 M => f_N_write_13 b p1 xFuel r44 0 M)
set_option maxRecDepth 100000 in
set_option maxHeartbeats 400000 in
theorem s_N_write_52 {p : Program} {l : Launch} {e : Env} {R : Room} {s : State} {m : MethodId} {args : Array Value} {below : List Frame} {meth : Method} {c : Code} {G : xG} {Y : xY} {sz : Nat} {b : Nat} {p1 : Int64}  (hc : xC p s m args meth c G 5 c_N_write y_N_write.cls (some .int)) (hR : xRm R 2) (hb : xMd Y b) {k13 : Int32 → Int32 → xMem → Option (Int32 × xMem)} {M' : xMem} {r : Int32} (hk13 : ∀ (v3 : Int32) (v4 : Int32) (M : xMem), k13 v3 v4 M = some (r, M') → xW p l e R s m args below meth c G 5 (MQ below (xQc G (some (.int r)) (xo G Y M') sz) args s 0 0 (xA G)) (xo G Y M) sz 0 0 13 [some (.ref b), some (.long (p1)), none, some (.int v3), some (.int v4)] []) (v3 : Int32) (v4 : Int32) (w1 : Int32) (M : xMem) (hf : f_N_write_52 b p1 k13 v3 v4 w1 M = some (r, M')) : xW p l e R s m args below meth c G 5 (MQ below (xQc G (some (.int r)) (xo G Y M') sz) args s 0 0 (xA G)) (xo G Y M) sz 0 0 52 [some (.ref b), some (.long (p1)), none, some (.int v3), some (.int v4)] [.int w1, .ref b] := by
  unfold f_N_write_52 at hf
  refine x_iconst hc (v := 1) (xd dk_N_write 27 rfl) (by decide) ?_
  obtain ⟨r18, M, e19, hf⟩ := xbind_some hf
  refine x_callV hc (As := [.int w1, .int 1]) (n := 2) (s_N_fails hb e19) (c_N hb _) rfl (hR.call (by decide) (by decide)) ⟨by decide, by decide, by decide⟩ rfl rfl xw1357 xw18 xw1354 xw1356 xs_N_fails (Nat.le_of_ble_eq_true rfl) ⟨Nat.zero_le _, Nat.zero_le _⟩ (xd dk_N_write 28 rfl) ?_
  refine x_if_eq hc (tgt := 61) (xd dk_N_write 29 rfl) rfl (fun q20 => ?_) (fun q20 => ?_)
  · rw [if_pos q20] at hf
    refine x_iinc hc (xd dk_N_write 32 rfl) rfl (by decide) rfl ?_
    refine x_goto hc (tgt := 13) (xd dk_N_write 33 rfl) rfl ?_
    exact hk13 v3 (v4 + Int32.ofInt 1) M hf
  · rw [if_neg q20] at hf
    refine x_iconst hc (v := 0) (xd dk_N_write 30 rfl) (by decide) ?_
    cases hf
    exact x_ireturn hc (xd dk_N_write 31 rfl)
set_option maxRecDepth 100000 in
set_option maxHeartbeats 400000 in
theorem s_N_write_51 {p : Program} {l : Launch} {e : Env} {R : Room} {s : State} {m : MethodId} {args : Array Value} {below : List Frame} {meth : Method} {c : Code} {G : xG} {Y : xY} {sz : Nat} {b : Nat} {p1 : Int64}  (hc : xC p s m args meth c G 5 c_N_write y_N_write.cls (some .int)) (hR : xRm R 2) (hb : xMd Y b) {k13 : Int32 → Int32 → xMem → Option (Int32 × xMem)} {M' : xMem} {r : Int32} (hk13 : ∀ (v3 : Int32) (v4 : Int32) (M : xMem), k13 v3 v4 M = some (r, M') → xW p l e R s m args below meth c G 5 (MQ below (xQc G (some (.int r)) (xo G Y M') sz) args s 0 0 (xA G)) (xo G Y M) sz 0 0 13 [some (.ref b), some (.long (p1)), none, some (.int v3), some (.int v4)] []) (v3 : Int32) (v4 : Int32) (M : xMem) (hf : f_N_write_51 b p1 k13 v3 v4 M = some (r, M')) : xW p l e R s m args below meth c G 5 (MQ below (xQc G (some (.int r)) (xo G Y M') sz) args s 0 0 (xA G)) (xo G Y M) sz 0 0 51 [some (.ref b), some (.long (p1)), none, some (.int v3), some (.int v4)] [.ref b] := by
  unfold f_N_write_51 at hf
  refine x_iconst hc (v := 0) (xd dk_N_write 26 rfl) (by decide) ?_
  exact s_N_write_52 hc hR hb hk13 v3 v4 0 M hf
set_option maxRecDepth 100000 in
set_option maxHeartbeats 400000 in
theorem s_N_write_114 {p : Program} {l : Launch} {e : Env} {R : Room} {s : State} {m : MethodId} {args : Array Value} {below : List Frame} {meth : Method} {c : Code} {G : xG} {Y : xY} {sz : Nat} {b : Nat} {p1 : Int64}  (hc : xC p s m args meth c G 5 c_N_write y_N_write.cls (some .int)) (hR : xRm R 2) (hb : xMd Y b) {M' : xMem} {r : Int32} : ∀ (n : Nat) (v3 : Int32) (v4 : Int32) (M : xMem), f_N_write_114 b p1 n v3 v4 M = some (r, M') → xW p l e R s m args below meth c G 5 (MQ below (xQc G (some (.int r)) (xo G Y M') sz) args s 0 0 (xA G)) (xo G Y M) sz 0 0 114 [some (.ref b), some (.long (p1)), none, some (.int v3), some (.int v4)] [] := by
  intro n
  induction n with
  | zero => intro v3 v4 M hf; simp only [f_N_write_114] at hf; cases hf
  | succ n ih =>
    intro v3 v4 M hf
    simp only [f_N_write_114] at hf
    refine x_iload hc (xd dk_N_write 60 rfl) rfl ?_
    refine x_iload_n hc (xd dk_N_write 61 rfl) rfl rfl ?_
    refine x_icmp_ge hc (tgt := 144) (xd dk_N_write 62 rfl) rfl (fun q21 => ?_) (fun q21 => ?_)
    · rw [if_pos q21] at hf
      refine x_aload_n hc (xd dk_N_write 75 rfl) rfl rfl ?_
      refine x_dup hc (xd dk_N_write 76 rfl) rfl ?_
      refine x_get hc (ci := 10) (k := 1) fi_N (c_N hb _) rfl (by decide) rfl xw1144 rfl (xd dk_N_write 77 rfl) ?_
      refine x_iload_n hc (xd dk_N_write 78 rfl) rfl rfl ?_
      refine x_iadd hc (xd dk_N_write 79 rfl) ?_
      obtain ⟨x22, hx22, hf⟩ := xval_ex hf
      rw [← hx22]
      refine x_put hc (ci := 10) (k := 1) fi_N ft_N ft_N_ok fn_N (c_N hb _) rfl (by decide) rfl xw1144 rfl rfl rfl (Nat.le_of_ble_eq_true rfl) (xd dk_N_write 80 rfl) ?_
      rw [w_N_1 hb]
      replace hf := xlet_some hf
      generalize wI M b 1 x22 = M at hf ⊢
      refine x_aload_n hc (xd dk_N_write 81 rfl) rfl rfl ?_
      refine x_get hc (ci := 10) (k := 1) fi_N (c_N hb _) rfl (by decide) rfl xw1144 rfl (xd dk_N_write 82 rfl) ?_
      cases hf
      exact x_ireturn hc (xd dk_N_write 83 rfl)
    · rw [if_neg q21] at hf
      refine x_aload_n hc (xd dk_N_write 63 rfl) rfl rfl ?_
      refine x_get hc (ci := 10) (k := 10) fi_N (c_N hb _) rfl (by decide) rfl xw1153 rfl (xd dk_N_write 64 rfl) ?_
      refine x_aload_n hc (xd dk_N_write 65 rfl) rfl rfl ?_
      refine x_get hc (ci := 10) (k := 1) fi_N (c_N hb _) rfl (by decide) rfl xw1144 rfl (xd dk_N_write 66 rfl) ?_
      refine x_iload hc (xd dk_N_write 67 rfl) rfl ?_
      refine x_iadd hc (xd dk_N_write 68 rfl) ?_
      refine x_lload_n hc (xd dk_N_write 69 rfl) rfl rfl ?_
      refine x_iload hc (xd dk_N_write 70 rfl) rfl ?_
      obtain ⟨x23, hx23, hf⟩ := xval_ex hf
      rw [← hx23]
      obtain ⟨r24, M, e25, hf⟩ := xbind_some hf
      refine x_callS hc (As := [.long (p1), .int v4]) (n := 2) (s_N_octet e25) (hR.call (by decide) (by decide)) ⟨by decide, by decide, by decide⟩ rfl rfl xw1352 xw18 xw1350 xw1351 (Nat.le_of_ble_eq_true rfl) ⟨Nat.zero_le _, Nat.zero_le _⟩ (xd dk_N_write 71 rfl) ?_
      by_cases q26 : xin x23 160 = true
      case neg => rw [if_neg q26] at hf; cases hf
      rw [if_pos q26] at hf
      refine x_iast hc (cA (xMd.ar hb 1 (by decide) rfl)) (xin_in q26) (xd dk_N_write 72 rfl) ?_
      rw [wA (xMd.ar hb 1 (by decide) rfl)]
      replace hf := xlet_some hf
      generalize wI M (b + 1) x23.toNatClampNeg r24 = M at hf ⊢
      refine x_iinc hc (xd dk_N_write 73 rfl) rfl (by decide) rfl ?_
      refine x_goto hc (tgt := 114) (xd dk_N_write 74 rfl) rfl ?_
      exact ih v3 (v4 + Int32.ofInt 1) M hf
set_option maxRecDepth 100000 in
set_option maxHeartbeats 400000 in
theorem s_N_write_102 {p : Program} {l : Launch} {e : Env} {R : Room} {s : State} {m : MethodId} {args : Array Value} {below : List Frame} {meth : Method} {c : Code} {G : xG} {Y : xY} {sz : Nat} {b : Nat} {p1 : Int64}  (hc : xC p s m args meth c G 5 c_N_write y_N_write.cls (some .int)) (hR : xRm R 2) (hb : xMd Y b) {M' : xMem} {r : Int32} (v3 : Int32) (v4 : Int32) (w1 : Int32) (M : xMem) (hf : f_N_write_102 b p1 v3 v4 w1 M = some (r, M')) : xW p l e R s m args below meth c G 5 (MQ below (xQc G (some (.int r)) (xo G Y M') sz) args s 0 0 (xA G)) (xo G Y M) sz 0 0 102 [some (.ref b), some (.long (p1)), none, some (.int v3), some (.int v4)] [.int w1, .ref b] := by
  unfold f_N_write_102 at hf
  refine x_iconst hc (v := 2) (xd dk_N_write 53 rfl) (by decide) ?_
  obtain ⟨r27, M, e28, hf⟩ := xbind_some hf
  refine x_callV hc (As := [.int w1, .int 2]) (n := 2) (s_N_fails hb e28) (c_N hb _) rfl (hR.call (by decide) (by decide)) ⟨by decide, by decide, by decide⟩ rfl rfl xw1357 xw18 xw1354 xw1356 xs_N_fails (Nat.le_of_ble_eq_true rfl) ⟨Nat.zero_le _, Nat.zero_le _⟩ (xd dk_N_write 54 rfl) ?_
  refine x_if_eq hc (tgt := 111) (xd dk_N_write 55 rfl) rfl (fun q29 => ?_) (fun q29 => ?_)
  · rw [if_pos q29] at hf
    refine x_iconst hc (v := 0) (xd dk_N_write 58 rfl) (by decide) ?_
    refine x_istore hc (xd dk_N_write 59 rfl) (by decide) rfl ?_
    exact s_N_write_114 hc hR hb xFuel v3 0 M hf
  · rw [if_neg q29] at hf
    refine x_iconst hc (v := 0) (xd dk_N_write 56 rfl) (by decide) ?_
    cases hf
    exact x_ireturn hc (xd dk_N_write 57 rfl)
set_option maxRecDepth 100000 in
set_option maxHeartbeats 400000 in
theorem s_N_write_77 {p : Program} {l : Launch} {e : Env} {R : Room} {s : State} {m : MethodId} {args : Array Value} {below : List Frame} {meth : Method} {c : Code} {G : xG} {Y : xY} {sz : Nat} {b : Nat} {p1 : Int64}  (hc : xC p s m args meth c G 5 c_N_write y_N_write.cls (some .int)) (hR : xRm R 2) (hb : xMd Y b) {M' : xMem} {r : Int32} (v3 : Int32) (v4 : Int32) (w1 : Int32) (M : xMem) (hf : f_N_write_77 b p1 v3 v4 w1 M = some (r, M')) : xW p l e R s m args below meth c G 5 (MQ below (xQc G (some (.int r)) (xo G Y M') sz) args s 0 0 (xA G)) (xo G Y M) sz 0 0 77 [some (.ref b), some (.long (p1)), none, some (.int v3), some (.int v4)] [.int w1, .ref b] := by
  unfold f_N_write_77 at hf
  refine x_iconst hc (v := 1) (xd dk_N_write 40 rfl) (by decide) ?_
  obtain ⟨r30, M, e31, hf⟩ := xbind_some hf
  refine x_callV hc (As := [.int w1, .int 1]) (n := 2) (s_N_fails hb e31) (c_N hb _) rfl (hR.call (by decide) (by decide)) ⟨by decide, by decide, by decide⟩ rfl rfl xw1357 xw18 xw1354 xw1356 xs_N_fails (Nat.le_of_ble_eq_true rfl) ⟨Nat.zero_le _, Nat.zero_le _⟩ (xd dk_N_write 41 rfl) ?_
  refine x_if_ne hc (tgt := 109) (xd dk_N_write 42 rfl) rfl (fun q32 => ?_) (fun q32 => ?_)
  · rw [if_neg q32] at hf
    refine x_iconst hc (v := 0) (xd dk_N_write 56 rfl) (by decide) ?_
    cases hf
    exact x_ireturn hc (xd dk_N_write 57 rfl)
  · rw [if_pos q32] at hf
    refine x_aload_n hc (xd dk_N_write 43 rfl) rfl rfl ?_
    refine x_aload_n hc (xd dk_N_write 44 rfl) rfl rfl ?_
    refine x_get hc (ci := 10) (k := 1) fi_N (c_N hb _) rfl (by decide) rfl xw1144 rfl (xd dk_N_write 45 rfl) ?_
    refine x_iload_n hc (xd dk_N_write 46 rfl) rfl rfl ?_
    refine x_iadd hc (xd dk_N_write 47 rfl) ?_
    refine x_sipush hc (v := 160) (xd dk_N_write 48 rfl) (by decide) ?_
    refine x_icmp_le hc (tgt := 101) (xd dk_N_write 49 rfl) rfl (fun q33 => ?_) (fun q33 => ?_)
    · rw [if_pos q33] at hf
      refine x_iconst hc (v := 0) (xd dk_N_write 52 rfl) (by decide) ?_
      exact s_N_write_102 hc hR hb v3 v4 0 M hf
    · rw [if_neg q33] at hf
      refine x_iconst hc (v := 1) (xd dk_N_write 50 rfl) (by decide) ?_
      refine x_goto hc (tgt := 102) (xd dk_N_write 51 rfl) rfl ?_
      exact s_N_write_102 hc hR hb v3 v4 1 M hf
set_option maxRecDepth 100000 in
set_option maxHeartbeats 400000 in
theorem s_N_write_13 {p : Program} {l : Launch} {e : Env} {R : Room} {s : State} {m : MethodId} {args : Array Value} {below : List Frame} {meth : Method} {c : Code} {G : xG} {Y : xY} {sz : Nat} {b : Nat} {p1 : Int64}  (hc : xC p s m args meth c G 5 c_N_write y_N_write.cls (some .int)) (hR : xRm R 2) (hb : xMd Y b) {M' : xMem} {r : Int32} : ∀ (n : Nat) (v3 : Int32) (v4 : Int32) (M : xMem), f_N_write_13 b p1 n v3 v4 M = some (r, M') → xW p l e R s m args below meth c G 5 (MQ below (xQc G (some (.int r)) (xo G Y M') sz) args s 0 0 (xA G)) (xo G Y M) sz 0 0 13 [some (.ref b), some (.long (p1)), none, some (.int v3), some (.int v4)] [] := by
  intro n
  induction n with
  | zero => intro v3 v4 M hf; simp only [f_N_write_13] at hf; cases hf
  | succ n ih =>
    intro v3 v4 M hf
    simp only [f_N_write_13] at hf
    refine x_iload hc (xd dk_N_write 8 rfl) rfl ?_
    refine x_iload_n hc (xd dk_N_write 9 rfl) rfl rfl ?_
    refine x_icmp_ge hc (tgt := 67) (xd dk_N_write 10 rfl) rfl (fun q34 => ?_) (fun q34 => ?_)
    · rw [if_pos q34] at hf
      refine x_aload_n hc (xd dk_N_write 34 rfl) rfl rfl ?_
      refine x_iload_n hc (xd dk_N_write 35 rfl) rfl rfl ?_
      refine x_if_ne hc (tgt := 76) (xd dk_N_write 36 rfl) rfl (fun q35 => ?_) (fun q35 => ?_)
      · rw [if_neg q35] at hf
        refine x_iconst hc (v := 0) (xd dk_N_write 39 rfl) (by decide) ?_
        exact s_N_write_77 hc hR hb v3 v4 0 M hf
      · rw [if_pos q35] at hf
        refine x_iconst hc (v := 1) (xd dk_N_write 37 rfl) (by decide) ?_
        refine x_goto hc (tgt := 77) (xd dk_N_write 38 rfl) rfl ?_
        exact s_N_write_77 hc hR hb v3 v4 1 M hf
    · rw [if_neg q34] at hf
      refine x_aload_n hc (xd dk_N_write 11 rfl) rfl rfl ?_
      refine x_lload_n hc (xd dk_N_write 12 rfl) rfl rfl ?_
      refine x_iload hc (xd dk_N_write 13 rfl) rfl ?_
      obtain ⟨r36, M, e37, hf⟩ := xbind_some hf
      refine x_callS hc (As := [.long (p1), .int v4]) (n := 2) (s_N_octet e37) (hR.call (by decide) (by decide)) ⟨by decide, by decide, by decide⟩ rfl rfl xw1352 xw18 xw1350 xw1351 (Nat.le_of_ble_eq_true rfl) ⟨Nat.zero_le _, Nat.zero_le _⟩ (xd dk_N_write 14 rfl) ?_
      refine x_bipush hc (v := 32) (xd dk_N_write 15 rfl) (by decide) ?_
      refine x_bipush hc (v := 126) (xd dk_N_write 16 rfl) (by decide) ?_
      obtain ⟨r38, M, e39, hf⟩ := xbind_some hf
      refine x_callS hc (As := [.int r36, .int 32, .int 126]) (n := 3) (s_N_in e39) (hR.call (by decide) (by decide)) ⟨by decide, by decide, by decide⟩ rfl rfl xw1043 xw18 xw1041 xw1042 (Nat.le_of_ble_eq_true rfl) ⟨Nat.zero_le _, Nat.zero_le _⟩ (xd dk_N_write 17 rfl) ?_
      refine x_if_ne hc (tgt := 51) (xd dk_N_write 18 rfl) rfl (fun q40 => ?_) (fun q40 => ?_)
      · rw [if_neg q40] at hf
        exact s_N_write_51 hc hR hb ih v3 v4 M hf
      · rw [if_pos q40] at hf
        refine x_lload_n hc (xd dk_N_write 19 rfl) rfl rfl ?_
        refine x_iload hc (xd dk_N_write 20 rfl) rfl ?_
        obtain ⟨r41, M, e42, hf⟩ := xbind_some hf
        refine x_callS hc (As := [.long (p1), .int v4]) (n := 2) (s_N_octet e42) (hR.call (by decide) (by decide)) ⟨by decide, by decide, by decide⟩ rfl rfl xw1352 xw18 xw1350 xw1351 (Nat.le_of_ble_eq_true rfl) ⟨Nat.zero_le _, Nat.zero_le _⟩ (xd dk_N_write 21 rfl) ?_
        refine x_bipush hc (v := 10) (xd dk_N_write 22 rfl) (by decide) ?_
        refine x_icmp_eq hc (tgt := 51) (xd dk_N_write 23 rfl) rfl (fun q43 => ?_) (fun q43 => ?_)
        · rw [if_pos q43] at hf
          exact s_N_write_51 hc hR hb ih v3 v4 M hf
        · rw [if_neg q43] at hf
          refine x_iconst hc (v := 1) (xd dk_N_write 24 rfl) (by decide) ?_
          refine x_goto hc (tgt := 52) (xd dk_N_write 25 rfl) rfl ?_
          exact s_N_write_52 hc hR hb ih v3 v4 1 M hf
set_option maxRecDepth 100000 in
set_option maxHeartbeats 400000 in
theorem s_N_write {l : Launch} {G : xG} {Y : xY} {sz : Nat} {b : Nat} {p1 : Int64}  (hb : xMd Y b) {M M' : xMem} {r : Int32} (hf : f_N_write b p1 M = some (r, M')) : xM l G y_N_write c_N_write 5 (some .int) 2 0 0 [.ref b, .long (p1)] (xo G Y M) sz (some (.int r)) (xo G Y M') sz := by
  unfold f_N_write at hf
  refine xM.of (k := 2) (L0 := [some (.ref b), some (.long (p1)), none, none, none]) (by decide) (Nat.le_of_ble_eq_true rfl) rfl ?_
  intro p e s m args below meth c hc hnm
  have hR : xRm { frames := 2, cells := 0, slots := 0, locals := 48 * 2 } 2 := ⟨Nat.le_refl _, Nat.le_refl _⟩
  refine x_aload_n hc (xd dk_N_write 0 rfl) rfl rfl ?_
  refine x_iconst hc (v := 0) (xd dk_N_write 1 rfl) (by decide) ?_
  refine x_put hc (ci := 10) (k := 0) fi_N ft_N ft_N_ok fn_N (c_N hb _) rfl (by decide) rfl xw1143 rfl rfl rfl (Nat.le_of_ble_eq_true rfl) (xd dk_N_write 2 rfl) ?_
  rw [w_N_0 hb]
  replace hf := xlet_some hf
  generalize wI M b 0 0 = M at hf ⊢
  refine x_lload_n hc (xd dk_N_write 3 rfl) rfl rfl ?_
  obtain ⟨r44, M, e45, hf⟩ := xbind_some hf
  refine x_callS hc (As := [.long (p1)]) (n := 1) (s_N_sizeOf e45) (hR.call (by decide) (by decide)) ⟨by decide, by decide, by decide⟩ rfl rfl xw1349 xw18 xw1347 xw1348 (Nat.le_of_ble_eq_true rfl) ⟨Nat.zero_le _, Nat.zero_le _⟩ (xd dk_N_write 4 rfl) ?_
  refine x_istore_n hc (xd dk_N_write 5 rfl) (by decide) rfl ?_
  refine x_iconst hc (v := 0) (xd dk_N_write 6 rfl) (by decide) ?_
  refine x_istore hc (xd dk_N_write 7 rfl) (by decide) rfl ?_
  exact s_N_write_13 hc hR hb xFuel r44 0 M hf
def f_N_declaration_154 (b : Nat) (p1 : Int32) (p2 : Int32) (v3 : Int32) (v4 : Int32) (v5 : Int32) (M : xMem) : Option (Unit × xMem) :=
  (xbind (f_N_push b 4 p1 24 0 M) fun r18 M => xbind (f_N_push b 5 (p1 + 1) 1 0 M) fun r20 M => some ((), M))
def f_N_declaration_93 (b : Nat) (p1 : Int32) (p2 : Int32) (v3 : Int32) (v4 : Int32) (v5 : Int32) (M : xMem) : Option (Unit × xMem) :=
  (xbind (f_N_takes b 14 M) fun r22 M => if M.1 b 4 < 0 then (if xin v5 64 = true then xval ((M.1 (b + 23) v5.toNatClampNeg) + 1) fun x26 => if xin v5 64 = true then xlet (wI M (b + 23) v5.toNatClampNeg x26) fun M => if p2 = 4 then (xval (M.1 b 57) fun x29 => if xin x29 64 = true then xlet (wI M (b + 31) x29.toNatClampNeg v3) fun M => xval (M.1 b 57) fun x31 => if xin x31 64 = true then xlet (wI M (b + 32) x31.toNatClampNeg v5) fun M => xval ((M.1 b 57) + 1) fun x33 => xlet (wI M b 57 x33) fun M => f_N_declaration_154 b p1 p2 v3 v4 v5 M else none else none) else (f_N_declaration_154 b p1 p2 v3 v4 v5 M) else none else none) else (some ((), M)))
def f_N_declaration_63 (b : Nat) (p1 : Int32) (p2 : Int32) (v3 : Int32) (v4 : Int32) (w1 : Int32) (w2 : Int32) (M : xMem) : Option (Unit × xMem) :=
  (xbind (f_N_declares b w1 w2 M) fun r34 M => if p2 = 5 then (f_N_declaration_93 b p1 p2 v3 v4 r34 M) else (xbind (f_N_is b 24 M) fun r37 M => if r37 = 0 then (f_N_declaration_93 b p1 p2 v3 v4 r34 M) else (xval ((M.1 b 7) + 1) fun x40 => xlet (wI M b 7 x40) fun M => some ((), M))))
def f_N_declaration (b : Nat) (p1 : Int32) (p2 : Int32) (M : xMem) : Option (Unit × xMem) :=
  (if xin (M.1 b 7) 64 = true then xval (M.1 (b + 9) (M.1 b 7).toNatClampNeg) fun x42 => xval ((M.1 b 7) + 1) fun x43 => xlet (wI M b 7 x43) fun M => xbind (f_N_takes b 1 M) fun r44 M => if M.1 b 4 < 0 then (if p2 = 4 then (f_N_declaration_63 b p1 p2 x42 x43 x43 0 M) else (if p2 = 5 then (f_N_declaration_63 b p1 p2 x42 x43 x43 1 M) else (f_N_declaration_63 b p1 p2 x42 x43 x43 2 M))) else (some ((), M)) else none)
set_option maxRecDepth 100000 in
set_option maxHeartbeats 400000 in
theorem s_N_declaration_154 {p : Program} {l : Launch} {e : Env} {R : Room} {s : State} {m : MethodId} {args : Array Value} {below : List Frame} {meth : Method} {c : Code} {G : xG} {Y : xY} {sz : Nat} {b : Nat} {p1 : Int32} {p2 : Int32}  (hc : xC p s m args meth c G 6 c_N_declaration y_N_declaration.cls none) (hR : xRm R 3) (hb : xMd Y b) {M' : xMem} {r : Unit} (v3 : Int32) (v4 : Int32) (v5 : Int32) (M : xMem) (hf : f_N_declaration_154 b p1 p2 v3 v4 v5 M = some (r, M')) : xW p l e R s m args below meth c G 6 (MQ below (xQc G none (xo G Y M') sz) args s 0 0 (xA G)) (xo G Y M) sz 0 0 154 [some (.ref b), some (.int p1), some (.int p2), some (.int v3), some (.int v4), some (.int v5)] [] := by
  unfold f_N_declaration_154 at hf
  refine x_aload_n hc (xd dk_N_declaration 89 rfl) rfl rfl ?_
  refine x_iconst hc (v := 4) (xd dk_N_declaration 90 rfl) (by decide) ?_
  refine x_iload_n hc (xd dk_N_declaration 91 rfl) rfl rfl ?_
  refine x_bipush hc (v := 24) (xd dk_N_declaration 92 rfl) (by decide) ?_
  refine x_iconst hc (v := 0) (xd dk_N_declaration 93 rfl) (by decide) ?_
  obtain ⟨r18, M, e19, hf⟩ := xbind_some hf
  refine x_callV hc (As := [.int 4, .int p1, .int 24, .int 0]) (n := 4) (s_N_push hb e19) (c_N hb _) rfl (hR.call (by decide) (by decide)) ⟨by decide, by decide, by decide⟩ rfl rfl xw1078 xw18 xw1075 xw1077 xs_N_push (Nat.le_of_ble_eq_true rfl) ⟨Nat.zero_le _, Nat.zero_le _⟩ (xd dk_N_declaration 94 rfl) ?_
  refine x_aload_n hc (xd dk_N_declaration 95 rfl) rfl rfl ?_
  refine x_iconst hc (v := 5) (xd dk_N_declaration 96 rfl) (by decide) ?_
  refine x_iload_n hc (xd dk_N_declaration 97 rfl) rfl rfl ?_
  refine x_iconst hc (v := 1) (xd dk_N_declaration 98 rfl) (by decide) ?_
  refine x_iadd hc (xd dk_N_declaration 99 rfl) ?_
  refine x_iconst hc (v := 1) (xd dk_N_declaration 100 rfl) (by decide) ?_
  refine x_iconst hc (v := 0) (xd dk_N_declaration 101 rfl) (by decide) ?_
  obtain ⟨r20, M, e21, hf⟩ := xbind_some hf
  refine x_callV hc (As := [.int 5, .int ((p1 + 1)), .int 1, .int 0]) (n := 4) (s_N_push hb e21) (c_N hb _) rfl (hR.call (by decide) (by decide)) ⟨by decide, by decide, by decide⟩ rfl rfl xw1078 xw18 xw1075 xw1077 xs_N_push (Nat.le_of_ble_eq_true rfl) ⟨Nat.zero_le _, Nat.zero_le _⟩ (xd dk_N_declaration 102 rfl) ?_
  cases hf
  exact x_return hc (xd dk_N_declaration 103 rfl)
set_option maxRecDepth 100000 in
set_option maxHeartbeats 400000 in
theorem s_N_declaration_93 {p : Program} {l : Launch} {e : Env} {R : Room} {s : State} {m : MethodId} {args : Array Value} {below : List Frame} {meth : Method} {c : Code} {G : xG} {Y : xY} {sz : Nat} {b : Nat} {p1 : Int32} {p2 : Int32}  (hc : xC p s m args meth c G 6 c_N_declaration y_N_declaration.cls none) (hR : xRm R 3) (hb : xMd Y b) {M' : xMem} {r : Unit} (v3 : Int32) (v4 : Int32) (v5 : Int32) (M : xMem) (hf : f_N_declaration_93 b p1 p2 v3 v4 v5 M = some (r, M')) : xW p l e R s m args below meth c G 6 (MQ below (xQc G none (xo G Y M') sz) args s 0 0 (xA G)) (xo G Y M) sz 0 0 93 [some (.ref b), some (.int p1), some (.int p2), some (.int v3), some (.int v4), some (.int v5)] [] := by
  unfold f_N_declaration_93 at hf
  refine x_aload_n hc (xd dk_N_declaration 53 rfl) rfl rfl ?_
  refine x_bipush hc (v := 14) (xd dk_N_declaration 54 rfl) (by decide) ?_
  obtain ⟨r22, M, e23, hf⟩ := xbind_some hf
  refine x_callV hc (As := [.int 14]) (n := 1) (s_N_takes hb e23) (c_N hb _) rfl (hR.call (by decide) (by decide)) ⟨by decide, by decide, by decide⟩ rfl rfl xw1102 xw18 xw1099 xw1101 xs_N_takes (Nat.le_of_ble_eq_true rfl) ⟨Nat.zero_le _, Nat.zero_le _⟩ (xd dk_N_declaration 55 rfl) ?_
  refine x_aload_n hc (xd dk_N_declaration 56 rfl) rfl rfl ?_
  refine x_get hc (ci := 10) (k := 4) fi_N (c_N hb _) rfl (by decide) rfl xw1147 rfl (xd dk_N_declaration 57 rfl) ?_
  refine x_if_lt hc (tgt := 107) (xd dk_N_declaration 58 rfl) rfl (fun q24 => ?_) (fun q24 => ?_)
  · rw [if_pos q24] at hf
    refine x_aload_n hc (xd dk_N_declaration 60 rfl) rfl rfl ?_
    refine x_get hc (ci := 10) (k := 35) fi_N (c_N hb _) rfl (by decide) rfl xw1178 rfl (xd dk_N_declaration 61 rfl) ?_
    refine x_iload hc (xd dk_N_declaration 62 rfl) rfl ?_
    refine x_dup2_11 hc (xd dk_N_declaration 63 rfl) rfl rfl ?_
    by_cases q25 : xin v5 64 = true
    case neg => rw [if_neg q25] at hf; cases hf
    rw [if_pos q25] at hf
    refine x_iald hc (cA (xMd.ar hb 23 (by decide) rfl)) (xin_in q25) (xd dk_N_declaration 64 rfl) ?_
    refine x_iconst hc (v := 1) (xd dk_N_declaration 65 rfl) (by decide) ?_
    refine x_iadd hc (xd dk_N_declaration 66 rfl) ?_
    obtain ⟨x26, hx26, hf⟩ := xval_ex hf
    rw [← hx26]
    by_cases q27 : xin v5 64 = true
    case neg => rw [if_neg q27] at hf; cases hf
    rw [if_pos q27] at hf
    refine x_iast hc (cA (xMd.ar hb 23 (by decide) rfl)) (xin_in q27) (xd dk_N_declaration 67 rfl) ?_
    rw [wA (xMd.ar hb 23 (by decide) rfl)]
    replace hf := xlet_some hf
    generalize wI M (b + 23) v5.toNatClampNeg x26 = M at hf ⊢
    refine x_iload_n hc (xd dk_N_declaration 68 rfl) rfl rfl ?_
    refine x_iconst hc (v := 4) (xd dk_N_declaration 69 rfl) (by decide) ?_
    refine x_icmp_ne hc (tgt := 154) (xd dk_N_declaration 70 rfl) rfl (fun q28 => ?_) (fun q28 => ?_)
    · rw [if_neg q28] at hf
      exact s_N_declaration_154 hc hR hb v3 v4 v5 M hf
    · rw [if_pos q28] at hf
      refine x_aload_n hc (xd dk_N_declaration 71 rfl) rfl rfl ?_
      refine x_get hc (ci := 10) (k := 45) fi_N (c_N hb _) rfl (by decide) rfl xw1188 rfl (xd dk_N_declaration 72 rfl) ?_
      refine x_aload_n hc (xd dk_N_declaration 73 rfl) rfl rfl ?_
      refine x_get hc (ci := 10) (k := 57) fi_N (c_N hb _) rfl (by decide) rfl xw1200 rfl (xd dk_N_declaration 74 rfl) ?_
      refine x_iload_n hc (xd dk_N_declaration 75 rfl) rfl rfl ?_
      obtain ⟨x29, hx29, hf⟩ := xval_ex hf
      rw [← hx29]
      by_cases q30 : xin x29 64 = true
      case neg => rw [if_neg q30] at hf; cases hf
      rw [if_pos q30] at hf
      refine x_iast hc (cA (xMd.ar hb 31 (by decide) rfl)) (xin_in q30) (xd dk_N_declaration 76 rfl) ?_
      rw [wA (xMd.ar hb 31 (by decide) rfl)]
      replace hf := xlet_some hf
      generalize wI M (b + 31) x29.toNatClampNeg v3 = M at hf ⊢
      refine x_aload_n hc (xd dk_N_declaration 77 rfl) rfl rfl ?_
      refine x_get hc (ci := 10) (k := 46) fi_N (c_N hb _) rfl (by decide) rfl xw1189 rfl (xd dk_N_declaration 78 rfl) ?_
      refine x_aload_n hc (xd dk_N_declaration 79 rfl) rfl rfl ?_
      refine x_get hc (ci := 10) (k := 57) fi_N (c_N hb _) rfl (by decide) rfl xw1200 rfl (xd dk_N_declaration 80 rfl) ?_
      refine x_iload hc (xd dk_N_declaration 81 rfl) rfl ?_
      obtain ⟨x31, hx31, hf⟩ := xval_ex hf
      rw [← hx31]
      by_cases q32 : xin x31 64 = true
      case neg => rw [if_neg q32] at hf; cases hf
      rw [if_pos q32] at hf
      refine x_iast hc (cA (xMd.ar hb 32 (by decide) rfl)) (xin_in q32) (xd dk_N_declaration 82 rfl) ?_
      rw [wA (xMd.ar hb 32 (by decide) rfl)]
      replace hf := xlet_some hf
      generalize wI M (b + 32) x31.toNatClampNeg v5 = M at hf ⊢
      refine x_aload_n hc (xd dk_N_declaration 83 rfl) rfl rfl ?_
      refine x_dup hc (xd dk_N_declaration 84 rfl) rfl ?_
      refine x_get hc (ci := 10) (k := 57) fi_N (c_N hb _) rfl (by decide) rfl xw1200 rfl (xd dk_N_declaration 85 rfl) ?_
      refine x_iconst hc (v := 1) (xd dk_N_declaration 86 rfl) (by decide) ?_
      refine x_iadd hc (xd dk_N_declaration 87 rfl) ?_
      obtain ⟨x33, hx33, hf⟩ := xval_ex hf
      rw [← hx33]
      refine x_put hc (ci := 10) (k := 57) fi_N ft_N ft_N_ok fn_N (c_N hb _) rfl (by decide) rfl xw1200 rfl rfl rfl (Nat.le_of_ble_eq_true rfl) (xd dk_N_declaration 88 rfl) ?_
      rw [w_N_57 hb]
      replace hf := xlet_some hf
      generalize wI M b 57 x33 = M at hf ⊢
      exact s_N_declaration_154 hc hR hb v3 v4 v5 M hf
  · rw [if_neg q24] at hf
    cases hf
    exact x_return hc (xd dk_N_declaration 59 rfl)
set_option maxRecDepth 100000 in
set_option maxHeartbeats 400000 in
theorem s_N_declaration_63 {p : Program} {l : Launch} {e : Env} {R : Room} {s : State} {m : MethodId} {args : Array Value} {below : List Frame} {meth : Method} {c : Code} {G : xG} {Y : xY} {sz : Nat} {b : Nat} {p1 : Int32} {p2 : Int32}  (hc : xC p s m args meth c G 6 c_N_declaration y_N_declaration.cls none) (hR : xRm R 3) (hb : xMd Y b) {M' : xMem} {r : Unit} (v3 : Int32) (v4 : Int32) (w1 : Int32) (w2 : Int32) (M : xMem) (hf : f_N_declaration_63 b p1 p2 v3 v4 w1 w2 M = some (r, M')) : xW p l e R s m args below meth c G 6 (MQ below (xQc G none (xo G Y M') sz) args s 0 0 (xA G)) (xo G Y M) sz 0 0 63 [some (.ref b), some (.int p1), some (.int p2), some (.int v3), some (.int v4), none] [.int w2, .int w1, .ref b] := by
  unfold f_N_declaration_63 at hf
  obtain ⟨r34, M, e35, hf⟩ := xbind_some hf
  refine x_callV hc (As := [.int w1, .int w2]) (n := 2) (s_N_declares hb e35) (c_N hb _) rfl (hR.call (by decide) (by decide)) ⟨by decide, by decide, by decide⟩ rfl rfl xw1106 xw18 xw1103 xw1105 xs_N_declares (Nat.le_of_ble_eq_true rfl) ⟨Nat.zero_le _, Nat.zero_le _⟩ (xd dk_N_declaration 37 rfl) ?_
  refine x_istore hc (xd dk_N_declaration 38 rfl) (by decide) rfl ?_
  refine x_iload_n hc (xd dk_N_declaration 39 rfl) rfl rfl ?_
  refine x_iconst hc (v := 5) (xd dk_N_declaration 40 rfl) (by decide) ?_
  refine x_icmp_eq hc (tgt := 93) (xd dk_N_declaration 41 rfl) rfl (fun q36 => ?_) (fun q36 => ?_)
  · rw [if_pos q36] at hf
    exact s_N_declaration_93 hc hR hb v3 v4 r34 M hf
  · rw [if_neg q36] at hf
    refine x_aload_n hc (xd dk_N_declaration 42 rfl) rfl rfl ?_
    refine x_bipush hc (v := 24) (xd dk_N_declaration 43 rfl) (by decide) ?_
    obtain ⟨r37, M, e38, hf⟩ := xbind_some hf
    refine x_callV hc (As := [.int 24]) (n := 1) (s_N_is hb e38) (c_N hb _) rfl (hR.call (by decide) (by decide)) ⟨by decide, by decide, by decide⟩ rfl rfl xw1082 xw18 xw1079 xw1081 xs_N_is (Nat.le_of_ble_eq_true rfl) ⟨Nat.zero_le _, Nat.zero_le _⟩ (xd dk_N_declaration 44 rfl) ?_
    refine x_if_eq hc (tgt := 93) (xd dk_N_declaration 45 rfl) rfl (fun q39 => ?_) (fun q39 => ?_)
    · rw [if_pos q39] at hf
      exact s_N_declaration_93 hc hR hb v3 v4 r34 M hf
    · rw [if_neg q39] at hf
      refine x_aload_n hc (xd dk_N_declaration 46 rfl) rfl rfl ?_
      refine x_dup hc (xd dk_N_declaration 47 rfl) rfl ?_
      refine x_get hc (ci := 10) (k := 7) fi_N (c_N hb _) rfl (by decide) rfl xw1150 rfl (xd dk_N_declaration 48 rfl) ?_
      refine x_iconst hc (v := 1) (xd dk_N_declaration 49 rfl) (by decide) ?_
      refine x_iadd hc (xd dk_N_declaration 50 rfl) ?_
      obtain ⟨x40, hx40, hf⟩ := xval_ex hf
      rw [← hx40]
      refine x_put hc (ci := 10) (k := 7) fi_N ft_N ft_N_ok fn_N (c_N hb _) rfl (by decide) rfl xw1150 rfl rfl rfl (Nat.le_of_ble_eq_true rfl) (xd dk_N_declaration 51 rfl) ?_
      rw [w_N_7 hb]
      replace hf := xlet_some hf
      generalize wI M b 7 x40 = M at hf ⊢
      cases hf
      exact x_return hc (xd dk_N_declaration 52 rfl)
set_option maxRecDepth 100000 in
set_option maxHeartbeats 400000 in
theorem s_N_declaration {l : Launch} {G : xG} {Y : xY} {sz : Nat} {b : Nat} {p1 : Int32} {p2 : Int32}  (hb : xMd Y b) {M M' : xMem} {r : Unit} (hf : f_N_declaration b p1 p2 M = some (r, M')) : xM l G y_N_declaration c_N_declaration 6 none 3 0 0 [.ref b, .int p1, .int p2] (xo G Y M) sz none (xo G Y M') sz := by
  unfold f_N_declaration at hf
  refine xM.of (k := 3) (L0 := [some (.ref b), some (.int p1), some (.int p2), none, none, none]) (by decide) (Nat.le_of_ble_eq_true rfl) rfl ?_
  intro p e s m args below meth c hc hnm
  have hR : xRm { frames := 3, cells := 0, slots := 0, locals := 48 * 3 } 3 := ⟨Nat.le_refl _, Nat.le_refl _⟩
  refine x_aload_n hc (xd dk_N_declaration 0 rfl) rfl rfl ?_
  refine x_get hc (ci := 10) (k := 18) fi_N (c_N hb _) rfl (by decide) rfl xw1161 rfl (xd dk_N_declaration 1 rfl) ?_
  refine x_aload_n hc (xd dk_N_declaration 2 rfl) rfl rfl ?_
  refine x_get hc (ci := 10) (k := 7) fi_N (c_N hb _) rfl (by decide) rfl xw1150 rfl (xd dk_N_declaration 3 rfl) ?_
  by_cases q41 : xin (M.1 b 7) 64 = true
  case neg => rw [if_neg q41] at hf; cases hf
  rw [if_pos q41] at hf
  refine x_iald hc (cA (xMd.ar hb 9 (by decide) rfl)) (xin_in q41) (xd dk_N_declaration 4 rfl) ?_
  refine x_istore_n hc (xd dk_N_declaration 5 rfl) (by decide) rfl ?_
  refine x_aload_n hc (xd dk_N_declaration 6 rfl) rfl rfl ?_
  refine x_get hc (ci := 10) (k := 7) fi_N (c_N hb _) rfl (by decide) rfl xw1150 rfl (xd dk_N_declaration 7 rfl) ?_
  refine x_iconst hc (v := 1) (xd dk_N_declaration 8 rfl) (by decide) ?_
  refine x_iadd hc (xd dk_N_declaration 9 rfl) ?_
  refine x_istore hc (xd dk_N_declaration 10 rfl) (by decide) rfl ?_
  refine x_aload_n hc (xd dk_N_declaration 11 rfl) rfl rfl ?_
  refine x_dup hc (xd dk_N_declaration 12 rfl) rfl ?_
  refine x_get hc (ci := 10) (k := 7) fi_N (c_N hb _) rfl (by decide) rfl xw1150 rfl (xd dk_N_declaration 13 rfl) ?_
  refine x_iconst hc (v := 1) (xd dk_N_declaration 14 rfl) (by decide) ?_
  refine x_iadd hc (xd dk_N_declaration 15 rfl) ?_
  obtain ⟨x42, hx42, hf⟩ := xval_ex hf
  rw [← hx42]
  obtain ⟨x43, hx43, hf⟩ := xval_ex hf
  rw [← hx43]
  refine x_put hc (ci := 10) (k := 7) fi_N ft_N ft_N_ok fn_N (c_N hb _) rfl (by decide) rfl xw1150 rfl rfl rfl (Nat.le_of_ble_eq_true rfl) (xd dk_N_declaration 16 rfl) ?_
  rw [w_N_7 hb]
  replace hf := xlet_some hf
  generalize wI M b 7 x43 = M at hf ⊢
  refine x_aload_n hc (xd dk_N_declaration 17 rfl) rfl rfl ?_
  refine x_iconst hc (v := 1) (xd dk_N_declaration 18 rfl) (by decide) ?_
  obtain ⟨r44, M, e45, hf⟩ := xbind_some hf
  refine x_callV hc (As := [.int 1]) (n := 1) (s_N_takes hb e45) (c_N hb _) rfl (hR.call (by decide) (by decide)) ⟨by decide, by decide, by decide⟩ rfl rfl xw1102 xw18 xw1099 xw1101 xs_N_takes (Nat.le_of_ble_eq_true rfl) ⟨Nat.zero_le _, Nat.zero_le _⟩ (xd dk_N_declaration 19 rfl) ?_
  refine x_aload_n hc (xd dk_N_declaration 20 rfl) rfl rfl ?_
  refine x_get hc (ci := 10) (k := 4) fi_N (c_N hb _) rfl (by decide) rfl xw1147 rfl (xd dk_N_declaration 21 rfl) ?_
  refine x_if_lt hc (tgt := 41) (xd dk_N_declaration 22 rfl) rfl (fun q46 => ?_) (fun q46 => ?_)
  · rw [if_pos q46] at hf
    refine x_aload_n hc (xd dk_N_declaration 24 rfl) rfl rfl ?_
    refine x_iload hc (xd dk_N_declaration 25 rfl) rfl ?_
    refine x_iload_n hc (xd dk_N_declaration 26 rfl) rfl rfl ?_
    refine x_iconst hc (v := 4) (xd dk_N_declaration 27 rfl) (by decide) ?_
    refine x_icmp_ne hc (tgt := 53) (xd dk_N_declaration 28 rfl) rfl (fun q47 => ?_) (fun q47 => ?_)
    · rw [if_neg q47] at hf
      refine x_iload_n hc (xd dk_N_declaration 31 rfl) rfl rfl ?_
      refine x_iconst hc (v := 5) (xd dk_N_declaration 32 rfl) (by decide) ?_
      refine x_icmp_ne hc (tgt := 62) (xd dk_N_declaration 33 rfl) rfl (fun q48 => ?_) (fun q48 => ?_)
      · rw [if_neg q48] at hf
        refine x_iconst hc (v := 2) (xd dk_N_declaration 36 rfl) (by decide) ?_
        exact s_N_declaration_63 hc hR hb x42 x43 x43 2 M hf
      · rw [if_pos q48] at hf
        refine x_iconst hc (v := 1) (xd dk_N_declaration 34 rfl) (by decide) ?_
        refine x_goto hc (tgt := 63) (xd dk_N_declaration 35 rfl) rfl ?_
        exact s_N_declaration_63 hc hR hb x42 x43 x43 1 M hf
    · rw [if_pos q47] at hf
      refine x_iconst hc (v := 0) (xd dk_N_declaration 29 rfl) (by decide) ?_
      refine x_goto hc (tgt := 63) (xd dk_N_declaration 30 rfl) rfl ?_
      exact s_N_declaration_63 hc hR hb x42 x43 x43 0 M hf
  · rw [if_neg q46] at hf
    cases hf
    exact x_return hc (xd dk_N_declaration 23 rfl)
def f_N_statement_499 (b : Nat) (p1 : Int32) (p2 : Int32) (p3 : Int32) (v4 : Int32) (v5 : Int32) (v6 : Int32) (M : xMem) : Option (Unit × xMem) :=
  (if v6 = 0 then (some ((), M)) else (xval (M.1 b 55) fun x56 => if xin x56 64 = true then xlet (wI M (b + 29) x56.toNatClampNeg v5) fun M => xval ((M.1 b 55) + 1) fun x58 => xlet (wI M b 55 x58) fun M => some ((), M) else none))
def f_N_statement_250 (b : Nat) (p1 : Int32) (p2 : Int32) (p3 : Int32) (v4 : Int32) (v5 : Int32) (v6 : Int32) (M : xMem) : Option (Unit × xMem) :=
  (xbind (f_N_push b 9 p1 0 0 M) fun r59 M => xbind (f_N_lists b (p1 + 1) 23 M) fun r61 M => f_N_statement_499 b p1 p2 p3 v4 v5 v6 M)
def f_N_statement_239 (b : Nat) (p1 : Int32) (p2 : Int32) (p3 : Int32) (v4 : Int32) (v5 : Int32) (v6 : Int32) (w1 : Int32) (w2 : Int32) (M : xMem) : Option (Unit × xMem) :=
  (if xin w1 64 = true then xlet (wI M (b + 39) w1.toNatClampNeg (vp_nar .boolean w2)) fun M => xval ((M.1 b 58) + 1) fun x64 => xlet (wI M b 58 x64) fun M => f_N_statement_250 b p1 p2 p3 v4 v5 v6 M else none)
def f_N_statement_238 (b : Nat) (p1 : Int32) (p2 : Int32) (p3 : Int32) (v4 : Int32) (v5 : Int32) (v6 : Int32) (w1 : Int32) (M : xMem) : Option (Unit × xMem) :=
  (f_N_statement_239 b p1 p2 p3 v4 v5 v6 w1 0 M)
def f_N_statement_316 (b : Nat) (p1 : Int32) (p2 : Int32) (p3 : Int32) (v4 : Int32) (v5 : Int32) (v6 : Int32) (M : xMem) : Option (Unit × xMem) :=
  (xbind (f_N_push b 2 (p1 + 1) (-1) 1 M) fun r65 M => xbind (f_N_push b 4 p1 21 0 M) fun r67 M => xbind (f_N_push b 5 p1 0 0 M) fun r69 M => f_N_statement_499 b p1 p2 p3 v4 v5 v6 M)
def f_N_statement_285 (b : Nat) (p1 : Int32) (p2 : Int32) (p3 : Int32) (v4 : Int32) (v5 : Int32) (v6 : Int32) (M : xMem) : Option (Unit × xMem) :=
  (xval ((M.1 b 7) + 1) fun x71 => xlet (wI M b 7 x71) fun M => xbind (f_N_takes b 20 M) fun r72 M => if v4 = 8 then (xbind (f_N_push b 3 p1 0 0 M) fun r75 M => f_N_statement_316 b p1 p2 p3 v4 v5 v6 M) else (f_N_statement_316 b p1 p2 p3 v4 v5 v6 M))
def f_N_statement_412 (b : Nat) (p1 : Int32) (p2 : Int32) (p3 : Int32) (v4 : Int32) (v5 : Int32) (v6 : Int32) (M : xMem) : Option (Unit × xMem) :=
  (xbind (f_N_push b 4 p1 24 0 M) fun r77 M => xbind (f_N_push b 5 p1 0 0 M) fun r79 M => f_N_statement_499 b p1 p2 p3 v4 v5 v6 M)
def f_N_statement_370 (b : Nat) (p1 : Int32) (p2 : Int32) (p3 : Int32) (v4 : Int32) (v5 : Int32) (v6 : Int32) (w1 : Int32) (M : xMem) : Option (Unit × xMem) :=
  (xbind (f_N_wrongs b w1 M) fun r81 M => xval ((M.1 b 7) + 1) fun x83 => xlet (wI M b 7 x83) fun M => if 0 ≤ M.1 b 4 then (f_N_statement_412 b p1 p2 p3 v4 v5 v6 M) else (xbind (f_N_is b 24 M) fun r85 M => if r85 = 0 then (f_N_statement_412 b p1 p2 p3 v4 v5 v6 M) else (xval ((M.1 b 7) + 1) fun x88 => xlet (wI M b 7 x88) fun M => f_N_statement_499 b p1 p2 p3 v4 v5 v6 M)))
def f_N_statement_469 (b : Nat) (p1 : Int32) (p2 : Int32) (p3 : Int32) (v4 : Int32) (v5 : Int32) (v6 : Int32) (M : xMem) : Option (Unit × xMem) :=
  (xval ((M.1 b 7) + 1) fun x89 => xlet (wI M b 7 x89) fun M => f_N_statement_499 b p1 p2 p3 v4 v5 v6 M)
def f_N_statement_121 (b : Nat) (p1 : Int32) (p2 : Int32) (p3 : Int32) (v4 : Int32) (v5 : Int32) (v6 : Int32) (M : xMem) : Option (Unit × xMem) :=
  (xbind (f_N_in v4 4 6 M) fun r90 M => if r90 = 0 then (if v4 = 7 then (xbind (f_N_function b p1 M) fun r126 M => f_N_statement_499 b p1 p2 p3 v4 v5 v6 M) else (if v4 = 22 then (xval ((M.1 b 7) + 1) fun x112 => xlet (wI M b 7 x112) fun M => xbind (f_N_enters b 0 M) fun r113 M => xbind (f_N_is b 23 M) fun r115 M => if r115 = 0 then (f_N_statement_250 b p1 p2 p3 v4 v5 v6 M) else (xval (M.1 b 58) fun x118 => if xin x118 64 = true then xlet (wI M (b + 33) x118.toNatClampNeg v5) fun M => if xin (M.1 b 7) 64 = true then xval (M.1 (b + 10) (M.1 b 7).toNatClampNeg) fun x121 => xval (M.1 b 58) fun x122 => if xin x122 64 = true then xlet (wI M (b + 34) x122.toNatClampNeg x121) fun M => if p2 < 0 then (f_N_statement_238 b p1 p2 p3 v4 v5 v6 (M.1 b 58) M) else (if 2 ≤ p3 then (f_N_statement_238 b p1 p2 p3 v4 v5 v6 (M.1 b 58) M) else (f_N_statement_239 b p1 p2 p3 v4 v5 v6 (M.1 b 58) 1 M)) else none else none else none)) else (if v4 = 8 then (f_N_statement_285 b p1 p2 p3 v4 v5 v6 M) else (if v4 = 10 then (f_N_statement_285 b p1 p2 p3 v4 v5 v6 M) else (if v4 = 11 then (xval (M.1 b 28) fun x108 => xbind (f_N_fnAround b x108 M) fun r109 M => if r109 = 0 then (f_N_statement_370 b p1 p2 p3 v4 v5 v6 1 M) else (f_N_statement_370 b p1 p2 p3 v4 v5 v6 0 M)) else (if v4 = 24 then (if p2 < 0 then (f_N_statement_469 b p1 p2 p3 v4 v5 v6 M) else (if 2 ≤ p3 then (f_N_statement_469 b p1 p2 p3 v4 v5 v6 M) else (xval (M.1 b 59) fun x105 => if xin x105 64 = true then xlet (wI M (b + 35) x105.toNatClampNeg v5) fun M => xval ((M.1 b 59) + 1) fun x107 => xlet (wI M b 59 x107) fun M => f_N_statement_469 b p1 p2 p3 v4 v5 v6 M else none))) else (xbind (f_N_push b 4 p1 24 0 M) fun r99 M => xbind (f_N_push b 5 p1 0 0 M) fun r101 M => f_N_statement_499 b p1 p2 p3 v4 v5 v6 M))))))) else (xbind (f_N_declaration b p1 v4 M) fun r128 M => f_N_statement_499 b p1 p2 p3 v4 v5 v6 M))
def f_N_statement_120 (b : Nat) (p1 : Int32) (p2 : Int32) (p3 : Int32) (v4 : Int32) (v5 : Int32) (v6 : Int32) (w2 : Int32) (M : xMem) : Option (Unit × xMem) :=
  (if xin p2 64 = true then xlet (wI M (b + 16) p2.toNatClampNeg w2) fun M => f_N_statement_121 b p1 p2 p3 v4 v5 v6 M else none)
def f_N_statement_97 (b : Nat) (p1 : Int32) (p2 : Int32) (p3 : Int32) (v4 : Int32) (v5 : Int32) (w0 : Int32) (M : xMem) : Option (Unit × xMem) :=
  (if p2 < 0 then (f_N_statement_121 b p1 p2 p3 v4 v5 w0 M) else (if v4 = 11 then (f_N_statement_120 b p1 p2 p3 v4 v5 w0 1 M) else (f_N_statement_120 b p1 p2 p3 v4 v5 w0 0 M)))
def f_N_statement_96 (b : Nat) (p1 : Int32) (p2 : Int32) (p3 : Int32) (v4 : Int32) (v5 : Int32) (M : xMem) : Option (Unit × xMem) :=
  (f_N_statement_97 b p1 p2 p3 v4 v5 0 M)
def f_N_statement_41 (b : Nat) (p1 : Int32) (p2 : Int32) (p3 : Int32) (v4 : Int32) (w1 : Int32) (M : xMem) : Option (Unit × xMem) :=
  (xbind (f_N_wrongs b w1 M) fun r133 M => if M.1 b 4 < 0 then (if v4 = 26 then (xbind (f_N_excusing b p1 p2 p3 M) fun r141 M => some ((), M)) else (if xin (M.1 b 7) 64 = true then if p2 < 0 then (f_N_statement_96 b p1 p2 p3 v4 (M.1 (b + 9) (M.1 b 7).toNatClampNeg) M) else (if xin p2 64 = true then if M.1 (b + 16) p2.toNatClampNeg = 1 then (f_N_statement_97 b p1 p2 p3 v4 (M.1 (b + 9) (M.1 b 7).toNatClampNeg) 1 M) else (f_N_statement_96 b p1 p2 p3 v4 (M.1 (b + 9) (M.1 b 7).toNatClampNeg) M) else none) else none)) else (some ((), M)))
def f_N_statement_36 (b : Nat) (p1 : Int32) (p2 : Int32) (p3 : Int32) (v4 : Int32) (M : xMem) : Option (Unit × xMem) :=
  (f_N_statement_41 b p1 p2 p3 v4 1 M)
def f_N_statement_40 (b : Nat) (p1 : Int32) (p2 : Int32) (p3 : Int32) (v4 : Int32) (M : xMem) : Option (Unit × xMem) :=
  (f_N_statement_41 b p1 p2 p3 v4 0 M)
def f_N_statement (b : Nat) (p1 : Int32) (p2 : Int32) (p3 : Int32) (M : xMem) : Option (Unit × xMem) :=
  (if xin (M.1 b 7) 64 = true then if 12 < p1 then (f_N_statement_36 b p1 p2 p3 (M.1 (b + 8) (M.1 b 7).toNatClampNeg) M) else (if (p3 &&& 1) = 1 then (xval (M.1 (b + 8) (M.1 b 7).toNatClampNeg) fun x146 => xbind (f_N_in x146 4 7 M) fun r147 M => if r147 = 0 then (f_N_statement_40 b p1 p2 p3 x146 M) else (f_N_statement_36 b p1 p2 p3 x146 M)) else (f_N_statement_40 b p1 p2 p3 (M.1 (b + 8) (M.1 b 7).toNatClampNeg) M)) else none)
set_option maxRecDepth 100000 in
set_option maxHeartbeats 400000 in
theorem s_N_statement_499 {p : Program} {l : Launch} {e : Env} {R : Room} {s : State} {m : MethodId} {args : Array Value} {below : List Frame} {meth : Method} {c : Code} {G : xG} {Y : xY} {sz : Nat} {b : Nat} {p1 : Int32} {p2 : Int32} {p3 : Int32}  (hc : xC p s m args meth c G 7 c_N_statement y_N_statement.cls none) (hR : xRm R 4) (hb : xMd Y b) {M' : xMem} {r : Unit} (v4 : Int32) (v5 : Int32) (v6 : Int32) (M : xMem) (hf : f_N_statement_499 b p1 p2 p3 v4 v5 v6 M = some (r, M')) : xW p l e R s m args below meth c G 7 (MQ below (xQc G none (xo G Y M') sz) args s 0 0 (xA G)) (xo G Y M) sz 0 0 499 [some (.ref b), some (.int p1), some (.int p2), some (.int p3), some (.int v4), some (.int v5), some (.int v6)] [] := by
  unfold f_N_statement_499 at hf
  refine x_iload hc (xd dk_N_statement 278 rfl) rfl ?_
  refine x_if_eq hc (tgt := 525) (xd dk_N_statement 279 rfl) rfl (fun q55 => ?_) (fun q55 => ?_)
  · rw [if_pos q55] at hf
    cases hf
    exact x_return hc (xd dk_N_statement 292 rfl)
  · rw [if_neg q55] at hf
    refine x_aload_n hc (xd dk_N_statement 280 rfl) rfl rfl ?_
    refine x_get hc (ci := 10) (k := 43) fi_N (c_N hb _) rfl (by decide) rfl xw1186 rfl (xd dk_N_statement 281 rfl) ?_
    refine x_aload_n hc (xd dk_N_statement 282 rfl) rfl rfl ?_
    refine x_get hc (ci := 10) (k := 55) fi_N (c_N hb _) rfl (by decide) rfl xw1198 rfl (xd dk_N_statement 283 rfl) ?_
    refine x_iload hc (xd dk_N_statement 284 rfl) rfl ?_
    obtain ⟨x56, hx56, hf⟩ := xval_ex hf
    rw [← hx56]
    by_cases q57 : xin x56 64 = true
    case neg => rw [if_neg q57] at hf; cases hf
    rw [if_pos q57] at hf
    refine x_iast hc (cA (xMd.ar hb 29 (by decide) rfl)) (xin_in q57) (xd dk_N_statement 285 rfl) ?_
    rw [wA (xMd.ar hb 29 (by decide) rfl)]
    replace hf := xlet_some hf
    generalize wI M (b + 29) x56.toNatClampNeg v5 = M at hf ⊢
    refine x_aload_n hc (xd dk_N_statement 286 rfl) rfl rfl ?_
    refine x_dup hc (xd dk_N_statement 287 rfl) rfl ?_
    refine x_get hc (ci := 10) (k := 55) fi_N (c_N hb _) rfl (by decide) rfl xw1198 rfl (xd dk_N_statement 288 rfl) ?_
    refine x_iconst hc (v := 1) (xd dk_N_statement 289 rfl) (by decide) ?_
    refine x_iadd hc (xd dk_N_statement 290 rfl) ?_
    obtain ⟨x58, hx58, hf⟩ := xval_ex hf
    rw [← hx58]
    refine x_put hc (ci := 10) (k := 55) fi_N ft_N ft_N_ok fn_N (c_N hb _) rfl (by decide) rfl xw1198 rfl rfl rfl (Nat.le_of_ble_eq_true rfl) (xd dk_N_statement 291 rfl) ?_
    rw [w_N_55 hb]
    replace hf := xlet_some hf
    generalize wI M b 55 x58 = M at hf ⊢
    cases hf
    exact x_return hc (xd dk_N_statement 292 rfl)
set_option maxRecDepth 100000 in
set_option maxHeartbeats 400000 in
theorem s_N_statement_250 {p : Program} {l : Launch} {e : Env} {R : Room} {s : State} {m : MethodId} {args : Array Value} {below : List Frame} {meth : Method} {c : Code} {G : xG} {Y : xY} {sz : Nat} {b : Nat} {p1 : Int32} {p2 : Int32} {p3 : Int32}  (hc : xC p s m args meth c G 7 c_N_statement y_N_statement.cls none) (hR : xRm R 4) (hb : xMd Y b) {M' : xMem} {r : Unit} (v4 : Int32) (v5 : Int32) (v6 : Int32) (M : xMem) (hf : f_N_statement_250 b p1 p2 p3 v4 v5 v6 M = some (r, M')) : xW p l e R s m args below meth c G 7 (MQ below (xQc G none (xo G Y M') sz) args s 0 0 (xA G)) (xo G Y M) sz 0 0 250 [some (.ref b), some (.int p1), some (.int p2), some (.int p3), some (.int v4), some (.int v5), some (.int v6)] [] := by
  unfold f_N_statement_250 at hf
  refine x_aload_n hc (xd dk_N_statement 135 rfl) rfl rfl ?_
  refine x_bipush hc (v := 9) (xd dk_N_statement 136 rfl) (by decide) ?_
  refine x_iload_n hc (xd dk_N_statement 137 rfl) rfl rfl ?_
  refine x_iconst hc (v := 0) (xd dk_N_statement 138 rfl) (by decide) ?_
  refine x_iconst hc (v := 0) (xd dk_N_statement 139 rfl) (by decide) ?_
  obtain ⟨r59, M, e60, hf⟩ := xbind_some hf
  refine x_callV hc (As := [.int 9, .int p1, .int 0, .int 0]) (n := 4) (s_N_push hb e60) (c_N hb _) rfl (hR.call (by decide) (by decide)) ⟨by decide, by decide, by decide⟩ rfl rfl xw1078 xw18 xw1075 xw1077 xs_N_push (Nat.le_of_ble_eq_true rfl) ⟨Nat.zero_le _, Nat.zero_le _⟩ (xd dk_N_statement 140 rfl) ?_
  refine x_aload_n hc (xd dk_N_statement 141 rfl) rfl rfl ?_
  refine x_iload_n hc (xd dk_N_statement 142 rfl) rfl rfl ?_
  refine x_iconst hc (v := 1) (xd dk_N_statement 143 rfl) (by decide) ?_
  refine x_iadd hc (xd dk_N_statement 144 rfl) ?_
  refine x_bipush hc (v := 23) (xd dk_N_statement 145 rfl) (by decide) ?_
  obtain ⟨r61, M, e62, hf⟩ := xbind_some hf
  refine x_callV hc (As := [.int ((p1 + 1)), .int 23]) (n := 2) (s_N_lists hb e62) (c_N hb _) rfl (hR.call (by decide) (by decide)) ⟨by decide, by decide, by decide⟩ rfl rfl xw1074 xw18 xw1071 xw1073 xs_N_lists (Nat.le_of_ble_eq_true rfl) ⟨Nat.zero_le _, Nat.zero_le _⟩ (xd dk_N_statement 146 rfl) ?_
  refine x_goto hc (tgt := 499) (xd dk_N_statement 147 rfl) rfl ?_
  exact s_N_statement_499 hc hR hb v4 v5 v6 M hf
set_option maxRecDepth 100000 in
set_option maxHeartbeats 400000 in
theorem s_N_statement_239 {p : Program} {l : Launch} {e : Env} {R : Room} {s : State} {m : MethodId} {args : Array Value} {below : List Frame} {meth : Method} {c : Code} {G : xG} {Y : xY} {sz : Nat} {b : Nat} {p1 : Int32} {p2 : Int32} {p3 : Int32}  (hc : xC p s m args meth c G 7 c_N_statement y_N_statement.cls none) (hR : xRm R 4) (hb : xMd Y b) {M' : xMem} {r : Unit} (v4 : Int32) (v5 : Int32) (v6 : Int32) (w1 : Int32) (w2 : Int32) (M : xMem) (hf : f_N_statement_239 b p1 p2 p3 v4 v5 v6 w1 w2 M = some (r, M')) : xW p l e R s m args below meth c G 7 (MQ below (xQc G none (xo G Y M') sz) args s 0 0 (xA G)) (xo G Y M) sz 0 0 239 [some (.ref b), some (.int p1), some (.int p2), some (.int p3), some (.int v4), some (.int v5), some (.int v6)] [.int w2, .int w1, .ref (b + 39)] := by
  unfold f_N_statement_239 at hf
  by_cases q63 : xin w1 64 = true
  case neg => rw [if_neg q63] at hf; cases hf
  rw [if_pos q63] at hf
  refine x_zast hc (cA (xMd.ar hb 39 (by decide) rfl)) (xin_in q63) (xd dk_N_statement 128 rfl) ?_
  rw [wA (xMd.ar hb 39 (by decide) rfl)]
  replace hf := xlet_some hf
  generalize wI M (b + 39) w1.toNatClampNeg (vp_nar .boolean w2) = M at hf ⊢
  refine x_aload_n hc (xd dk_N_statement 129 rfl) rfl rfl ?_
  refine x_dup hc (xd dk_N_statement 130 rfl) rfl ?_
  refine x_get hc (ci := 10) (k := 58) fi_N (c_N hb _) rfl (by decide) rfl xw1201 rfl (xd dk_N_statement 131 rfl) ?_
  refine x_iconst hc (v := 1) (xd dk_N_statement 132 rfl) (by decide) ?_
  refine x_iadd hc (xd dk_N_statement 133 rfl) ?_
  obtain ⟨x64, hx64, hf⟩ := xval_ex hf
  rw [← hx64]
  refine x_put hc (ci := 10) (k := 58) fi_N ft_N ft_N_ok fn_N (c_N hb _) rfl (by decide) rfl xw1201 rfl rfl rfl (Nat.le_of_ble_eq_true rfl) (xd dk_N_statement 134 rfl) ?_
  rw [w_N_58 hb]
  replace hf := xlet_some hf
  generalize wI M b 58 x64 = M at hf ⊢
  exact s_N_statement_250 hc hR hb v4 v5 v6 M hf
set_option maxRecDepth 100000 in
set_option maxHeartbeats 400000 in
theorem s_N_statement_238 {p : Program} {l : Launch} {e : Env} {R : Room} {s : State} {m : MethodId} {args : Array Value} {below : List Frame} {meth : Method} {c : Code} {G : xG} {Y : xY} {sz : Nat} {b : Nat} {p1 : Int32} {p2 : Int32} {p3 : Int32}  (hc : xC p s m args meth c G 7 c_N_statement y_N_statement.cls none) (hR : xRm R 4) (hb : xMd Y b) {M' : xMem} {r : Unit} (v4 : Int32) (v5 : Int32) (v6 : Int32) (w1 : Int32) (M : xMem) (hf : f_N_statement_238 b p1 p2 p3 v4 v5 v6 w1 M = some (r, M')) : xW p l e R s m args below meth c G 7 (MQ below (xQc G none (xo G Y M') sz) args s 0 0 (xA G)) (xo G Y M) sz 0 0 238 [some (.ref b), some (.int p1), some (.int p2), some (.int p3), some (.int v4), some (.int v5), some (.int v6)] [.int w1, .ref (b + 39)] := by
  unfold f_N_statement_238 at hf
  refine x_iconst hc (v := 0) (xd dk_N_statement 127 rfl) (by decide) ?_
  exact s_N_statement_239 hc hR hb v4 v5 v6 w1 0 M hf
set_option maxRecDepth 100000 in
set_option maxHeartbeats 400000 in
theorem s_N_statement_316 {p : Program} {l : Launch} {e : Env} {R : Room} {s : State} {m : MethodId} {args : Array Value} {below : List Frame} {meth : Method} {c : Code} {G : xG} {Y : xY} {sz : Nat} {b : Nat} {p1 : Int32} {p2 : Int32} {p3 : Int32}  (hc : xC p s m args meth c G 7 c_N_statement y_N_statement.cls none) (hR : xRm R 4) (hb : xMd Y b) {M' : xMem} {r : Unit} (v4 : Int32) (v5 : Int32) (v6 : Int32) (M : xMem) (hf : f_N_statement_316 b p1 p2 p3 v4 v5 v6 M = some (r, M')) : xW p l e R s m args below meth c G 7 (MQ below (xQc G none (xo G Y M') sz) args s 0 0 (xA G)) (xo G Y M) sz 0 0 316 [some (.ref b), some (.int p1), some (.int p2), some (.int p3), some (.int v4), some (.int v5), some (.int v6)] [] := by
  unfold f_N_statement_316 at hf
  refine x_aload_n hc (xd dk_N_statement 172 rfl) rfl rfl ?_
  refine x_iconst hc (v := 2) (xd dk_N_statement 173 rfl) (by decide) ?_
  refine x_iload_n hc (xd dk_N_statement 174 rfl) rfl rfl ?_
  refine x_iconst hc (v := 1) (xd dk_N_statement 175 rfl) (by decide) ?_
  refine x_iadd hc (xd dk_N_statement 176 rfl) ?_
  refine x_iconst hc (v := (-1)) (xd dk_N_statement 177 rfl) (by decide) ?_
  refine x_iconst hc (v := 1) (xd dk_N_statement 178 rfl) (by decide) ?_
  obtain ⟨r65, M, e66, hf⟩ := xbind_some hf
  refine x_callV hc (As := [.int 2, .int ((p1 + 1)), .int ((-1)), .int 1]) (n := 4) (s_N_push hb e66) (c_N hb _) rfl (hR.call (by decide) (by decide)) ⟨by decide, by decide, by decide⟩ rfl rfl xw1078 xw18 xw1075 xw1077 xs_N_push (Nat.le_of_ble_eq_true rfl) ⟨Nat.zero_le _, Nat.zero_le _⟩ (xd dk_N_statement 179 rfl) ?_
  refine x_aload_n hc (xd dk_N_statement 180 rfl) rfl rfl ?_
  refine x_iconst hc (v := 4) (xd dk_N_statement 181 rfl) (by decide) ?_
  refine x_iload_n hc (xd dk_N_statement 182 rfl) rfl rfl ?_
  refine x_bipush hc (v := 21) (xd dk_N_statement 183 rfl) (by decide) ?_
  refine x_iconst hc (v := 0) (xd dk_N_statement 184 rfl) (by decide) ?_
  obtain ⟨r67, M, e68, hf⟩ := xbind_some hf
  refine x_callV hc (As := [.int 4, .int p1, .int 21, .int 0]) (n := 4) (s_N_push hb e68) (c_N hb _) rfl (hR.call (by decide) (by decide)) ⟨by decide, by decide, by decide⟩ rfl rfl xw1078 xw18 xw1075 xw1077 xs_N_push (Nat.le_of_ble_eq_true rfl) ⟨Nat.zero_le _, Nat.zero_le _⟩ (xd dk_N_statement 185 rfl) ?_
  refine x_aload_n hc (xd dk_N_statement 186 rfl) rfl rfl ?_
  refine x_iconst hc (v := 5) (xd dk_N_statement 187 rfl) (by decide) ?_
  refine x_iload_n hc (xd dk_N_statement 188 rfl) rfl rfl ?_
  refine x_iconst hc (v := 0) (xd dk_N_statement 189 rfl) (by decide) ?_
  refine x_iconst hc (v := 0) (xd dk_N_statement 190 rfl) (by decide) ?_
  obtain ⟨r69, M, e70, hf⟩ := xbind_some hf
  refine x_callV hc (As := [.int 5, .int p1, .int 0, .int 0]) (n := 4) (s_N_push hb e70) (c_N hb _) rfl (hR.call (by decide) (by decide)) ⟨by decide, by decide, by decide⟩ rfl rfl xw1078 xw18 xw1075 xw1077 xs_N_push (Nat.le_of_ble_eq_true rfl) ⟨Nat.zero_le _, Nat.zero_le _⟩ (xd dk_N_statement 191 rfl) ?_
  refine x_goto hc (tgt := 499) (xd dk_N_statement 192 rfl) rfl ?_
  exact s_N_statement_499 hc hR hb v4 v5 v6 M hf
set_option maxRecDepth 100000 in
set_option maxHeartbeats 400000 in
theorem s_N_statement_285 {p : Program} {l : Launch} {e : Env} {R : Room} {s : State} {m : MethodId} {args : Array Value} {below : List Frame} {meth : Method} {c : Code} {G : xG} {Y : xY} {sz : Nat} {b : Nat} {p1 : Int32} {p2 : Int32} {p3 : Int32}  (hc : xC p s m args meth c G 7 c_N_statement y_N_statement.cls none) (hR : xRm R 4) (hb : xMd Y b) {M' : xMem} {r : Unit} (v4 : Int32) (v5 : Int32) (v6 : Int32) (M : xMem) (hf : f_N_statement_285 b p1 p2 p3 v4 v5 v6 M = some (r, M')) : xW p l e R s m args below meth c G 7 (MQ below (xQc G none (xo G Y M') sz) args s 0 0 (xA G)) (xo G Y M) sz 0 0 285 [some (.ref b), some (.int p1), some (.int p2), some (.int p3), some (.int v4), some (.int v5), some (.int v6)] [] := by
  unfold f_N_statement_285 at hf
  refine x_aload_n hc (xd dk_N_statement 154 rfl) rfl rfl ?_
  refine x_dup hc (xd dk_N_statement 155 rfl) rfl ?_
  refine x_get hc (ci := 10) (k := 7) fi_N (c_N hb _) rfl (by decide) rfl xw1150 rfl (xd dk_N_statement 156 rfl) ?_
  refine x_iconst hc (v := 1) (xd dk_N_statement 157 rfl) (by decide) ?_
  refine x_iadd hc (xd dk_N_statement 158 rfl) ?_
  obtain ⟨x71, hx71, hf⟩ := xval_ex hf
  rw [← hx71]
  refine x_put hc (ci := 10) (k := 7) fi_N ft_N ft_N_ok fn_N (c_N hb _) rfl (by decide) rfl xw1150 rfl rfl rfl (Nat.le_of_ble_eq_true rfl) (xd dk_N_statement 159 rfl) ?_
  rw [w_N_7 hb]
  replace hf := xlet_some hf
  generalize wI M b 7 x71 = M at hf ⊢
  refine x_aload_n hc (xd dk_N_statement 160 rfl) rfl rfl ?_
  refine x_bipush hc (v := 20) (xd dk_N_statement 161 rfl) (by decide) ?_
  obtain ⟨r72, M, e73, hf⟩ := xbind_some hf
  refine x_callV hc (As := [.int 20]) (n := 1) (s_N_takes hb e73) (c_N hb _) rfl (hR.call (by decide) (by decide)) ⟨by decide, by decide, by decide⟩ rfl rfl xw1102 xw18 xw1099 xw1101 xs_N_takes (Nat.le_of_ble_eq_true rfl) ⟨Nat.zero_le _, Nat.zero_le _⟩ (xd dk_N_statement 162 rfl) ?_
  refine x_iload hc (xd dk_N_statement 163 rfl) rfl ?_
  refine x_bipush hc (v := 8) (xd dk_N_statement 164 rfl) (by decide) ?_
  refine x_icmp_ne hc (tgt := 316) (xd dk_N_statement 165 rfl) rfl (fun q74 => ?_) (fun q74 => ?_)
  · rw [if_neg q74] at hf
    exact s_N_statement_316 hc hR hb v4 v5 v6 M hf
  · rw [if_pos q74] at hf
    refine x_aload_n hc (xd dk_N_statement 166 rfl) rfl rfl ?_
    refine x_iconst hc (v := 3) (xd dk_N_statement 167 rfl) (by decide) ?_
    refine x_iload_n hc (xd dk_N_statement 168 rfl) rfl rfl ?_
    refine x_iconst hc (v := 0) (xd dk_N_statement 169 rfl) (by decide) ?_
    refine x_iconst hc (v := 0) (xd dk_N_statement 170 rfl) (by decide) ?_
    obtain ⟨r75, M, e76, hf⟩ := xbind_some hf
    refine x_callV hc (As := [.int 3, .int p1, .int 0, .int 0]) (n := 4) (s_N_push hb e76) (c_N hb _) rfl (hR.call (by decide) (by decide)) ⟨by decide, by decide, by decide⟩ rfl rfl xw1078 xw18 xw1075 xw1077 xs_N_push (Nat.le_of_ble_eq_true rfl) ⟨Nat.zero_le _, Nat.zero_le _⟩ (xd dk_N_statement 171 rfl) ?_
    exact s_N_statement_316 hc hR hb v4 v5 v6 M hf
set_option maxRecDepth 100000 in
set_option maxHeartbeats 400000 in
theorem s_N_statement_412 {p : Program} {l : Launch} {e : Env} {R : Room} {s : State} {m : MethodId} {args : Array Value} {below : List Frame} {meth : Method} {c : Code} {G : xG} {Y : xY} {sz : Nat} {b : Nat} {p1 : Int32} {p2 : Int32} {p3 : Int32}  (hc : xC p s m args meth c G 7 c_N_statement y_N_statement.cls none) (hR : xRm R 4) (hb : xMd Y b) {M' : xMem} {r : Unit} (v4 : Int32) (v5 : Int32) (v6 : Int32) (M : xMem) (hf : f_N_statement_412 b p1 p2 p3 v4 v5 v6 M = some (r, M')) : xW p l e R s m args below meth c G 7 (MQ below (xQc G none (xo G Y M') sz) args s 0 0 (xA G)) (xo G Y M) sz 0 0 412 [some (.ref b), some (.int p1), some (.int p2), some (.int p3), some (.int v4), some (.int v5), some (.int v6)] [] := by
  unfold f_N_statement_412 at hf
  refine x_aload_n hc (xd dk_N_statement 226 rfl) rfl rfl ?_
  refine x_iconst hc (v := 4) (xd dk_N_statement 227 rfl) (by decide) ?_
  refine x_iload_n hc (xd dk_N_statement 228 rfl) rfl rfl ?_
  refine x_bipush hc (v := 24) (xd dk_N_statement 229 rfl) (by decide) ?_
  refine x_iconst hc (v := 0) (xd dk_N_statement 230 rfl) (by decide) ?_
  obtain ⟨r77, M, e78, hf⟩ := xbind_some hf
  refine x_callV hc (As := [.int 4, .int p1, .int 24, .int 0]) (n := 4) (s_N_push hb e78) (c_N hb _) rfl (hR.call (by decide) (by decide)) ⟨by decide, by decide, by decide⟩ rfl rfl xw1078 xw18 xw1075 xw1077 xs_N_push (Nat.le_of_ble_eq_true rfl) ⟨Nat.zero_le _, Nat.zero_le _⟩ (xd dk_N_statement 231 rfl) ?_
  refine x_aload_n hc (xd dk_N_statement 232 rfl) rfl rfl ?_
  refine x_iconst hc (v := 5) (xd dk_N_statement 233 rfl) (by decide) ?_
  refine x_iload_n hc (xd dk_N_statement 234 rfl) rfl rfl ?_
  refine x_iconst hc (v := 0) (xd dk_N_statement 235 rfl) (by decide) ?_
  refine x_iconst hc (v := 0) (xd dk_N_statement 236 rfl) (by decide) ?_
  obtain ⟨r79, M, e80, hf⟩ := xbind_some hf
  refine x_callV hc (As := [.int 5, .int p1, .int 0, .int 0]) (n := 4) (s_N_push hb e80) (c_N hb _) rfl (hR.call (by decide) (by decide)) ⟨by decide, by decide, by decide⟩ rfl rfl xw1078 xw18 xw1075 xw1077 xs_N_push (Nat.le_of_ble_eq_true rfl) ⟨Nat.zero_le _, Nat.zero_le _⟩ (xd dk_N_statement 237 rfl) ?_
  refine x_goto hc (tgt := 499) (xd dk_N_statement 238 rfl) rfl ?_
  exact s_N_statement_499 hc hR hb v4 v5 v6 M hf
set_option maxRecDepth 100000 in
set_option maxHeartbeats 400000 in
theorem s_N_statement_370 {p : Program} {l : Launch} {e : Env} {R : Room} {s : State} {m : MethodId} {args : Array Value} {below : List Frame} {meth : Method} {c : Code} {G : xG} {Y : xY} {sz : Nat} {b : Nat} {p1 : Int32} {p2 : Int32} {p3 : Int32}  (hc : xC p s m args meth c G 7 c_N_statement y_N_statement.cls none) (hR : xRm R 4) (hb : xMd Y b) {M' : xMem} {r : Unit} (v4 : Int32) (v5 : Int32) (v6 : Int32) (w1 : Int32) (M : xMem) (hf : f_N_statement_370 b p1 p2 p3 v4 v5 v6 w1 M = some (r, M')) : xW p l e R s m args below meth c G 7 (MQ below (xQc G none (xo G Y M') sz) args s 0 0 (xA G)) (xo G Y M) sz 0 0 370 [some (.ref b), some (.int p1), some (.int p2), some (.int p3), some (.int v4), some (.int v5), some (.int v6)] [.int w1, .ref b] := by
  unfold f_N_statement_370 at hf
  obtain ⟨r81, M, e82, hf⟩ := xbind_some hf
  refine x_callV hc (As := [.int w1]) (n := 1) (s_N_wrongs hb e82) (c_N hb _) rfl (hR.call (by decide) (by decide)) ⟨by decide, by decide, by decide⟩ rfl rfl xw1090 xw18 xw1087 xw1089 xs_N_wrongs (Nat.le_of_ble_eq_true rfl) ⟨Nat.zero_le _, Nat.zero_le _⟩ (xd dk_N_statement 205 rfl) ?_
  refine x_aload_n hc (xd dk_N_statement 206 rfl) rfl rfl ?_
  refine x_dup hc (xd dk_N_statement 207 rfl) rfl ?_
  refine x_get hc (ci := 10) (k := 7) fi_N (c_N hb _) rfl (by decide) rfl xw1150 rfl (xd dk_N_statement 208 rfl) ?_
  refine x_iconst hc (v := 1) (xd dk_N_statement 209 rfl) (by decide) ?_
  refine x_iadd hc (xd dk_N_statement 210 rfl) ?_
  obtain ⟨x83, hx83, hf⟩ := xval_ex hf
  rw [← hx83]
  refine x_put hc (ci := 10) (k := 7) fi_N ft_N ft_N_ok fn_N (c_N hb _) rfl (by decide) rfl xw1150 rfl rfl rfl (Nat.le_of_ble_eq_true rfl) (xd dk_N_statement 211 rfl) ?_
  rw [w_N_7 hb]
  replace hf := xlet_some hf
  generalize wI M b 7 x83 = M at hf ⊢
  refine x_aload_n hc (xd dk_N_statement 212 rfl) rfl rfl ?_
  refine x_get hc (ci := 10) (k := 4) fi_N (c_N hb _) rfl (by decide) rfl xw1147 rfl (xd dk_N_statement 213 rfl) ?_
  refine x_if_ge hc (tgt := 412) (xd dk_N_statement 214 rfl) rfl (fun q84 => ?_) (fun q84 => ?_)
  · rw [if_pos q84] at hf
    exact s_N_statement_412 hc hR hb v4 v5 v6 M hf
  · rw [if_neg q84] at hf
    refine x_aload_n hc (xd dk_N_statement 215 rfl) rfl rfl ?_
    refine x_bipush hc (v := 24) (xd dk_N_statement 216 rfl) (by decide) ?_
    obtain ⟨r85, M, e86, hf⟩ := xbind_some hf
    refine x_callV hc (As := [.int 24]) (n := 1) (s_N_is hb e86) (c_N hb _) rfl (hR.call (by decide) (by decide)) ⟨by decide, by decide, by decide⟩ rfl rfl xw1082 xw18 xw1079 xw1081 xs_N_is (Nat.le_of_ble_eq_true rfl) ⟨Nat.zero_le _, Nat.zero_le _⟩ (xd dk_N_statement 217 rfl) ?_
    refine x_if_eq hc (tgt := 412) (xd dk_N_statement 218 rfl) rfl (fun q87 => ?_) (fun q87 => ?_)
    · rw [if_pos q87] at hf
      exact s_N_statement_412 hc hR hb v4 v5 v6 M hf
    · rw [if_neg q87] at hf
      refine x_aload_n hc (xd dk_N_statement 219 rfl) rfl rfl ?_
      refine x_dup hc (xd dk_N_statement 220 rfl) rfl ?_
      refine x_get hc (ci := 10) (k := 7) fi_N (c_N hb _) rfl (by decide) rfl xw1150 rfl (xd dk_N_statement 221 rfl) ?_
      refine x_iconst hc (v := 1) (xd dk_N_statement 222 rfl) (by decide) ?_
      refine x_iadd hc (xd dk_N_statement 223 rfl) ?_
      obtain ⟨x88, hx88, hf⟩ := xval_ex hf
      rw [← hx88]
      refine x_put hc (ci := 10) (k := 7) fi_N ft_N ft_N_ok fn_N (c_N hb _) rfl (by decide) rfl xw1150 rfl rfl rfl (Nat.le_of_ble_eq_true rfl) (xd dk_N_statement 224 rfl) ?_
      rw [w_N_7 hb]
      replace hf := xlet_some hf
      generalize wI M b 7 x88 = M at hf ⊢
      refine x_goto hc (tgt := 499) (xd dk_N_statement 225 rfl) rfl ?_
      exact s_N_statement_499 hc hR hb v4 v5 v6 M hf
set_option maxRecDepth 100000 in
set_option maxHeartbeats 400000 in
theorem s_N_statement_469 {p : Program} {l : Launch} {e : Env} {R : Room} {s : State} {m : MethodId} {args : Array Value} {below : List Frame} {meth : Method} {c : Code} {G : xG} {Y : xY} {sz : Nat} {b : Nat} {p1 : Int32} {p2 : Int32} {p3 : Int32}  (hc : xC p s m args meth c G 7 c_N_statement y_N_statement.cls none) (hR : xRm R 4) (hb : xMd Y b) {M' : xMem} {r : Unit} (v4 : Int32) (v5 : Int32) (v6 : Int32) (M : xMem) (hf : f_N_statement_469 b p1 p2 p3 v4 v5 v6 M = some (r, M')) : xW p l e R s m args below meth c G 7 (MQ below (xQc G none (xo G Y M') sz) args s 0 0 (xA G)) (xo G Y M) sz 0 0 469 [some (.ref b), some (.int p1), some (.int p2), some (.int p3), some (.int v4), some (.int v5), some (.int v6)] [] := by
  unfold f_N_statement_469 at hf
  refine x_aload_n hc (xd dk_N_statement 259 rfl) rfl rfl ?_
  refine x_dup hc (xd dk_N_statement 260 rfl) rfl ?_
  refine x_get hc (ci := 10) (k := 7) fi_N (c_N hb _) rfl (by decide) rfl xw1150 rfl (xd dk_N_statement 261 rfl) ?_
  refine x_iconst hc (v := 1) (xd dk_N_statement 262 rfl) (by decide) ?_
  refine x_iadd hc (xd dk_N_statement 263 rfl) ?_
  obtain ⟨x89, hx89, hf⟩ := xval_ex hf
  rw [← hx89]
  refine x_put hc (ci := 10) (k := 7) fi_N ft_N ft_N_ok fn_N (c_N hb _) rfl (by decide) rfl xw1150 rfl rfl rfl (Nat.le_of_ble_eq_true rfl) (xd dk_N_statement 264 rfl) ?_
  rw [w_N_7 hb]
  replace hf := xlet_some hf
  generalize wI M b 7 x89 = M at hf ⊢
  refine x_goto hc (tgt := 499) (xd dk_N_statement 265 rfl) rfl ?_
  exact s_N_statement_499 hc hR hb v4 v5 v6 M hf
set_option maxRecDepth 100000 in
set_option maxHeartbeats 400000 in
theorem s_N_statement_121 {p : Program} {l : Launch} {e : Env} {R : Room} {s : State} {m : MethodId} {args : Array Value} {below : List Frame} {meth : Method} {c : Code} {G : xG} {Y : xY} {sz : Nat} {b : Nat} {p1 : Int32} {p2 : Int32} {p3 : Int32}  (hc : xC p s m args meth c G 7 c_N_statement y_N_statement.cls none) (hR : xRm R 4) (hb : xMd Y b) {M' : xMem} {r : Unit} (v4 : Int32) (v5 : Int32) (v6 : Int32) (M : xMem) (hf : f_N_statement_121 b p1 p2 p3 v4 v5 v6 M = some (r, M')) : xW p l e R s m args below meth c G 7 (MQ below (xQc G none (xo G Y M') sz) args s 0 0 (xA G)) (xo G Y M) sz 0 0 121 [some (.ref b), some (.int p1), some (.int p2), some (.int p3), some (.int v4), some (.int v5), some (.int v6)] [] := by
  unfold f_N_statement_121 at hf
  refine x_iload hc (xd dk_N_statement 67 rfl) rfl ?_
  refine x_iconst hc (v := 4) (xd dk_N_statement 68 rfl) (by decide) ?_
  refine x_bipush hc (v := 6) (xd dk_N_statement 69 rfl) (by decide) ?_
  obtain ⟨r90, M, e91, hf⟩ := xbind_some hf
  refine x_callS hc (As := [.int v4, .int 4, .int 6]) (n := 3) (s_N_in e91) (hR.call (by decide) (by decide)) ⟨by decide, by decide, by decide⟩ rfl rfl xw1043 xw18 xw1041 xw1042 (Nat.le_of_ble_eq_true rfl) ⟨Nat.zero_le _, Nat.zero_le _⟩ (xd dk_N_statement 70 rfl) ?_
  refine x_if_eq hc (tgt := 142) (xd dk_N_statement 71 rfl) rfl (fun q92 => ?_) (fun q92 => ?_)
  · rw [if_pos q92] at hf
    refine x_iload hc (xd dk_N_statement 77 rfl) rfl ?_
    refine x_bipush hc (v := 7) (xd dk_N_statement 78 rfl) (by decide) ?_
    refine x_icmp_ne hc (tgt := 157) (xd dk_N_statement 79 rfl) rfl (fun q93 => ?_) (fun q93 => ?_)
    · rw [if_neg q93] at hf
      refine x_iload hc (xd dk_N_statement 84 rfl) rfl ?_
      refine x_bipush hc (v := 22) (xd dk_N_statement 85 rfl) (by decide) ?_
      refine x_icmp_ne hc (tgt := 271) (xd dk_N_statement 86 rfl) rfl (fun q94 => ?_) (fun q94 => ?_)
      · rw [if_neg q94] at hf
        refine x_iload hc (xd dk_N_statement 148 rfl) rfl ?_
        refine x_bipush hc (v := 8) (xd dk_N_statement 149 rfl) (by decide) ?_
        refine x_icmp_eq hc (tgt := 285) (xd dk_N_statement 150 rfl) rfl (fun q95 => ?_) (fun q95 => ?_)
        · rw [if_pos q95] at hf
          exact s_N_statement_285 hc hR hb v4 v5 v6 M hf
        · rw [if_neg q95] at hf
          refine x_iload hc (xd dk_N_statement 151 rfl) rfl ?_
          refine x_bipush hc (v := 10) (xd dk_N_statement 152 rfl) (by decide) ?_
          refine x_icmp_ne hc (tgt := 346) (xd dk_N_statement 153 rfl) rfl (fun q96 => ?_) (fun q96 => ?_)
          · rw [if_neg q96] at hf
            refine x_iload hc (xd dk_N_statement 193 rfl) rfl ?_
            refine x_bipush hc (v := 11) (xd dk_N_statement 194 rfl) (by decide) ?_
            refine x_icmp_ne hc (tgt := 432) (xd dk_N_statement 195 rfl) rfl (fun q97 => ?_) (fun q97 => ?_)
            · rw [if_neg q97] at hf
              refine x_iload hc (xd dk_N_statement 239 rfl) rfl ?_
              refine x_bipush hc (v := 24) (xd dk_N_statement 240 rfl) (by decide) ?_
              refine x_icmp_ne hc (tgt := 482) (xd dk_N_statement 241 rfl) rfl (fun q98 => ?_) (fun q98 => ?_)
              · rw [if_neg q98] at hf
                refine x_aload_n hc (xd dk_N_statement 266 rfl) rfl rfl ?_
                refine x_iconst hc (v := 4) (xd dk_N_statement 267 rfl) (by decide) ?_
                refine x_iload_n hc (xd dk_N_statement 268 rfl) rfl rfl ?_
                refine x_bipush hc (v := 24) (xd dk_N_statement 269 rfl) (by decide) ?_
                refine x_iconst hc (v := 0) (xd dk_N_statement 270 rfl) (by decide) ?_
                obtain ⟨r99, M, e100, hf⟩ := xbind_some hf
                refine x_callV hc (As := [.int 4, .int p1, .int 24, .int 0]) (n := 4) (s_N_push hb e100) (c_N hb _) rfl (hR.call (by decide) (by decide)) ⟨by decide, by decide, by decide⟩ rfl rfl xw1078 xw18 xw1075 xw1077 xs_N_push (Nat.le_of_ble_eq_true rfl) ⟨Nat.zero_le _, Nat.zero_le _⟩ (xd dk_N_statement 271 rfl) ?_
                refine x_aload_n hc (xd dk_N_statement 272 rfl) rfl rfl ?_
                refine x_iconst hc (v := 5) (xd dk_N_statement 273 rfl) (by decide) ?_
                refine x_iload_n hc (xd dk_N_statement 274 rfl) rfl rfl ?_
                refine x_iconst hc (v := 0) (xd dk_N_statement 275 rfl) (by decide) ?_
                refine x_iconst hc (v := 0) (xd dk_N_statement 276 rfl) (by decide) ?_
                obtain ⟨r101, M, e102, hf⟩ := xbind_some hf
                refine x_callV hc (As := [.int 5, .int p1, .int 0, .int 0]) (n := 4) (s_N_push hb e102) (c_N hb _) rfl (hR.call (by decide) (by decide)) ⟨by decide, by decide, by decide⟩ rfl rfl xw1078 xw18 xw1075 xw1077 xs_N_push (Nat.le_of_ble_eq_true rfl) ⟨Nat.zero_le _, Nat.zero_le _⟩ (xd dk_N_statement 277 rfl) ?_
                exact s_N_statement_499 hc hR hb v4 v5 v6 M hf
              · rw [if_pos q98] at hf
                refine x_iload_n hc (xd dk_N_statement 242 rfl) rfl rfl ?_
                refine x_if_lt hc (tgt := 469) (xd dk_N_statement 243 rfl) rfl (fun q103 => ?_) (fun q103 => ?_)
                · rw [if_pos q103] at hf
                  exact s_N_statement_469 hc hR hb v4 v5 v6 M hf
                · rw [if_neg q103] at hf
                  refine x_iload_n hc (xd dk_N_statement 244 rfl) rfl rfl ?_
                  refine x_iconst hc (v := 2) (xd dk_N_statement 245 rfl) (by decide) ?_
                  refine x_icmp_ge hc (tgt := 469) (xd dk_N_statement 246 rfl) rfl (fun q104 => ?_) (fun q104 => ?_)
                  · rw [if_pos q104] at hf
                    exact s_N_statement_469 hc hR hb v4 v5 v6 M hf
                  · rw [if_neg q104] at hf
                    refine x_aload_n hc (xd dk_N_statement 247 rfl) rfl rfl ?_
                    refine x_get hc (ci := 10) (k := 49) fi_N (c_N hb _) rfl (by decide) rfl xw1192 rfl (xd dk_N_statement 248 rfl) ?_
                    refine x_aload_n hc (xd dk_N_statement 249 rfl) rfl rfl ?_
                    refine x_get hc (ci := 10) (k := 59) fi_N (c_N hb _) rfl (by decide) rfl xw1202 rfl (xd dk_N_statement 250 rfl) ?_
                    refine x_iload hc (xd dk_N_statement 251 rfl) rfl ?_
                    obtain ⟨x105, hx105, hf⟩ := xval_ex hf
                    rw [← hx105]
                    by_cases q106 : xin x105 64 = true
                    case neg => rw [if_neg q106] at hf; cases hf
                    rw [if_pos q106] at hf
                    refine x_iast hc (cA (xMd.ar hb 35 (by decide) rfl)) (xin_in q106) (xd dk_N_statement 252 rfl) ?_
                    rw [wA (xMd.ar hb 35 (by decide) rfl)]
                    replace hf := xlet_some hf
                    generalize wI M (b + 35) x105.toNatClampNeg v5 = M at hf ⊢
                    refine x_aload_n hc (xd dk_N_statement 253 rfl) rfl rfl ?_
                    refine x_dup hc (xd dk_N_statement 254 rfl) rfl ?_
                    refine x_get hc (ci := 10) (k := 59) fi_N (c_N hb _) rfl (by decide) rfl xw1202 rfl (xd dk_N_statement 255 rfl) ?_
                    refine x_iconst hc (v := 1) (xd dk_N_statement 256 rfl) (by decide) ?_
                    refine x_iadd hc (xd dk_N_statement 257 rfl) ?_
                    obtain ⟨x107, hx107, hf⟩ := xval_ex hf
                    rw [← hx107]
                    refine x_put hc (ci := 10) (k := 59) fi_N ft_N ft_N_ok fn_N (c_N hb _) rfl (by decide) rfl xw1202 rfl rfl rfl (Nat.le_of_ble_eq_true rfl) (xd dk_N_statement 258 rfl) ?_
                    rw [w_N_59 hb]
                    replace hf := xlet_some hf
                    generalize wI M b 59 x107 = M at hf ⊢
                    exact s_N_statement_469 hc hR hb v4 v5 v6 M hf
            · rw [if_pos q97] at hf
              refine x_aload_n hc (xd dk_N_statement 196 rfl) rfl rfl ?_
              refine x_aload_n hc (xd dk_N_statement 197 rfl) rfl rfl ?_
              refine x_aload_n hc (xd dk_N_statement 198 rfl) rfl rfl ?_
              refine x_get hc (ci := 10) (k := 28) fi_N (c_N hb _) rfl (by decide) rfl xw1171 rfl (xd dk_N_statement 199 rfl) ?_
              obtain ⟨x108, hx108, hf⟩ := xval_ex hf
              rw [← hx108]
              obtain ⟨r109, M, e110, hf⟩ := xbind_some hf
              refine x_callV hc (As := [.int x108]) (n := 1) (s_N_fnAround hb e110) (c_N hb _) rfl (hR.call (by decide) (by decide)) ⟨by decide, by decide, by decide⟩ rfl rfl xw1110 xw18 xw1107 xw1109 xs_N_fnAround (Nat.le_of_ble_eq_true rfl) ⟨Nat.zero_le _, Nat.zero_le _⟩ (xd dk_N_statement 200 rfl) ?_
              refine x_if_ne hc (tgt := 369) (xd dk_N_statement 201 rfl) rfl (fun q111 => ?_) (fun q111 => ?_)
              · rw [if_neg q111] at hf
                refine x_iconst hc (v := 0) (xd dk_N_statement 204 rfl) (by decide) ?_
                exact s_N_statement_370 hc hR hb v4 v5 v6 0 M hf
              · rw [if_pos q111] at hf
                refine x_iconst hc (v := 1) (xd dk_N_statement 202 rfl) (by decide) ?_
                refine x_goto hc (tgt := 370) (xd dk_N_statement 203 rfl) rfl ?_
                exact s_N_statement_370 hc hR hb v4 v5 v6 1 M hf
          · rw [if_pos q96] at hf
            exact s_N_statement_285 hc hR hb v4 v5 v6 M hf
      · rw [if_pos q94] at hf
        refine x_aload_n hc (xd dk_N_statement 87 rfl) rfl rfl ?_
        refine x_dup hc (xd dk_N_statement 88 rfl) rfl ?_
        refine x_get hc (ci := 10) (k := 7) fi_N (c_N hb _) rfl (by decide) rfl xw1150 rfl (xd dk_N_statement 89 rfl) ?_
        refine x_iconst hc (v := 1) (xd dk_N_statement 90 rfl) (by decide) ?_
        refine x_iadd hc (xd dk_N_statement 91 rfl) ?_
        obtain ⟨x112, hx112, hf⟩ := xval_ex hf
        rw [← hx112]
        refine x_put hc (ci := 10) (k := 7) fi_N ft_N ft_N_ok fn_N (c_N hb _) rfl (by decide) rfl xw1150 rfl rfl rfl (Nat.le_of_ble_eq_true rfl) (xd dk_N_statement 92 rfl) ?_
        rw [w_N_7 hb]
        replace hf := xlet_some hf
        generalize wI M b 7 x112 = M at hf ⊢
        refine x_aload_n hc (xd dk_N_statement 93 rfl) rfl rfl ?_
        refine x_iconst hc (v := 0) (xd dk_N_statement 94 rfl) (by decide) ?_
        obtain ⟨r113, M, e114, hf⟩ := xbind_some hf
        refine x_callV hc (As := [.int 0]) (n := 1) (s_N_enters hb e114) (c_N hb _) rfl (hR.call (by decide) (by decide)) ⟨by decide, by decide, by decide⟩ rfl rfl xw1070 xw18 xw1067 xw1069 xs_N_enters (Nat.le_of_ble_eq_true rfl) ⟨Nat.zero_le _, Nat.zero_le _⟩ (xd dk_N_statement 95 rfl) ?_
        refine x_aload_n hc (xd dk_N_statement 96 rfl) rfl rfl ?_
        refine x_bipush hc (v := 23) (xd dk_N_statement 97 rfl) (by decide) ?_
        obtain ⟨r115, M, e116, hf⟩ := xbind_some hf
        refine x_callV hc (As := [.int 23]) (n := 1) (s_N_is hb e116) (c_N hb _) rfl (hR.call (by decide) (by decide)) ⟨by decide, by decide, by decide⟩ rfl rfl xw1082 xw18 xw1079 xw1081 xs_N_is (Nat.le_of_ble_eq_true rfl) ⟨Nat.zero_le _, Nat.zero_le _⟩ (xd dk_N_statement 98 rfl) ?_
        refine x_if_eq hc (tgt := 250) (xd dk_N_statement 99 rfl) rfl (fun q117 => ?_) (fun q117 => ?_)
        · rw [if_pos q117] at hf
          exact s_N_statement_250 hc hR hb v4 v5 v6 M hf
        · rw [if_neg q117] at hf
          refine x_aload_n hc (xd dk_N_statement 100 rfl) rfl rfl ?_
          refine x_get hc (ci := 10) (k := 47) fi_N (c_N hb _) rfl (by decide) rfl xw1190 rfl (xd dk_N_statement 101 rfl) ?_
          refine x_aload_n hc (xd dk_N_statement 102 rfl) rfl rfl ?_
          refine x_get hc (ci := 10) (k := 58) fi_N (c_N hb _) rfl (by decide) rfl xw1201 rfl (xd dk_N_statement 103 rfl) ?_
          refine x_iload hc (xd dk_N_statement 104 rfl) rfl ?_
          obtain ⟨x118, hx118, hf⟩ := xval_ex hf
          rw [← hx118]
          by_cases q119 : xin x118 64 = true
          case neg => rw [if_neg q119] at hf; cases hf
          rw [if_pos q119] at hf
          refine x_iast hc (cA (xMd.ar hb 33 (by decide) rfl)) (xin_in q119) (xd dk_N_statement 105 rfl) ?_
          rw [wA (xMd.ar hb 33 (by decide) rfl)]
          replace hf := xlet_some hf
          generalize wI M (b + 33) x118.toNatClampNeg v5 = M at hf ⊢
          refine x_aload_n hc (xd dk_N_statement 106 rfl) rfl rfl ?_
          refine x_get hc (ci := 10) (k := 48) fi_N (c_N hb _) rfl (by decide) rfl xw1191 rfl (xd dk_N_statement 107 rfl) ?_
          refine x_aload_n hc (xd dk_N_statement 108 rfl) rfl rfl ?_
          refine x_get hc (ci := 10) (k := 58) fi_N (c_N hb _) rfl (by decide) rfl xw1201 rfl (xd dk_N_statement 109 rfl) ?_
          refine x_aload_n hc (xd dk_N_statement 110 rfl) rfl rfl ?_
          refine x_get hc (ci := 10) (k := 19) fi_N (c_N hb _) rfl (by decide) rfl xw1162 rfl (xd dk_N_statement 111 rfl) ?_
          refine x_aload_n hc (xd dk_N_statement 112 rfl) rfl rfl ?_
          refine x_get hc (ci := 10) (k := 7) fi_N (c_N hb _) rfl (by decide) rfl xw1150 rfl (xd dk_N_statement 113 rfl) ?_
          by_cases q120 : xin (M.1 b 7) 64 = true
          case neg => rw [if_neg q120] at hf; cases hf
          rw [if_pos q120] at hf
          refine x_iald hc (cA (xMd.ar hb 10 (by decide) rfl)) (xin_in q120) (xd dk_N_statement 114 rfl) ?_
          obtain ⟨x121, hx121, hf⟩ := xval_ex hf
          rw [← hx121]
          obtain ⟨x122, hx122, hf⟩ := xval_ex hf
          rw [← hx122]
          by_cases q123 : xin x122 64 = true
          case neg => rw [if_neg q123] at hf; cases hf
          rw [if_pos q123] at hf
          refine x_iast hc (cA (xMd.ar hb 34 (by decide) rfl)) (xin_in q123) (xd dk_N_statement 115 rfl) ?_
          rw [wA (xMd.ar hb 34 (by decide) rfl)]
          replace hf := xlet_some hf
          generalize wI M (b + 34) x122.toNatClampNeg x121 = M at hf ⊢
          refine x_aload_n hc (xd dk_N_statement 116 rfl) rfl rfl ?_
          refine x_get hc (ci := 10) (k := 53) fi_N (c_N hb _) rfl (by decide) rfl xw1196 rfl (xd dk_N_statement 117 rfl) ?_
          refine x_aload_n hc (xd dk_N_statement 118 rfl) rfl rfl ?_
          refine x_get hc (ci := 10) (k := 58) fi_N (c_N hb _) rfl (by decide) rfl xw1201 rfl (xd dk_N_statement 119 rfl) ?_
          refine x_iload_n hc (xd dk_N_statement 120 rfl) rfl rfl ?_
          refine x_if_lt hc (tgt := 238) (xd dk_N_statement 121 rfl) rfl (fun q124 => ?_) (fun q124 => ?_)
          · rw [if_pos q124] at hf
            exact s_N_statement_238 hc hR hb v4 v5 v6 (M.1 b 58) M hf
          · rw [if_neg q124] at hf
            refine x_iload_n hc (xd dk_N_statement 122 rfl) rfl rfl ?_
            refine x_iconst hc (v := 2) (xd dk_N_statement 123 rfl) (by decide) ?_
            refine x_icmp_ge hc (tgt := 238) (xd dk_N_statement 124 rfl) rfl (fun q125 => ?_) (fun q125 => ?_)
            · rw [if_pos q125] at hf
              exact s_N_statement_238 hc hR hb v4 v5 v6 (M.1 b 58) M hf
            · rw [if_neg q125] at hf
              refine x_iconst hc (v := 1) (xd dk_N_statement 125 rfl) (by decide) ?_
              refine x_goto hc (tgt := 239) (xd dk_N_statement 126 rfl) rfl ?_
              exact s_N_statement_239 hc hR hb v4 v5 v6 (M.1 b 58) 1 M hf
    · rw [if_pos q93] at hf
      refine x_aload_n hc (xd dk_N_statement 80 rfl) rfl rfl ?_
      refine x_iload_n hc (xd dk_N_statement 81 rfl) rfl rfl ?_
      obtain ⟨r126, M, e127, hf⟩ := xbind_some hf
      refine x_callV hc (As := [.int p1]) (n := 1) (s_N_function hb e127) (c_N hb _) rfl (hR.call (by decide) (by decide)) ⟨by decide, by decide, by decide⟩ rfl rfl xw1122 xw18 xw1119 xw1121 xs_N_function (Nat.le_of_ble_eq_true rfl) ⟨Nat.zero_le _, Nat.zero_le _⟩ (xd dk_N_statement 82 rfl) ?_
      refine x_goto hc (tgt := 499) (xd dk_N_statement 83 rfl) rfl ?_
      exact s_N_statement_499 hc hR hb v4 v5 v6 M hf
  · rw [if_neg q92] at hf
    refine x_aload_n hc (xd dk_N_statement 72 rfl) rfl rfl ?_
    refine x_iload_n hc (xd dk_N_statement 73 rfl) rfl rfl ?_
    refine x_iload hc (xd dk_N_statement 74 rfl) rfl ?_
    obtain ⟨r128, M, e129, hf⟩ := xbind_some hf
    refine x_callV hc (As := [.int p1, .int v4]) (n := 2) (s_N_declaration hb e129) (c_N hb _) rfl (hR.call (by decide) (by decide)) ⟨by decide, by decide, by decide⟩ rfl rfl xw1098 xw18 xw1095 xw1097 xs_N_declaration (Nat.le_of_ble_eq_true rfl) ⟨Nat.zero_le _, Nat.zero_le _⟩ (xd dk_N_statement 75 rfl) ?_
    refine x_goto hc (tgt := 499) (xd dk_N_statement 76 rfl) rfl ?_
    exact s_N_statement_499 hc hR hb v4 v5 v6 M hf
set_option maxRecDepth 100000 in
set_option maxHeartbeats 400000 in
theorem s_N_statement_120 {p : Program} {l : Launch} {e : Env} {R : Room} {s : State} {m : MethodId} {args : Array Value} {below : List Frame} {meth : Method} {c : Code} {G : xG} {Y : xY} {sz : Nat} {b : Nat} {p1 : Int32} {p2 : Int32} {p3 : Int32}  (hc : xC p s m args meth c G 7 c_N_statement y_N_statement.cls none) (hR : xRm R 4) (hb : xMd Y b) {M' : xMem} {r : Unit} (v4 : Int32) (v5 : Int32) (v6 : Int32) (w2 : Int32) (M : xMem) (hf : f_N_statement_120 b p1 p2 p3 v4 v5 v6 w2 M = some (r, M')) : xW p l e R s m args below meth c G 7 (MQ below (xQc G none (xo G Y M') sz) args s 0 0 (xA G)) (xo G Y M) sz 0 0 120 [some (.ref b), some (.int p1), some (.int p2), some (.int p3), some (.int v4), some (.int v5), some (.int v6)] [.int w2, .int p2, .ref (b + 16)] := by
  unfold f_N_statement_120 at hf
  by_cases q130 : xin p2 64 = true
  case neg => rw [if_neg q130] at hf; cases hf
  rw [if_pos q130] at hf
  refine x_iast hc (cA (xMd.ar hb 16 (by decide) rfl)) (xin_in q130) (xd dk_N_statement 66 rfl) ?_
  rw [wA (xMd.ar hb 16 (by decide) rfl)]
  replace hf := xlet_some hf
  generalize wI M (b + 16) p2.toNatClampNeg w2 = M at hf ⊢
  exact s_N_statement_121 hc hR hb v4 v5 v6 M hf
set_option maxRecDepth 100000 in
set_option maxHeartbeats 400000 in
theorem s_N_statement_97 {p : Program} {l : Launch} {e : Env} {R : Room} {s : State} {m : MethodId} {args : Array Value} {below : List Frame} {meth : Method} {c : Code} {G : xG} {Y : xY} {sz : Nat} {b : Nat} {p1 : Int32} {p2 : Int32} {p3 : Int32}  (hc : xC p s m args meth c G 7 c_N_statement y_N_statement.cls none) (hR : xRm R 4) (hb : xMd Y b) {M' : xMem} {r : Unit} (v4 : Int32) (v5 : Int32) (w0 : Int32) (M : xMem) (hf : f_N_statement_97 b p1 p2 p3 v4 v5 w0 M = some (r, M')) : xW p l e R s m args below meth c G 7 (MQ below (xQc G none (xo G Y M') sz) args s 0 0 (xA G)) (xo G Y M) sz 0 0 97 [some (.ref b), some (.int p1), some (.int p2), some (.int p3), some (.int v4), some (.int v5), none] [.int w0] := by
  unfold f_N_statement_97 at hf
  refine x_istore hc (xd dk_N_statement 54 rfl) (by decide) rfl ?_
  refine x_iload_n hc (xd dk_N_statement 55 rfl) rfl rfl ?_
  refine x_if_lt hc (tgt := 121) (xd dk_N_statement 56 rfl) rfl (fun q131 => ?_) (fun q131 => ?_)
  · rw [if_pos q131] at hf
    exact s_N_statement_121 hc hR hb v4 v5 w0 M hf
  · rw [if_neg q131] at hf
    refine x_aload_n hc (xd dk_N_statement 57 rfl) rfl rfl ?_
    refine x_get hc (ci := 10) (k := 25) fi_N (c_N hb _) rfl (by decide) rfl xw1168 rfl (xd dk_N_statement 58 rfl) ?_
    refine x_iload_n hc (xd dk_N_statement 59 rfl) rfl rfl ?_
    refine x_iload hc (xd dk_N_statement 60 rfl) rfl ?_
    refine x_bipush hc (v := 11) (xd dk_N_statement 61 rfl) (by decide) ?_
    refine x_icmp_ne hc (tgt := 119) (xd dk_N_statement 62 rfl) rfl (fun q132 => ?_) (fun q132 => ?_)
    · rw [if_neg q132] at hf
      refine x_iconst hc (v := 0) (xd dk_N_statement 65 rfl) (by decide) ?_
      exact s_N_statement_120 hc hR hb v4 v5 w0 0 M hf
    · rw [if_pos q132] at hf
      refine x_iconst hc (v := 1) (xd dk_N_statement 63 rfl) (by decide) ?_
      refine x_goto hc (tgt := 120) (xd dk_N_statement 64 rfl) rfl ?_
      exact s_N_statement_120 hc hR hb v4 v5 w0 1 M hf
set_option maxRecDepth 100000 in
set_option maxHeartbeats 400000 in
theorem s_N_statement_96 {p : Program} {l : Launch} {e : Env} {R : Room} {s : State} {m : MethodId} {args : Array Value} {below : List Frame} {meth : Method} {c : Code} {G : xG} {Y : xY} {sz : Nat} {b : Nat} {p1 : Int32} {p2 : Int32} {p3 : Int32}  (hc : xC p s m args meth c G 7 c_N_statement y_N_statement.cls none) (hR : xRm R 4) (hb : xMd Y b) {M' : xMem} {r : Unit} (v4 : Int32) (v5 : Int32) (M : xMem) (hf : f_N_statement_96 b p1 p2 p3 v4 v5 M = some (r, M')) : xW p l e R s m args below meth c G 7 (MQ below (xQc G none (xo G Y M') sz) args s 0 0 (xA G)) (xo G Y M) sz 0 0 96 [some (.ref b), some (.int p1), some (.int p2), some (.int p3), some (.int v4), some (.int v5), none] [] := by
  unfold f_N_statement_96 at hf
  refine x_iconst hc (v := 0) (xd dk_N_statement 53 rfl) (by decide) ?_
  exact s_N_statement_97 hc hR hb v4 v5 0 M hf
set_option maxRecDepth 100000 in
set_option maxHeartbeats 400000 in
theorem s_N_statement_41 {p : Program} {l : Launch} {e : Env} {R : Room} {s : State} {m : MethodId} {args : Array Value} {below : List Frame} {meth : Method} {c : Code} {G : xG} {Y : xY} {sz : Nat} {b : Nat} {p1 : Int32} {p2 : Int32} {p3 : Int32}  (hc : xC p s m args meth c G 7 c_N_statement y_N_statement.cls none) (hR : xRm R 4) (hb : xMd Y b) {M' : xMem} {r : Unit} (v4 : Int32) (w1 : Int32) (M : xMem) (hf : f_N_statement_41 b p1 p2 p3 v4 w1 M = some (r, M')) : xW p l e R s m args below meth c G 7 (MQ below (xQc G none (xo G Y M') sz) args s 0 0 (xA G)) (xo G Y M) sz 0 0 41 [some (.ref b), some (.int p1), some (.int p2), some (.int p3), some (.int v4), none, none] [.int w1, .ref b] := by
  unfold f_N_statement_41 at hf
  obtain ⟨r133, M, e134, hf⟩ := xbind_some hf
  refine x_callV hc (As := [.int w1]) (n := 1) (s_N_wrongs hb e134) (c_N hb _) rfl (hR.call (by decide) (by decide)) ⟨by decide, by decide, by decide⟩ rfl rfl xw1090 xw18 xw1087 xw1089 xs_N_wrongs (Nat.le_of_ble_eq_true rfl) ⟨Nat.zero_le _, Nat.zero_le _⟩ (xd dk_N_statement 23 rfl) ?_
  refine x_aload_n hc (xd dk_N_statement 24 rfl) rfl rfl ?_
  refine x_get hc (ci := 10) (k := 4) fi_N (c_N hb _) rfl (by decide) rfl xw1147 rfl (xd dk_N_statement 25 rfl) ?_
  refine x_if_lt hc (tgt := 52) (xd dk_N_statement 26 rfl) rfl (fun q135 => ?_) (fun q135 => ?_)
  · rw [if_pos q135] at hf
    refine x_iload hc (xd dk_N_statement 28 rfl) rfl ?_
    refine x_bipush hc (v := 26) (xd dk_N_statement 29 rfl) (by decide) ?_
    refine x_icmp_ne hc (tgt := 67) (xd dk_N_statement 30 rfl) rfl (fun q136 => ?_) (fun q136 => ?_)
    · rw [if_neg q136] at hf
      refine x_aload_n hc (xd dk_N_statement 37 rfl) rfl rfl ?_
      refine x_get hc (ci := 10) (k := 18) fi_N (c_N hb _) rfl (by decide) rfl xw1161 rfl (xd dk_N_statement 38 rfl) ?_
      refine x_aload_n hc (xd dk_N_statement 39 rfl) rfl rfl ?_
      refine x_get hc (ci := 10) (k := 7) fi_N (c_N hb _) rfl (by decide) rfl xw1150 rfl (xd dk_N_statement 40 rfl) ?_
      by_cases q137 : xin (M.1 b 7) 64 = true
      case neg => rw [if_neg q137] at hf; cases hf
      rw [if_pos q137] at hf
      refine x_iald hc (cA (xMd.ar hb 9 (by decide) rfl)) (xin_in q137) (xd dk_N_statement 41 rfl) ?_
      refine x_istore hc (xd dk_N_statement 42 rfl) (by decide) rfl ?_
      refine x_iload_n hc (xd dk_N_statement 43 rfl) rfl rfl ?_
      refine x_if_lt hc (tgt := 96) (xd dk_N_statement 44 rfl) rfl (fun q138 => ?_) (fun q138 => ?_)
      · rw [if_pos q138] at hf
        exact s_N_statement_96 hc hR hb v4 (M.1 (b + 9) (M.1 b 7).toNatClampNeg) M hf
      · rw [if_neg q138] at hf
        refine x_aload_n hc (xd dk_N_statement 45 rfl) rfl rfl ?_
        refine x_get hc (ci := 10) (k := 25) fi_N (c_N hb _) rfl (by decide) rfl xw1168 rfl (xd dk_N_statement 46 rfl) ?_
        refine x_iload_n hc (xd dk_N_statement 47 rfl) rfl rfl ?_
        by_cases q139 : xin p2 64 = true
        case neg => rw [if_neg q139] at hf; cases hf
        rw [if_pos q139] at hf
        refine x_iald hc (cA (xMd.ar hb 16 (by decide) rfl)) (xin_in q139) (xd dk_N_statement 48 rfl) ?_
        refine x_iconst hc (v := 1) (xd dk_N_statement 49 rfl) (by decide) ?_
        refine x_icmp_ne hc (tgt := 96) (xd dk_N_statement 50 rfl) rfl (fun q140 => ?_) (fun q140 => ?_)
        · rw [if_neg q140] at hf
          exact s_N_statement_96 hc hR hb v4 (M.1 (b + 9) (M.1 b 7).toNatClampNeg) M hf
        · rw [if_pos q140] at hf
          refine x_iconst hc (v := 1) (xd dk_N_statement 51 rfl) (by decide) ?_
          refine x_goto hc (tgt := 97) (xd dk_N_statement 52 rfl) rfl ?_
          exact s_N_statement_97 hc hR hb v4 (M.1 (b + 9) (M.1 b 7).toNatClampNeg) 1 M hf
    · rw [if_pos q136] at hf
      refine x_aload_n hc (xd dk_N_statement 31 rfl) rfl rfl ?_
      refine x_iload_n hc (xd dk_N_statement 32 rfl) rfl rfl ?_
      refine x_iload_n hc (xd dk_N_statement 33 rfl) rfl rfl ?_
      refine x_iload_n hc (xd dk_N_statement 34 rfl) rfl rfl ?_
      obtain ⟨r141, M, e142, hf⟩ := xbind_some hf
      refine x_callV hc (As := [.int p1, .int p2, .int p3]) (n := 3) (s_N_excusing hb e142) (c_N hb _) rfl (hR.call (by decide) (by decide)) ⟨by decide, by decide, by decide⟩ rfl rfl xw1094 xw18 xw1091 xw1093 xs_N_excusing (Nat.le_of_ble_eq_true rfl) ⟨Nat.zero_le _, Nat.zero_le _⟩ (xd dk_N_statement 35 rfl) ?_
      cases hf
      exact x_return hc (xd dk_N_statement 36 rfl)
  · rw [if_neg q135] at hf
    cases hf
    exact x_return hc (xd dk_N_statement 27 rfl)
set_option maxRecDepth 100000 in
set_option maxHeartbeats 400000 in
theorem s_N_statement_36 {p : Program} {l : Launch} {e : Env} {R : Room} {s : State} {m : MethodId} {args : Array Value} {below : List Frame} {meth : Method} {c : Code} {G : xG} {Y : xY} {sz : Nat} {b : Nat} {p1 : Int32} {p2 : Int32} {p3 : Int32}  (hc : xC p s m args meth c G 7 c_N_statement y_N_statement.cls none) (hR : xRm R 4) (hb : xMd Y b) {M' : xMem} {r : Unit} (v4 : Int32) (M : xMem) (hf : f_N_statement_36 b p1 p2 p3 v4 M = some (r, M')) : xW p l e R s m args below meth c G 7 (MQ below (xQc G none (xo G Y M') sz) args s 0 0 (xA G)) (xo G Y M) sz 0 0 36 [some (.ref b), some (.int p1), some (.int p2), some (.int p3), some (.int v4), none, none] [.ref b] := by
  unfold f_N_statement_36 at hf
  refine x_iconst hc (v := 1) (xd dk_N_statement 20 rfl) (by decide) ?_
  refine x_goto hc (tgt := 41) (xd dk_N_statement 21 rfl) rfl ?_
  exact s_N_statement_41 hc hR hb v4 1 M hf
set_option maxRecDepth 100000 in
set_option maxHeartbeats 400000 in
theorem s_N_statement_40 {p : Program} {l : Launch} {e : Env} {R : Room} {s : State} {m : MethodId} {args : Array Value} {below : List Frame} {meth : Method} {c : Code} {G : xG} {Y : xY} {sz : Nat} {b : Nat} {p1 : Int32} {p2 : Int32} {p3 : Int32}  (hc : xC p s m args meth c G 7 c_N_statement y_N_statement.cls none) (hR : xRm R 4) (hb : xMd Y b) {M' : xMem} {r : Unit} (v4 : Int32) (M : xMem) (hf : f_N_statement_40 b p1 p2 p3 v4 M = some (r, M')) : xW p l e R s m args below meth c G 7 (MQ below (xQc G none (xo G Y M') sz) args s 0 0 (xA G)) (xo G Y M) sz 0 0 40 [some (.ref b), some (.int p1), some (.int p2), some (.int p3), some (.int v4), none, none] [.ref b] := by
  unfold f_N_statement_40 at hf
  refine x_iconst hc (v := 0) (xd dk_N_statement 22 rfl) (by decide) ?_
  exact s_N_statement_41 hc hR hb v4 0 M hf
set_option maxRecDepth 100000 in
set_option maxHeartbeats 400000 in
theorem s_N_statement {l : Launch} {G : xG} {Y : xY} {sz : Nat} {b : Nat} {p1 : Int32} {p2 : Int32} {p3 : Int32}  (hb : xMd Y b) {M M' : xMem} {r : Unit} (hf : f_N_statement b p1 p2 p3 M = some (r, M')) : xM l G y_N_statement c_N_statement 7 none 4 0 0 [.ref b, .int p1, .int p2, .int p3] (xo G Y M) sz none (xo G Y M') sz := by
  unfold f_N_statement at hf
  refine xM.of (k := 3) (L0 := [some (.ref b), some (.int p1), some (.int p2), some (.int p3), none, none, none]) (by decide) (Nat.le_of_ble_eq_true rfl) rfl ?_
  intro p e s m args below meth c hc hnm
  have hR : xRm { frames := 4, cells := 0, slots := 0, locals := 48 * 4 } 4 := ⟨Nat.le_refl _, Nat.le_refl _⟩
  refine x_aload_n hc (xd dk_N_statement 0 rfl) rfl rfl ?_
  refine x_get hc (ci := 10) (k := 17) fi_N (c_N hb _) rfl (by decide) rfl xw1160 rfl (xd dk_N_statement 1 rfl) ?_
  refine x_aload_n hc (xd dk_N_statement 2 rfl) rfl rfl ?_
  refine x_get hc (ci := 10) (k := 7) fi_N (c_N hb _) rfl (by decide) rfl xw1150 rfl (xd dk_N_statement 3 rfl) ?_
  by_cases q143 : xin (M.1 b 7) 64 = true
  case neg => rw [if_neg q143] at hf; cases hf
  rw [if_pos q143] at hf
  refine x_iald hc (cA (xMd.ar hb 8 (by decide) rfl)) (xin_in q143) (xd dk_N_statement 4 rfl) ?_
  refine x_istore hc (xd dk_N_statement 5 rfl) (by decide) rfl ?_
  refine x_aload_n hc (xd dk_N_statement 6 rfl) rfl rfl ?_
  refine x_iload_n hc (xd dk_N_statement 7 rfl) rfl rfl ?_
  refine x_bipush hc (v := 12) (xd dk_N_statement 8 rfl) (by decide) ?_
  refine x_icmp_gt hc (tgt := 36) (xd dk_N_statement 9 rfl) rfl (fun q144 => ?_) (fun q144 => ?_)
  · rw [if_pos q144] at hf
    exact s_N_statement_36 hc hR hb (M.1 (b + 8) (M.1 b 7).toNatClampNeg) M hf
  · rw [if_neg q144] at hf
    refine x_iload_n hc (xd dk_N_statement 10 rfl) rfl rfl ?_
    refine x_iconst hc (v := 1) (xd dk_N_statement 11 rfl) (by decide) ?_
    refine x_iand hc (xd dk_N_statement 12 rfl) ?_
    refine x_iconst hc (v := 1) (xd dk_N_statement 13 rfl) (by decide) ?_
    refine x_icmp_ne hc (tgt := 40) (xd dk_N_statement 14 rfl) rfl (fun q145 => ?_) (fun q145 => ?_)
    · rw [if_neg q145] at hf
      exact s_N_statement_40 hc hR hb (M.1 (b + 8) (M.1 b 7).toNatClampNeg) M hf
    · rw [if_pos q145] at hf
      refine x_iload hc (xd dk_N_statement 15 rfl) rfl ?_
      refine x_iconst hc (v := 4) (xd dk_N_statement 16 rfl) (by decide) ?_
      refine x_bipush hc (v := 7) (xd dk_N_statement 17 rfl) (by decide) ?_
      obtain ⟨x146, hx146, hf⟩ := xval_ex hf
      rw [← hx146]
      obtain ⟨r147, M, e148, hf⟩ := xbind_some hf
      refine x_callS hc (As := [.int x146, .int 4, .int 7]) (n := 3) (s_N_in e148) (hR.call (by decide) (by decide)) ⟨by decide, by decide, by decide⟩ rfl rfl xw1043 xw18 xw1041 xw1042 (Nat.le_of_ble_eq_true rfl) ⟨Nat.zero_le _, Nat.zero_le _⟩ (xd dk_N_statement 18 rfl) ?_
      refine x_if_eq hc (tgt := 40) (xd dk_N_statement 19 rfl) rfl (fun q149 => ?_) (fun q149 => ?_)
      · rw [if_pos q149] at hf
        exact s_N_statement_40 hc hR hb x146 M hf
      · rw [if_neg q149] at hf
        exact s_N_statement_36 hc hR hb x146 M hf
def f_N_scans_524 (b : Nat) (k90 : xMem → Option (Unit × xMem)) (v1 : Int32) (v2 : Int32) (v3 : Int32) (M : xMem) : Option (Unit × xMem) :=
  (k90 M)
def f_N_scans_400 (b : Nat) (k90 : xMem → Option (Unit × xMem)) (v1 : Int32) (v2 : Int32) (v3 : Int32) (M : xMem) : Option (Unit × xMem) :=
  (xval ((M.1 b 7) + 1) fun x62 => xlet (wI M b 7 x62) fun M => xbind (f_N_push b 6 v1 0 0 M) fun r63 M => xbind (f_N_push b 7 v1 0 0 M) fun r65 M => f_N_scans_524 b k90 v1 v2 v3 M)
def f_N_scans_363 (b : Nat) (k90 : xMem → Option (Unit × xMem)) (v1 : Int32) (v2 : Int32) (v3 : Int32) (M : xMem) : Option (Unit × xMem) :=
  (xbind (f_N_is b 13 M) fun r67 M => if r67 = 0 then (f_N_scans_400 b k90 v1 v2 v3 M) else (if xin (M.1 b 7) 64 = true then xval (M.1 (b + 9) (M.1 b 7).toNatClampNeg) fun x71 => xval (M.1 b 56) fun x72 => if xin x72 64 = true then xlet (wI M (b + 30) x72.toNatClampNeg x71) fun M => xval ((M.1 b 56) + 1) fun x74 => xlet (wI M b 56 x74) fun M => f_N_scans_400 b k90 v1 v2 v3 M else none else none))
def f_N_scans_527 (b : Nat) (M : xMem) : Option (Unit × xMem) :=
  (if 0 ≤ M.1 b 4 then (some ((), M)) else (xbind (f_N_belongs b M) fun r76 M => some ((), M)))
def f_N_scans_90 (b : Nat) : Nat → xMem → Option (Unit × xMem)
  | 0, _ => none
  | n + 1, M =>
    (if M.1 b 8 ≤ 0 then (f_N_scans_527 b M) else (if 0 ≤ M.1 b 4 then (f_N_scans_527 b M) else (xval ((M.1 b 8) - 1) fun x80 => xlet (wI M b 8 x80) fun M => if xin (M.1 b 8) 300 = true then if xin (M.1 b 8) 300 = true then if xin (M.1 b 8) 300 = true then if xin (M.1 b 8) 300 = true then if M.1 (b + 11) (M.1 b 8).toNatClampNeg = 1 then (xval (M.1 (b + 13) (M.1 b 8).toNatClampNeg) fun x86 => xval (M.1 (b + 12) (M.1 b 8).toNatClampNeg) fun x87 => xval (M.1 (b + 14) (M.1 b 8).toNatClampNeg) fun x88 => xbind (f_N_is b x86 M) fun r89 M => if r89 = 0 then (xbind (f_N_push b 1 x87 x86 x88 M) fun r94 M => xbind (f_N_push b 2 x87 x88 0 M) fun r96 M => f_N_scans_524 b (f_N_scans_90 b n) x87 x86 x88 M) else (if x86 = 23 then (xval ((M.1 b 7) + 1) fun x93 => xlet (wI M b 7 x93) fun M => f_N_scans_524 b (f_N_scans_90 b n) x87 x86 x88 M) else (f_N_scans_524 b (f_N_scans_90 b n) x87 x86 x88 M))) else if M.1 (b + 11) (M.1 b 8).toNatClampNeg = 2 then (xval (M.1 (b + 13) (M.1 b 8).toNatClampNeg) fun x99 => xval (M.1 (b + 12) (M.1 b 8).toNatClampNeg) fun x100 => xval (M.1 (b + 14) (M.1 b 8).toNatClampNeg) fun x101 => xbind (f_N_statement b x100 x99 x101 M) fun r102 M => f_N_scans_524 b (f_N_scans_90 b n) x100 x99 x101 M) else if M.1 (b + 11) (M.1 b 8).toNatClampNeg = 3 then (xval (M.1 (b + 13) (M.1 b 8).toNatClampNeg) fun x105 => xval (M.1 (b + 12) (M.1 b 8).toNatClampNeg) fun x106 => xval (M.1 (b + 14) (M.1 b 8).toNatClampNeg) fun x107 => xbind (f_N_is b 9 M) fun r108 M => if r108 = 0 then (f_N_scans_524 b (f_N_scans_90 b n) x106 x105 x107 M) else (xval ((M.1 b 7) + 1) fun x111 => xlet (wI M b 7 x111) fun M => xbind (f_N_push b 2 (x106 + 1) (-1) 1 M) fun r112 M => f_N_scans_524 b (f_N_scans_90 b n) x106 x105 x107 M)) else if M.1 (b + 11) (M.1 b 8).toNatClampNeg = 4 then (xval (M.1 (b + 13) (M.1 b 8).toNatClampNeg) fun x115 => xval (M.1 (b + 12) (M.1 b 8).toNatClampNeg) fun x116 => xval (M.1 (b + 14) (M.1 b 8).toNatClampNeg) fun x117 => xbind (f_N_takes b x115 M) fun r118 M => f_N_scans_524 b (f_N_scans_90 b n) x116 x115 x117 M) else if M.1 (b + 11) (M.1 b 8).toNatClampNeg = 5 then (xval (M.1 (b + 13) (M.1 b 8).toNatClampNeg) fun x121 => xval (M.1 (b + 12) (M.1 b 8).toNatClampNeg) fun x122 => xval (M.1 (b + 14) (M.1 b 8).toNatClampNeg) fun x123 => xbind (f_N_value b x122 x121 M) fun r124 M => f_N_scans_524 b (f_N_scans_90 b n) x122 x121 x123 M) else if M.1 (b + 11) (M.1 b 8).toNatClampNeg = 6 then (xval (M.1 (b + 13) (M.1 b 8).toNatClampNeg) fun x127 => xval (M.1 (b + 12) (M.1 b 8).toNatClampNeg) fun x128 => xval (M.1 (b + 14) (M.1 b 8).toNatClampNeg) fun x129 => xbind (f_N_is b 12 M) fun r130 M => if r130 = 0 then (xbind (f_N_is b 13 M) fun r133 M => if r133 = 0 then (xbind (f_N_is b 15 M) fun r136 M => if r136 = 0 then (xbind (f_N_is b 16 M) fun r139 M => if r139 = 0 then (xbind (f_N_is b 17 M) fun r142 M => if r142 = 0 then (xbind (f_N_is b 18 M) fun r145 M => if r145 = 0 then (f_N_scans_524 b (f_N_scans_90 b n) x128 x127 x129 M) else (f_N_scans_363 b (f_N_scans_90 b n) x128 x127 x129 M)) else (f_N_scans_363 b (f_N_scans_90 b n) x128 x127 x129 M)) else (f_N_scans_363 b (f_N_scans_90 b n) x128 x127 x129 M)) else (f_N_scans_363 b (f_N_scans_90 b n) x128 x127 x129 M)) else (f_N_scans_363 b (f_N_scans_90 b n) x128 x127 x129 M)) else (f_N_scans_363 b (f_N_scans_90 b n) x128 x127 x129 M)) else if M.1 (b + 11) (M.1 b 8).toNatClampNeg = 7 then (xval (M.1 (b + 13) (M.1 b 8).toNatClampNeg) fun x149 => xval (M.1 (b + 12) (M.1 b 8).toNatClampNeg) fun x150 => xval (M.1 (b + 14) (M.1 b 8).toNatClampNeg) fun x151 => xbind (f_N_part b x150 M) fun r152 M => f_N_scans_524 b (f_N_scans_90 b n) x150 x149 x151 M) else if M.1 (b + 11) (M.1 b 8).toNatClampNeg = 8 then (xval (M.1 (b + 13) (M.1 b 8).toNatClampNeg) fun x155 => xval (M.1 (b + 12) (M.1 b 8).toNatClampNeg) fun x156 => xval (M.1 (b + 14) (M.1 b 8).toNatClampNeg) fun x157 => xbind (f_N_is b 25 M) fun r158 M => if r158 = 0 then (xbind (f_N_takes b 21 M) fun r161 M => f_N_scans_524 b (f_N_scans_90 b n) x156 x155 x157 M) else (xval ((M.1 b 7) + 1) fun x163 => xlet (wI M b 7 x163) fun M => xbind (f_N_push b 8 x156 0 0 M) fun r164 M => xbind (f_N_push b 5 (x156 + 1) 1 0 M) fun r166 M => f_N_scans_524 b (f_N_scans_90 b n) x156 x155 x157 M)) else if M.1 (b + 11) (M.1 b 8).toNatClampNeg = 9 then (if xin (M.1 b 28) 64 = true then xval (M.1 (b + 15) (M.1 b 28).toNatClampNeg) fun x170 => xval (M.1 (b + 13) (M.1 b 8).toNatClampNeg) fun x171 => xval (M.1 (b + 12) (M.1 b 8).toNatClampNeg) fun x172 => xval (M.1 (b + 14) (M.1 b 8).toNatClampNeg) fun x173 => xlet (wI M b 28 x170) fun M => f_N_scans_524 b (f_N_scans_90 b n) x172 x171 x173 M else none) else (if xin ((M.1 b 7) - 1) 64 = true then xval ((M.1 (b + 10) ((M.1 b 7) - 1).toNatClampNeg) - 1) fun x175 => xval (M.1 (b + 13) (M.1 b 8).toNatClampNeg) fun x176 => xval (M.1 (b + 12) (M.1 b 8).toNatClampNeg) fun x177 => xval (M.1 (b + 14) (M.1 b 8).toNatClampNeg) fun x178 => if xin x176 64 = true then xlet (wI M (b + 38) x176.toNatClampNeg x175) fun M => f_N_scans_524 b (f_N_scans_90 b n) x177 x176 x178 M else none else none) else none else none else none else none)))
def f_N_scans (b : Nat) (M : xMem) : Option (Unit × xMem) :=
  (xbind (f_N_cuts b M) fun r180 M => xlet (wI M b 7 0) fun M => xlet (wI M b 4 (-1)) fun M => xlet (wI M b 8 0) fun M => xlet (wI M b 27 0) fun M => xlet (wI M b 28 (-1)) fun M => xlet (wI M b 29 0) fun M => xlet (wI M b 36 0) fun M => xlet (wI M b 41 0) fun M => xlet (wI M b 54 0) fun M => xlet (wI M b 55 0) fun M => xlet (wI M b 56 0) fun M => xlet (wI M b 57 0) fun M => xlet (wI M b 58 0) fun M => xlet (wI M b 59 0) fun M => xlet (wI M b 60 0) fun M => xbind (f_N_enters b 1 M) fun r182 M => xbind (f_N_lists b 1 0 M) fun r184 M => f_N_scans_90 b xFuel M)
set_option maxRecDepth 100000 in
set_option maxHeartbeats 400000 in
theorem s_N_scans_524 {p : Program} {l : Launch} {e : Env} {R : Room} {s : State} {m : MethodId} {args : Array Value} {below : List Frame} {meth : Method} {c : Code} {G : xG} {Y : xY} {sz : Nat} {b : Nat}  (hc : xC p s m args meth c G 4 c_N_scans y_N_scans.cls none) (hR : xRm R 5) (hb : xMd Y b) {k90 : xMem → Option (Unit × xMem)} {M' : xMem} {r : Unit} (hk90 : ∀  (M : xMem), k90 M = some (r, M') → xW p l e R s m args below meth c G 4 (MQ below (xQc G none (xo G Y M') sz) args s 0 0 (xA G)) (xo G Y M) sz 0 0 90 [some (.ref b), none, none, none] []) (v1 : Int32) (v2 : Int32) (v3 : Int32) (M : xMem) (hf : f_N_scans_524 b k90 v1 v2 v3 M = some (r, M')) : xW p l e R s m args below meth c G 4 (MQ below (xQc G none (xo G Y M') sz) args s 0 0 (xA G)) (xo G Y M) sz 0 0 524 [some (.ref b), some (.int v1), some (.int v2), some (.int v3)] [] := by
  unfold f_N_scans_524 at hf
  refine x_goto hc (tgt := 90) (xd dk_N_scans 268 rfl) rfl ?_
  refine x_drop 1 ?_
  refine x_drop 2 ?_
  refine x_drop 3 ?_
  exact hk90 M hf
set_option maxRecDepth 100000 in
set_option maxHeartbeats 400000 in
theorem s_N_scans_400 {p : Program} {l : Launch} {e : Env} {R : Room} {s : State} {m : MethodId} {args : Array Value} {below : List Frame} {meth : Method} {c : Code} {G : xG} {Y : xY} {sz : Nat} {b : Nat}  (hc : xC p s m args meth c G 4 c_N_scans y_N_scans.cls none) (hR : xRm R 5) (hb : xMd Y b) {k90 : xMem → Option (Unit × xMem)} {M' : xMem} {r : Unit} (hk90 : ∀  (M : xMem), k90 M = some (r, M') → xW p l e R s m args below meth c G 4 (MQ below (xQc G none (xo G Y M') sz) args s 0 0 (xA G)) (xo G Y M) sz 0 0 90 [some (.ref b), none, none, none] []) (v1 : Int32) (v2 : Int32) (v3 : Int32) (M : xMem) (hf : f_N_scans_400 b k90 v1 v2 v3 M = some (r, M')) : xW p l e R s m args below meth c G 4 (MQ below (xQc G none (xo G Y M') sz) args s 0 0 (xA G)) (xo G Y M) sz 0 0 400 [some (.ref b), some (.int v1), some (.int v2), some (.int v3)] [] := by
  unfold f_N_scans_400 at hf
  refine x_aload_n hc (xd dk_N_scans 195 rfl) rfl rfl ?_
  refine x_dup hc (xd dk_N_scans 196 rfl) rfl ?_
  refine x_get hc (ci := 10) (k := 7) fi_N (c_N hb _) rfl (by decide) rfl xw1150 rfl (xd dk_N_scans 197 rfl) ?_
  refine x_iconst hc (v := 1) (xd dk_N_scans 198 rfl) (by decide) ?_
  refine x_iadd hc (xd dk_N_scans 199 rfl) ?_
  obtain ⟨x62, hx62, hf⟩ := xval_ex hf
  rw [← hx62]
  refine x_put hc (ci := 10) (k := 7) fi_N ft_N ft_N_ok fn_N (c_N hb _) rfl (by decide) rfl xw1150 rfl rfl rfl (Nat.le_of_ble_eq_true rfl) (xd dk_N_scans 200 rfl) ?_
  rw [w_N_7 hb]
  replace hf := xlet_some hf
  generalize wI M b 7 x62 = M at hf ⊢
  refine x_aload_n hc (xd dk_N_scans 201 rfl) rfl rfl ?_
  refine x_bipush hc (v := 6) (xd dk_N_scans 202 rfl) (by decide) ?_
  refine x_iload_n hc (xd dk_N_scans 203 rfl) rfl rfl ?_
  refine x_iconst hc (v := 0) (xd dk_N_scans 204 rfl) (by decide) ?_
  refine x_iconst hc (v := 0) (xd dk_N_scans 205 rfl) (by decide) ?_
  obtain ⟨r63, M, e64, hf⟩ := xbind_some hf
  refine x_callV hc (As := [.int 6, .int v1, .int 0, .int 0]) (n := 4) (s_N_push hb e64) (c_N hb _) rfl (hR.call (by decide) (by decide)) ⟨by decide, by decide, by decide⟩ rfl rfl xw1078 xw18 xw1075 xw1077 xs_N_push (Nat.le_of_ble_eq_true rfl) ⟨Nat.zero_le _, Nat.zero_le _⟩ (xd dk_N_scans 206 rfl) ?_
  refine x_aload_n hc (xd dk_N_scans 207 rfl) rfl rfl ?_
  refine x_bipush hc (v := 7) (xd dk_N_scans 208 rfl) (by decide) ?_
  refine x_iload_n hc (xd dk_N_scans 209 rfl) rfl rfl ?_
  refine x_iconst hc (v := 0) (xd dk_N_scans 210 rfl) (by decide) ?_
  refine x_iconst hc (v := 0) (xd dk_N_scans 211 rfl) (by decide) ?_
  obtain ⟨r65, M, e66, hf⟩ := xbind_some hf
  refine x_callV hc (As := [.int 7, .int v1, .int 0, .int 0]) (n := 4) (s_N_push hb e66) (c_N hb _) rfl (hR.call (by decide) (by decide)) ⟨by decide, by decide, by decide⟩ rfl rfl xw1078 xw18 xw1075 xw1077 xs_N_push (Nat.le_of_ble_eq_true rfl) ⟨Nat.zero_le _, Nat.zero_le _⟩ (xd dk_N_scans 212 rfl) ?_
  refine x_goto hc (tgt := 524) (xd dk_N_scans 213 rfl) rfl ?_
  exact s_N_scans_524 hc hR hb hk90 v1 v2 v3 M hf
set_option maxRecDepth 100000 in
set_option maxHeartbeats 400000 in
theorem s_N_scans_363 {p : Program} {l : Launch} {e : Env} {R : Room} {s : State} {m : MethodId} {args : Array Value} {below : List Frame} {meth : Method} {c : Code} {G : xG} {Y : xY} {sz : Nat} {b : Nat}  (hc : xC p s m args meth c G 4 c_N_scans y_N_scans.cls none) (hR : xRm R 5) (hb : xMd Y b) {k90 : xMem → Option (Unit × xMem)} {M' : xMem} {r : Unit} (hk90 : ∀  (M : xMem), k90 M = some (r, M') → xW p l e R s m args below meth c G 4 (MQ below (xQc G none (xo G Y M') sz) args s 0 0 (xA G)) (xo G Y M) sz 0 0 90 [some (.ref b), none, none, none] []) (v1 : Int32) (v2 : Int32) (v3 : Int32) (M : xMem) (hf : f_N_scans_363 b k90 v1 v2 v3 M = some (r, M')) : xW p l e R s m args below meth c G 4 (MQ below (xQc G none (xo G Y M') sz) args s 0 0 (xA G)) (xo G Y M) sz 0 0 363 [some (.ref b), some (.int v1), some (.int v2), some (.int v3)] [] := by
  unfold f_N_scans_363 at hf
  refine x_aload_n hc (xd dk_N_scans 175 rfl) rfl rfl ?_
  refine x_bipush hc (v := 13) (xd dk_N_scans 176 rfl) (by decide) ?_
  obtain ⟨r67, M, e68, hf⟩ := xbind_some hf
  refine x_callV hc (As := [.int 13]) (n := 1) (s_N_is hb e68) (c_N hb _) rfl (hR.call (by decide) (by decide)) ⟨by decide, by decide, by decide⟩ rfl rfl xw1082 xw18 xw1079 xw1081 xs_N_is (Nat.le_of_ble_eq_true rfl) ⟨Nat.zero_le _, Nat.zero_le _⟩ (xd dk_N_scans 177 rfl) ?_
  refine x_if_eq hc (tgt := 400) (xd dk_N_scans 178 rfl) rfl (fun q69 => ?_) (fun q69 => ?_)
  · rw [if_pos q69] at hf
    exact s_N_scans_400 hc hR hb hk90 v1 v2 v3 M hf
  · rw [if_neg q69] at hf
    refine x_aload_n hc (xd dk_N_scans 179 rfl) rfl rfl ?_
    refine x_get hc (ci := 10) (k := 44) fi_N (c_N hb _) rfl (by decide) rfl xw1187 rfl (xd dk_N_scans 180 rfl) ?_
    refine x_aload_n hc (xd dk_N_scans 181 rfl) rfl rfl ?_
    refine x_get hc (ci := 10) (k := 56) fi_N (c_N hb _) rfl (by decide) rfl xw1199 rfl (xd dk_N_scans 182 rfl) ?_
    refine x_aload_n hc (xd dk_N_scans 183 rfl) rfl rfl ?_
    refine x_get hc (ci := 10) (k := 18) fi_N (c_N hb _) rfl (by decide) rfl xw1161 rfl (xd dk_N_scans 184 rfl) ?_
    refine x_aload_n hc (xd dk_N_scans 185 rfl) rfl rfl ?_
    refine x_get hc (ci := 10) (k := 7) fi_N (c_N hb _) rfl (by decide) rfl xw1150 rfl (xd dk_N_scans 186 rfl) ?_
    by_cases q70 : xin (M.1 b 7) 64 = true
    case neg => rw [if_neg q70] at hf; cases hf
    rw [if_pos q70] at hf
    refine x_iald hc (cA (xMd.ar hb 9 (by decide) rfl)) (xin_in q70) (xd dk_N_scans 187 rfl) ?_
    obtain ⟨x71, hx71, hf⟩ := xval_ex hf
    rw [← hx71]
    obtain ⟨x72, hx72, hf⟩ := xval_ex hf
    rw [← hx72]
    by_cases q73 : xin x72 64 = true
    case neg => rw [if_neg q73] at hf; cases hf
    rw [if_pos q73] at hf
    refine x_iast hc (cA (xMd.ar hb 30 (by decide) rfl)) (xin_in q73) (xd dk_N_scans 188 rfl) ?_
    rw [wA (xMd.ar hb 30 (by decide) rfl)]
    replace hf := xlet_some hf
    generalize wI M (b + 30) x72.toNatClampNeg x71 = M at hf ⊢
    refine x_aload_n hc (xd dk_N_scans 189 rfl) rfl rfl ?_
    refine x_dup hc (xd dk_N_scans 190 rfl) rfl ?_
    refine x_get hc (ci := 10) (k := 56) fi_N (c_N hb _) rfl (by decide) rfl xw1199 rfl (xd dk_N_scans 191 rfl) ?_
    refine x_iconst hc (v := 1) (xd dk_N_scans 192 rfl) (by decide) ?_
    refine x_iadd hc (xd dk_N_scans 193 rfl) ?_
    obtain ⟨x74, hx74, hf⟩ := xval_ex hf
    rw [← hx74]
    refine x_put hc (ci := 10) (k := 56) fi_N ft_N ft_N_ok fn_N (c_N hb _) rfl (by decide) rfl xw1199 rfl rfl rfl (Nat.le_of_ble_eq_true rfl) (xd dk_N_scans 194 rfl) ?_
    rw [w_N_56 hb]
    replace hf := xlet_some hf
    generalize wI M b 56 x74 = M at hf ⊢
    exact s_N_scans_400 hc hR hb hk90 v1 v2 v3 M hf
set_option maxRecDepth 100000 in
set_option maxHeartbeats 400000 in
theorem s_N_scans_527 {p : Program} {l : Launch} {e : Env} {R : Room} {s : State} {m : MethodId} {args : Array Value} {below : List Frame} {meth : Method} {c : Code} {G : xG} {Y : xY} {sz : Nat} {b : Nat}  (hc : xC p s m args meth c G 4 c_N_scans y_N_scans.cls none) (hR : xRm R 5) (hb : xMd Y b) {M' : xMem} {r : Unit} (M : xMem) (hf : f_N_scans_527 b M = some (r, M')) : xW p l e R s m args below meth c G 4 (MQ below (xQc G none (xo G Y M') sz) args s 0 0 (xA G)) (xo G Y M) sz 0 0 527 [some (.ref b), none, none, none] [] := by
  unfold f_N_scans_527 at hf
  refine x_aload_n hc (xd dk_N_scans 269 rfl) rfl rfl ?_
  refine x_get hc (ci := 10) (k := 4) fi_N (c_N hb _) rfl (by decide) rfl xw1147 rfl (xd dk_N_scans 270 rfl) ?_
  refine x_if_ge hc (tgt := 538) (xd dk_N_scans 271 rfl) rfl (fun q75 => ?_) (fun q75 => ?_)
  · rw [if_pos q75] at hf
    cases hf
    exact x_return hc (xd dk_N_scans 274 rfl)
  · rw [if_neg q75] at hf
    refine x_aload_n hc (xd dk_N_scans 272 rfl) rfl rfl ?_
    obtain ⟨r76, M, e77, hf⟩ := xbind_some hf
    refine x_callV hc (As := []) (n := 0) (s_N_belongs hb e77) (c_N hb _) rfl (hR.call (by decide) (by decide)) ⟨by decide, by decide, by decide⟩ rfl rfl xw1138 xw18 xw1135 xw1137 xs_N_belongs (Nat.le_of_ble_eq_true rfl) ⟨Nat.zero_le _, Nat.zero_le _⟩ (xd dk_N_scans 273 rfl) ?_
    cases hf
    exact x_return hc (xd dk_N_scans 274 rfl)
set_option maxRecDepth 100000 in
set_option maxHeartbeats 400000 in
theorem s_N_scans_90 {p : Program} {l : Launch} {e : Env} {R : Room} {s : State} {m : MethodId} {args : Array Value} {below : List Frame} {meth : Method} {c : Code} {G : xG} {Y : xY} {sz : Nat} {b : Nat}  (hc : xC p s m args meth c G 4 c_N_scans y_N_scans.cls none) (hR : xRm R 5) (hb : xMd Y b) {M' : xMem} {r : Unit} : ∀ (n : Nat) (M : xMem), f_N_scans_90 b n M = some (r, M') → xW p l e R s m args below meth c G 4 (MQ below (xQc G none (xo G Y M') sz) args s 0 0 (xA G)) (xo G Y M) sz 0 0 90 [some (.ref b), none, none, none] [] := by
  intro n
  induction n with
  | zero => intro M hf; simp only [f_N_scans_90] at hf; cases hf
  | succ n ih =>
    intro M hf
    simp only [f_N_scans_90] at hf
    refine x_aload_n hc (xd dk_N_scans 54 rfl) rfl rfl ?_
    refine x_get hc (ci := 10) (k := 8) fi_N (c_N hb _) rfl (by decide) rfl xw1151 rfl (xd dk_N_scans 55 rfl) ?_
    refine x_if_le hc (tgt := 527) (xd dk_N_scans 56 rfl) rfl (fun q78 => ?_) (fun q78 => ?_)
    · rw [if_pos q78] at hf
      exact s_N_scans_527 hc hR hb M hf
    · rw [if_neg q78] at hf
      refine x_aload_n hc (xd dk_N_scans 57 rfl) rfl rfl ?_
      refine x_get hc (ci := 10) (k := 4) fi_N (c_N hb _) rfl (by decide) rfl xw1147 rfl (xd dk_N_scans 58 rfl) ?_
      refine x_if_ge hc (tgt := 527) (xd dk_N_scans 59 rfl) rfl (fun q79 => ?_) (fun q79 => ?_)
      · rw [if_pos q79] at hf
        exact s_N_scans_527 hc hR hb M hf
      · rw [if_neg q79] at hf
        refine x_aload_n hc (xd dk_N_scans 60 rfl) rfl rfl ?_
        refine x_dup hc (xd dk_N_scans 61 rfl) rfl ?_
        refine x_get hc (ci := 10) (k := 8) fi_N (c_N hb _) rfl (by decide) rfl xw1151 rfl (xd dk_N_scans 62 rfl) ?_
        refine x_iconst hc (v := 1) (xd dk_N_scans 63 rfl) (by decide) ?_
        refine x_isub hc (xd dk_N_scans 64 rfl) ?_
        obtain ⟨x80, hx80, hf⟩ := xval_ex hf
        rw [← hx80]
        refine x_put hc (ci := 10) (k := 8) fi_N ft_N ft_N_ok fn_N (c_N hb _) rfl (by decide) rfl xw1151 rfl rfl rfl (Nat.le_of_ble_eq_true rfl) (xd dk_N_scans 65 rfl) ?_
        rw [w_N_8 hb]
        replace hf := xlet_some hf
        generalize wI M b 8 x80 = M at hf ⊢
        refine x_aload_n hc (xd dk_N_scans 66 rfl) rfl rfl ?_
        refine x_get hc (ci := 10) (k := 21) fi_N (c_N hb _) rfl (by decide) rfl xw1164 rfl (xd dk_N_scans 67 rfl) ?_
        refine x_aload_n hc (xd dk_N_scans 68 rfl) rfl rfl ?_
        refine x_get hc (ci := 10) (k := 8) fi_N (c_N hb _) rfl (by decide) rfl xw1151 rfl (xd dk_N_scans 69 rfl) ?_
        by_cases q81 : xin (M.1 b 8) 300 = true
        case neg => rw [if_neg q81] at hf; cases hf
        rw [if_pos q81] at hf
        refine x_iald hc (cA (xMd.ar hb 12 (by decide) rfl)) (xin_in q81) (xd dk_N_scans 70 rfl) ?_
        refine x_istore_n hc (xd dk_N_scans 71 rfl) (by decide) rfl ?_
        refine x_aload_n hc (xd dk_N_scans 72 rfl) rfl rfl ?_
        refine x_get hc (ci := 10) (k := 22) fi_N (c_N hb _) rfl (by decide) rfl xw1165 rfl (xd dk_N_scans 73 rfl) ?_
        refine x_aload_n hc (xd dk_N_scans 74 rfl) rfl rfl ?_
        refine x_get hc (ci := 10) (k := 8) fi_N (c_N hb _) rfl (by decide) rfl xw1151 rfl (xd dk_N_scans 75 rfl) ?_
        by_cases q82 : xin (M.1 b 8) 300 = true
        case neg => rw [if_neg q82] at hf; cases hf
        rw [if_pos q82] at hf
        refine x_iald hc (cA (xMd.ar hb 13 (by decide) rfl)) (xin_in q82) (xd dk_N_scans 76 rfl) ?_
        refine x_istore_n hc (xd dk_N_scans 77 rfl) (by decide) rfl ?_
        refine x_aload_n hc (xd dk_N_scans 78 rfl) rfl rfl ?_
        refine x_get hc (ci := 10) (k := 23) fi_N (c_N hb _) rfl (by decide) rfl xw1166 rfl (xd dk_N_scans 79 rfl) ?_
        refine x_aload_n hc (xd dk_N_scans 80 rfl) rfl rfl ?_
        refine x_get hc (ci := 10) (k := 8) fi_N (c_N hb _) rfl (by decide) rfl xw1151 rfl (xd dk_N_scans 81 rfl) ?_
        by_cases q83 : xin (M.1 b 8) 300 = true
        case neg => rw [if_neg q83] at hf; cases hf
        rw [if_pos q83] at hf
        refine x_iald hc (cA (xMd.ar hb 14 (by decide) rfl)) (xin_in q83) (xd dk_N_scans 82 rfl) ?_
        refine x_istore_n hc (xd dk_N_scans 83 rfl) (by decide) rfl ?_
        refine x_aload_n hc (xd dk_N_scans 84 rfl) rfl rfl ?_
        refine x_get hc (ci := 10) (k := 20) fi_N (c_N hb _) rfl (by decide) rfl xw1163 rfl (xd dk_N_scans 85 rfl) ?_
        refine x_aload_n hc (xd dk_N_scans 86 rfl) rfl rfl ?_
        refine x_get hc (ci := 10) (k := 8) fi_N (c_N hb _) rfl (by decide) rfl xw1151 rfl (xd dk_N_scans 87 rfl) ?_
        by_cases q84 : xin (M.1 b 8) 300 = true
        case neg => rw [if_neg q84] at hf; cases hf
        rw [if_pos q84] at hf
        refine x_iald hc (cA (xMd.ar hb 11 (by decide) rfl)) (xin_in q84) (xd dk_N_scans 88 rfl) ?_
        by_cases q85 : M.1 (b + 11) (M.1 b 8).toNatClampNeg = 1
        case pos =>
          rw [if_pos q85] at hf
          refine x_tableIn hc (off := 51) (tgt := 204) (xd dk_N_scans 89 rfl) (by rw [q85]; decide) (by rw [q85]; decide) (by rw [q85]; rfl) rfl ?_
          refine x_aload_n hc (xd dk_N_scans 90 rfl) rfl rfl ?_
          refine x_iload_n hc (xd dk_N_scans 91 rfl) rfl rfl ?_
          obtain ⟨x86, hx86, hf⟩ := xval_ex hf
          rw [← hx86]
          obtain ⟨x87, hx87, hf⟩ := xval_ex hf
          rw [← hx87]
          obtain ⟨x88, hx88, hf⟩ := xval_ex hf
          rw [← hx88]
          obtain ⟨r89, M, e90, hf⟩ := xbind_some hf
          refine x_callV hc (As := [.int x86]) (n := 1) (s_N_is hb e90) (c_N hb _) rfl (hR.call (by decide) (by decide)) ⟨by decide, by decide, by decide⟩ rfl rfl xw1082 xw18 xw1079 xw1081 xs_N_is (Nat.le_of_ble_eq_true rfl) ⟨Nat.zero_le _, Nat.zero_le _⟩ (xd dk_N_scans 92 rfl) ?_
          refine x_if_ne hc (tgt := 231) (xd dk_N_scans 93 rfl) rfl (fun q91 => ?_) (fun q91 => ?_)
          · rw [if_neg q91] at hf
            refine x_iload_n hc (xd dk_N_scans 107 rfl) rfl rfl ?_
            refine x_bipush hc (v := 23) (xd dk_N_scans 108 rfl) (by decide) ?_
            refine x_icmp_ne hc (tgt := 524) (xd dk_N_scans 109 rfl) rfl (fun q92 => ?_) (fun q92 => ?_)
            · rw [if_neg q92] at hf
              exact s_N_scans_524 hc hR hb ih x87 x86 x88 M hf
            · rw [if_pos q92] at hf
              refine x_aload_n hc (xd dk_N_scans 110 rfl) rfl rfl ?_
              refine x_dup hc (xd dk_N_scans 111 rfl) rfl ?_
              refine x_get hc (ci := 10) (k := 7) fi_N (c_N hb _) rfl (by decide) rfl xw1150 rfl (xd dk_N_scans 112 rfl) ?_
              refine x_iconst hc (v := 1) (xd dk_N_scans 113 rfl) (by decide) ?_
              refine x_iadd hc (xd dk_N_scans 114 rfl) ?_
              obtain ⟨x93, hx93, hf⟩ := xval_ex hf
              rw [← hx93]
              refine x_put hc (ci := 10) (k := 7) fi_N ft_N ft_N_ok fn_N (c_N hb _) rfl (by decide) rfl xw1150 rfl rfl rfl (Nat.le_of_ble_eq_true rfl) (xd dk_N_scans 115 rfl) ?_
              rw [w_N_7 hb]
              replace hf := xlet_some hf
              generalize wI M b 7 x93 = M at hf ⊢
              refine x_goto hc (tgt := 524) (xd dk_N_scans 116 rfl) rfl ?_
              exact s_N_scans_524 hc hR hb ih x87 x86 x88 M hf
          · rw [if_pos q91] at hf
            refine x_aload_n hc (xd dk_N_scans 94 rfl) rfl rfl ?_
            refine x_iconst hc (v := 1) (xd dk_N_scans 95 rfl) (by decide) ?_
            refine x_iload_n hc (xd dk_N_scans 96 rfl) rfl rfl ?_
            refine x_iload_n hc (xd dk_N_scans 97 rfl) rfl rfl ?_
            refine x_iload_n hc (xd dk_N_scans 98 rfl) rfl rfl ?_
            obtain ⟨r94, M, e95, hf⟩ := xbind_some hf
            refine x_callV hc (As := [.int 1, .int x87, .int x86, .int x88]) (n := 4) (s_N_push hb e95) (c_N hb _) rfl (hR.call (by decide) (by decide)) ⟨by decide, by decide, by decide⟩ rfl rfl xw1078 xw18 xw1075 xw1077 xs_N_push (Nat.le_of_ble_eq_true rfl) ⟨Nat.zero_le _, Nat.zero_le _⟩ (xd dk_N_scans 99 rfl) ?_
            refine x_aload_n hc (xd dk_N_scans 100 rfl) rfl rfl ?_
            refine x_iconst hc (v := 2) (xd dk_N_scans 101 rfl) (by decide) ?_
            refine x_iload_n hc (xd dk_N_scans 102 rfl) rfl rfl ?_
            refine x_iload_n hc (xd dk_N_scans 103 rfl) rfl rfl ?_
            refine x_iconst hc (v := 0) (xd dk_N_scans 104 rfl) (by decide) ?_
            obtain ⟨r96, M, e97, hf⟩ := xbind_some hf
            refine x_callV hc (As := [.int 2, .int x87, .int x88, .int 0]) (n := 4) (s_N_push hb e97) (c_N hb _) rfl (hR.call (by decide) (by decide)) ⟨by decide, by decide, by decide⟩ rfl rfl xw1078 xw18 xw1075 xw1077 xs_N_push (Nat.le_of_ble_eq_true rfl) ⟨Nat.zero_le _, Nat.zero_le _⟩ (xd dk_N_scans 105 rfl) ?_
            refine x_goto hc (tgt := 524) (xd dk_N_scans 106 rfl) rfl ?_
            exact s_N_scans_524 hc hR hb ih x87 x86 x88 M hf
        rw [if_neg q85] at hf
        by_cases q98 : M.1 (b + 11) (M.1 b 8).toNatClampNeg = 2
        case pos =>
          rw [if_pos q98] at hf
          refine x_tableIn hc (off := 97) (tgt := 250) (xd dk_N_scans 89 rfl) (by rw [q98]; decide) (by rw [q98]; decide) (by rw [q98]; rfl) rfl ?_
          refine x_aload_n hc (xd dk_N_scans 117 rfl) rfl rfl ?_
          refine x_iload_n hc (xd dk_N_scans 118 rfl) rfl rfl ?_
          refine x_iload_n hc (xd dk_N_scans 119 rfl) rfl rfl ?_
          refine x_iload_n hc (xd dk_N_scans 120 rfl) rfl rfl ?_
          obtain ⟨x99, hx99, hf⟩ := xval_ex hf
          rw [← hx99]
          obtain ⟨x100, hx100, hf⟩ := xval_ex hf
          rw [← hx100]
          obtain ⟨x101, hx101, hf⟩ := xval_ex hf
          rw [← hx101]
          obtain ⟨r102, M, e103, hf⟩ := xbind_some hf
          refine x_callV hc (As := [.int x100, .int x99, .int x101]) (n := 3) (s_N_statement hb e103) (c_N hb _) rfl (hR.call (by decide) (by decide)) ⟨by decide, by decide, by decide⟩ rfl rfl xw1086 xw18 xw1083 xw1085 xs_N_statement (Nat.le_of_ble_eq_true rfl) ⟨Nat.zero_le _, Nat.zero_le _⟩ (xd dk_N_scans 121 rfl) ?_
          refine x_goto hc (tgt := 524) (xd dk_N_scans 122 rfl) rfl ?_
          exact s_N_scans_524 hc hR hb ih x100 x99 x101 M hf
        rw [if_neg q98] at hf
        by_cases q104 : M.1 (b + 11) (M.1 b 8).toNatClampNeg = 3
        case pos =>
          rw [if_pos q104] at hf
          refine x_tableIn hc (off := 107) (tgt := 260) (xd dk_N_scans 89 rfl) (by rw [q104]; decide) (by rw [q104]; decide) (by rw [q104]; rfl) rfl ?_
          refine x_aload_n hc (xd dk_N_scans 123 rfl) rfl rfl ?_
          refine x_bipush hc (v := 9) (xd dk_N_scans 124 rfl) (by decide) ?_
          obtain ⟨x105, hx105, hf⟩ := xval_ex hf
          rw [← hx105]
          obtain ⟨x106, hx106, hf⟩ := xval_ex hf
          rw [← hx106]
          obtain ⟨x107, hx107, hf⟩ := xval_ex hf
          rw [← hx107]
          obtain ⟨r108, M, e109, hf⟩ := xbind_some hf
          refine x_callV hc (As := [.int 9]) (n := 1) (s_N_is hb e109) (c_N hb _) rfl (hR.call (by decide) (by decide)) ⟨by decide, by decide, by decide⟩ rfl rfl xw1082 xw18 xw1079 xw1081 xs_N_is (Nat.le_of_ble_eq_true rfl) ⟨Nat.zero_le _, Nat.zero_le _⟩ (xd dk_N_scans 125 rfl) ?_
          refine x_if_eq hc (tgt := 524) (xd dk_N_scans 126 rfl) rfl (fun q110 => ?_) (fun q110 => ?_)
          · rw [if_pos q110] at hf
            exact s_N_scans_524 hc hR hb ih x106 x105 x107 M hf
          · rw [if_neg q110] at hf
            refine x_aload_n hc (xd dk_N_scans 127 rfl) rfl rfl ?_
            refine x_dup hc (xd dk_N_scans 128 rfl) rfl ?_
            refine x_get hc (ci := 10) (k := 7) fi_N (c_N hb _) rfl (by decide) rfl xw1150 rfl (xd dk_N_scans 129 rfl) ?_
            refine x_iconst hc (v := 1) (xd dk_N_scans 130 rfl) (by decide) ?_
            refine x_iadd hc (xd dk_N_scans 131 rfl) ?_
            obtain ⟨x111, hx111, hf⟩ := xval_ex hf
            rw [← hx111]
            refine x_put hc (ci := 10) (k := 7) fi_N ft_N ft_N_ok fn_N (c_N hb _) rfl (by decide) rfl xw1150 rfl rfl rfl (Nat.le_of_ble_eq_true rfl) (xd dk_N_scans 132 rfl) ?_
            rw [w_N_7 hb]
            replace hf := xlet_some hf
            generalize wI M b 7 x111 = M at hf ⊢
            refine x_aload_n hc (xd dk_N_scans 133 rfl) rfl rfl ?_
            refine x_iconst hc (v := 2) (xd dk_N_scans 134 rfl) (by decide) ?_
            refine x_iload_n hc (xd dk_N_scans 135 rfl) rfl rfl ?_
            refine x_iconst hc (v := 1) (xd dk_N_scans 136 rfl) (by decide) ?_
            refine x_iadd hc (xd dk_N_scans 137 rfl) ?_
            refine x_iconst hc (v := (-1)) (xd dk_N_scans 138 rfl) (by decide) ?_
            refine x_iconst hc (v := 1) (xd dk_N_scans 139 rfl) (by decide) ?_
            obtain ⟨r112, M, e113, hf⟩ := xbind_some hf
            refine x_callV hc (As := [.int 2, .int ((x106 + 1)), .int ((-1)), .int 1]) (n := 4) (s_N_push hb e113) (c_N hb _) rfl (hR.call (by decide) (by decide)) ⟨by decide, by decide, by decide⟩ rfl rfl xw1078 xw18 xw1075 xw1077 xs_N_push (Nat.le_of_ble_eq_true rfl) ⟨Nat.zero_le _, Nat.zero_le _⟩ (xd dk_N_scans 140 rfl) ?_
            refine x_goto hc (tgt := 524) (xd dk_N_scans 141 rfl) rfl ?_
            exact s_N_scans_524 hc hR hb ih x106 x105 x107 M hf
        rw [if_neg q104] at hf
        by_cases q114 : M.1 (b + 11) (M.1 b 8).toNatClampNeg = 4
        case pos =>
          rw [if_pos q114] at hf
          refine x_tableIn hc (off := 139) (tgt := 292) (xd dk_N_scans 89 rfl) (by rw [q114]; decide) (by rw [q114]; decide) (by rw [q114]; rfl) rfl ?_
          refine x_aload_n hc (xd dk_N_scans 142 rfl) rfl rfl ?_
          refine x_iload_n hc (xd dk_N_scans 143 rfl) rfl rfl ?_
          obtain ⟨x115, hx115, hf⟩ := xval_ex hf
          rw [← hx115]
          obtain ⟨x116, hx116, hf⟩ := xval_ex hf
          rw [← hx116]
          obtain ⟨x117, hx117, hf⟩ := xval_ex hf
          rw [← hx117]
          obtain ⟨r118, M, e119, hf⟩ := xbind_some hf
          refine x_callV hc (As := [.int x115]) (n := 1) (s_N_takes hb e119) (c_N hb _) rfl (hR.call (by decide) (by decide)) ⟨by decide, by decide, by decide⟩ rfl rfl xw1102 xw18 xw1099 xw1101 xs_N_takes (Nat.le_of_ble_eq_true rfl) ⟨Nat.zero_le _, Nat.zero_le _⟩ (xd dk_N_scans 144 rfl) ?_
          refine x_goto hc (tgt := 524) (xd dk_N_scans 145 rfl) rfl ?_
          exact s_N_scans_524 hc hR hb ih x116 x115 x117 M hf
        rw [if_neg q114] at hf
        by_cases q120 : M.1 (b + 11) (M.1 b 8).toNatClampNeg = 5
        case pos =>
          rw [if_pos q120] at hf
          refine x_tableIn hc (off := 147) (tgt := 300) (xd dk_N_scans 89 rfl) (by rw [q120]; decide) (by rw [q120]; decide) (by rw [q120]; rfl) rfl ?_
          refine x_aload_n hc (xd dk_N_scans 146 rfl) rfl rfl ?_
          refine x_iload_n hc (xd dk_N_scans 147 rfl) rfl rfl ?_
          refine x_iload_n hc (xd dk_N_scans 148 rfl) rfl rfl ?_
          obtain ⟨x121, hx121, hf⟩ := xval_ex hf
          rw [← hx121]
          obtain ⟨x122, hx122, hf⟩ := xval_ex hf
          rw [← hx122]
          obtain ⟨x123, hx123, hf⟩ := xval_ex hf
          rw [← hx123]
          obtain ⟨r124, M, e125, hf⟩ := xbind_some hf
          refine x_callV hc (As := [.int x122, .int x121]) (n := 2) (s_N_value hb e125) (c_N hb _) rfl (hR.call (by decide) (by decide)) ⟨by decide, by decide, by decide⟩ rfl rfl xw1126 xw18 xw1123 xw1125 xs_N_value (Nat.le_of_ble_eq_true rfl) ⟨Nat.zero_le _, Nat.zero_le _⟩ (xd dk_N_scans 149 rfl) ?_
          refine x_goto hc (tgt := 524) (xd dk_N_scans 150 rfl) rfl ?_
          exact s_N_scans_524 hc hR hb ih x122 x121 x123 M hf
        rw [if_neg q120] at hf
        by_cases q126 : M.1 (b + 11) (M.1 b 8).toNatClampNeg = 6
        case pos =>
          rw [if_pos q126] at hf
          refine x_tableIn hc (off := 156) (tgt := 309) (xd dk_N_scans 89 rfl) (by rw [q126]; decide) (by rw [q126]; decide) (by rw [q126]; rfl) rfl ?_
          refine x_aload_n hc (xd dk_N_scans 151 rfl) rfl rfl ?_
          refine x_bipush hc (v := 12) (xd dk_N_scans 152 rfl) (by decide) ?_
          obtain ⟨x127, hx127, hf⟩ := xval_ex hf
          rw [← hx127]
          obtain ⟨x128, hx128, hf⟩ := xval_ex hf
          rw [← hx128]
          obtain ⟨x129, hx129, hf⟩ := xval_ex hf
          rw [← hx129]
          obtain ⟨r130, M, e131, hf⟩ := xbind_some hf
          refine x_callV hc (As := [.int 12]) (n := 1) (s_N_is hb e131) (c_N hb _) rfl (hR.call (by decide) (by decide)) ⟨by decide, by decide, by decide⟩ rfl rfl xw1082 xw18 xw1079 xw1081 xs_N_is (Nat.le_of_ble_eq_true rfl) ⟨Nat.zero_le _, Nat.zero_le _⟩ (xd dk_N_scans 153 rfl) ?_
          refine x_if_ne hc (tgt := 363) (xd dk_N_scans 154 rfl) rfl (fun q132 => ?_) (fun q132 => ?_)
          · rw [if_neg q132] at hf
            exact s_N_scans_363 hc hR hb ih x128 x127 x129 M hf
          · rw [if_pos q132] at hf
            refine x_aload_n hc (xd dk_N_scans 155 rfl) rfl rfl ?_
            refine x_bipush hc (v := 13) (xd dk_N_scans 156 rfl) (by decide) ?_
            obtain ⟨r133, M, e134, hf⟩ := xbind_some hf
            refine x_callV hc (As := [.int 13]) (n := 1) (s_N_is hb e134) (c_N hb _) rfl (hR.call (by decide) (by decide)) ⟨by decide, by decide, by decide⟩ rfl rfl xw1082 xw18 xw1079 xw1081 xs_N_is (Nat.le_of_ble_eq_true rfl) ⟨Nat.zero_le _, Nat.zero_le _⟩ (xd dk_N_scans 157 rfl) ?_
            refine x_if_ne hc (tgt := 363) (xd dk_N_scans 158 rfl) rfl (fun q135 => ?_) (fun q135 => ?_)
            · rw [if_neg q135] at hf
              exact s_N_scans_363 hc hR hb ih x128 x127 x129 M hf
            · rw [if_pos q135] at hf
              refine x_aload_n hc (xd dk_N_scans 159 rfl) rfl rfl ?_
              refine x_bipush hc (v := 15) (xd dk_N_scans 160 rfl) (by decide) ?_
              obtain ⟨r136, M, e137, hf⟩ := xbind_some hf
              refine x_callV hc (As := [.int 15]) (n := 1) (s_N_is hb e137) (c_N hb _) rfl (hR.call (by decide) (by decide)) ⟨by decide, by decide, by decide⟩ rfl rfl xw1082 xw18 xw1079 xw1081 xs_N_is (Nat.le_of_ble_eq_true rfl) ⟨Nat.zero_le _, Nat.zero_le _⟩ (xd dk_N_scans 161 rfl) ?_
              refine x_if_ne hc (tgt := 363) (xd dk_N_scans 162 rfl) rfl (fun q138 => ?_) (fun q138 => ?_)
              · rw [if_neg q138] at hf
                exact s_N_scans_363 hc hR hb ih x128 x127 x129 M hf
              · rw [if_pos q138] at hf
                refine x_aload_n hc (xd dk_N_scans 163 rfl) rfl rfl ?_
                refine x_bipush hc (v := 16) (xd dk_N_scans 164 rfl) (by decide) ?_
                obtain ⟨r139, M, e140, hf⟩ := xbind_some hf
                refine x_callV hc (As := [.int 16]) (n := 1) (s_N_is hb e140) (c_N hb _) rfl (hR.call (by decide) (by decide)) ⟨by decide, by decide, by decide⟩ rfl rfl xw1082 xw18 xw1079 xw1081 xs_N_is (Nat.le_of_ble_eq_true rfl) ⟨Nat.zero_le _, Nat.zero_le _⟩ (xd dk_N_scans 165 rfl) ?_
                refine x_if_ne hc (tgt := 363) (xd dk_N_scans 166 rfl) rfl (fun q141 => ?_) (fun q141 => ?_)
                · rw [if_neg q141] at hf
                  exact s_N_scans_363 hc hR hb ih x128 x127 x129 M hf
                · rw [if_pos q141] at hf
                  refine x_aload_n hc (xd dk_N_scans 167 rfl) rfl rfl ?_
                  refine x_bipush hc (v := 17) (xd dk_N_scans 168 rfl) (by decide) ?_
                  obtain ⟨r142, M, e143, hf⟩ := xbind_some hf
                  refine x_callV hc (As := [.int 17]) (n := 1) (s_N_is hb e143) (c_N hb _) rfl (hR.call (by decide) (by decide)) ⟨by decide, by decide, by decide⟩ rfl rfl xw1082 xw18 xw1079 xw1081 xs_N_is (Nat.le_of_ble_eq_true rfl) ⟨Nat.zero_le _, Nat.zero_le _⟩ (xd dk_N_scans 169 rfl) ?_
                  refine x_if_ne hc (tgt := 363) (xd dk_N_scans 170 rfl) rfl (fun q144 => ?_) (fun q144 => ?_)
                  · rw [if_neg q144] at hf
                    exact s_N_scans_363 hc hR hb ih x128 x127 x129 M hf
                  · rw [if_pos q144] at hf
                    refine x_aload_n hc (xd dk_N_scans 171 rfl) rfl rfl ?_
                    refine x_bipush hc (v := 18) (xd dk_N_scans 172 rfl) (by decide) ?_
                    obtain ⟨r145, M, e146, hf⟩ := xbind_some hf
                    refine x_callV hc (As := [.int 18]) (n := 1) (s_N_is hb e146) (c_N hb _) rfl (hR.call (by decide) (by decide)) ⟨by decide, by decide, by decide⟩ rfl rfl xw1082 xw18 xw1079 xw1081 xs_N_is (Nat.le_of_ble_eq_true rfl) ⟨Nat.zero_le _, Nat.zero_le _⟩ (xd dk_N_scans 173 rfl) ?_
                    refine x_if_eq hc (tgt := 524) (xd dk_N_scans 174 rfl) rfl (fun q147 => ?_) (fun q147 => ?_)
                    · rw [if_pos q147] at hf
                      exact s_N_scans_524 hc hR hb ih x128 x127 x129 M hf
                    · rw [if_neg q147] at hf
                      exact s_N_scans_363 hc hR hb ih x128 x127 x129 M hf
        rw [if_neg q126] at hf
        by_cases q148 : M.1 (b + 11) (M.1 b 8).toNatClampNeg = 7
        case pos =>
          rw [if_pos q148] at hf
          refine x_tableIn hc (off := 278) (tgt := 431) (xd dk_N_scans 89 rfl) (by rw [q148]; decide) (by rw [q148]; decide) (by rw [q148]; rfl) rfl ?_
          refine x_aload_n hc (xd dk_N_scans 214 rfl) rfl rfl ?_
          refine x_iload_n hc (xd dk_N_scans 215 rfl) rfl rfl ?_
          obtain ⟨x149, hx149, hf⟩ := xval_ex hf
          rw [← hx149]
          obtain ⟨x150, hx150, hf⟩ := xval_ex hf
          rw [← hx150]
          obtain ⟨x151, hx151, hf⟩ := xval_ex hf
          rw [← hx151]
          obtain ⟨r152, M, e153, hf⟩ := xbind_some hf
          refine x_callV hc (As := [.int x150]) (n := 1) (s_N_part hb e153) (c_N hb _) rfl (hR.call (by decide) (by decide)) ⟨by decide, by decide, by decide⟩ rfl rfl xw1134 xw18 xw1131 xw1133 xs_N_part (Nat.le_of_ble_eq_true rfl) ⟨Nat.zero_le _, Nat.zero_le _⟩ (xd dk_N_scans 216 rfl) ?_
          refine x_goto hc (tgt := 524) (xd dk_N_scans 217 rfl) rfl ?_
          exact s_N_scans_524 hc hR hb ih x150 x149 x151 M hf
        rw [if_neg q148] at hf
        by_cases q154 : M.1 (b + 11) (M.1 b 8).toNatClampNeg = 8
        case pos =>
          rw [if_pos q154] at hf
          refine x_tableIn hc (off := 286) (tgt := 439) (xd dk_N_scans 89 rfl) (by rw [q154]; decide) (by rw [q154]; decide) (by rw [q154]; rfl) rfl ?_
          refine x_aload_n hc (xd dk_N_scans 218 rfl) rfl rfl ?_
          refine x_bipush hc (v := 25) (xd dk_N_scans 219 rfl) (by decide) ?_
          obtain ⟨x155, hx155, hf⟩ := xval_ex hf
          rw [← hx155]
          obtain ⟨x156, hx156, hf⟩ := xval_ex hf
          rw [← hx156]
          obtain ⟨x157, hx157, hf⟩ := xval_ex hf
          rw [← hx157]
          obtain ⟨r158, M, e159, hf⟩ := xbind_some hf
          refine x_callV hc (As := [.int 25]) (n := 1) (s_N_is hb e159) (c_N hb _) rfl (hR.call (by decide) (by decide)) ⟨by decide, by decide, by decide⟩ rfl rfl xw1082 xw18 xw1079 xw1081 xs_N_is (Nat.le_of_ble_eq_true rfl) ⟨Nat.zero_le _, Nat.zero_le _⟩ (xd dk_N_scans 220 rfl) ?_
          refine x_if_eq hc (tgt := 480) (xd dk_N_scans 221 rfl) rfl (fun q160 => ?_) (fun q160 => ?_)
          · rw [if_pos q160] at hf
            refine x_aload_n hc (xd dk_N_scans 243 rfl) rfl rfl ?_
            refine x_bipush hc (v := 21) (xd dk_N_scans 244 rfl) (by decide) ?_
            obtain ⟨r161, M, e162, hf⟩ := xbind_some hf
            refine x_callV hc (As := [.int 21]) (n := 1) (s_N_takes hb e162) (c_N hb _) rfl (hR.call (by decide) (by decide)) ⟨by decide, by decide, by decide⟩ rfl rfl xw1102 xw18 xw1099 xw1101 xs_N_takes (Nat.le_of_ble_eq_true rfl) ⟨Nat.zero_le _, Nat.zero_le _⟩ (xd dk_N_scans 245 rfl) ?_
            refine x_goto hc (tgt := 524) (xd dk_N_scans 246 rfl) rfl ?_
            exact s_N_scans_524 hc hR hb ih x156 x155 x157 M hf
          · rw [if_neg q160] at hf
            refine x_aload_n hc (xd dk_N_scans 222 rfl) rfl rfl ?_
            refine x_dup hc (xd dk_N_scans 223 rfl) rfl ?_
            refine x_get hc (ci := 10) (k := 7) fi_N (c_N hb _) rfl (by decide) rfl xw1150 rfl (xd dk_N_scans 224 rfl) ?_
            refine x_iconst hc (v := 1) (xd dk_N_scans 225 rfl) (by decide) ?_
            refine x_iadd hc (xd dk_N_scans 226 rfl) ?_
            obtain ⟨x163, hx163, hf⟩ := xval_ex hf
            rw [← hx163]
            refine x_put hc (ci := 10) (k := 7) fi_N ft_N ft_N_ok fn_N (c_N hb _) rfl (by decide) rfl xw1150 rfl rfl rfl (Nat.le_of_ble_eq_true rfl) (xd dk_N_scans 227 rfl) ?_
            rw [w_N_7 hb]
            replace hf := xlet_some hf
            generalize wI M b 7 x163 = M at hf ⊢
            refine x_aload_n hc (xd dk_N_scans 228 rfl) rfl rfl ?_
            refine x_bipush hc (v := 8) (xd dk_N_scans 229 rfl) (by decide) ?_
            refine x_iload_n hc (xd dk_N_scans 230 rfl) rfl rfl ?_
            refine x_iconst hc (v := 0) (xd dk_N_scans 231 rfl) (by decide) ?_
            refine x_iconst hc (v := 0) (xd dk_N_scans 232 rfl) (by decide) ?_
            obtain ⟨r164, M, e165, hf⟩ := xbind_some hf
            refine x_callV hc (As := [.int 8, .int x156, .int 0, .int 0]) (n := 4) (s_N_push hb e165) (c_N hb _) rfl (hR.call (by decide) (by decide)) ⟨by decide, by decide, by decide⟩ rfl rfl xw1078 xw18 xw1075 xw1077 xs_N_push (Nat.le_of_ble_eq_true rfl) ⟨Nat.zero_le _, Nat.zero_le _⟩ (xd dk_N_scans 233 rfl) ?_
            refine x_aload_n hc (xd dk_N_scans 234 rfl) rfl rfl ?_
            refine x_iconst hc (v := 5) (xd dk_N_scans 235 rfl) (by decide) ?_
            refine x_iload_n hc (xd dk_N_scans 236 rfl) rfl rfl ?_
            refine x_iconst hc (v := 1) (xd dk_N_scans 237 rfl) (by decide) ?_
            refine x_iadd hc (xd dk_N_scans 238 rfl) ?_
            refine x_iconst hc (v := 1) (xd dk_N_scans 239 rfl) (by decide) ?_
            refine x_iconst hc (v := 0) (xd dk_N_scans 240 rfl) (by decide) ?_
            obtain ⟨r166, M, e167, hf⟩ := xbind_some hf
            refine x_callV hc (As := [.int 5, .int ((x156 + 1)), .int 1, .int 0]) (n := 4) (s_N_push hb e167) (c_N hb _) rfl (hR.call (by decide) (by decide)) ⟨by decide, by decide, by decide⟩ rfl rfl xw1078 xw18 xw1075 xw1077 xs_N_push (Nat.le_of_ble_eq_true rfl) ⟨Nat.zero_le _, Nat.zero_le _⟩ (xd dk_N_scans 241 rfl) ?_
            refine x_goto hc (tgt := 524) (xd dk_N_scans 242 rfl) rfl ?_
            exact s_N_scans_524 hc hR hb ih x156 x155 x157 M hf
        rw [if_neg q154] at hf
        by_cases q168 : M.1 (b + 11) (M.1 b 8).toNatClampNeg = 9
        case pos =>
          rw [if_pos q168] at hf
          refine x_tableIn hc (off := 336) (tgt := 489) (xd dk_N_scans 89 rfl) (by rw [q168]; decide) (by rw [q168]; decide) (by rw [q168]; rfl) rfl ?_
          refine x_aload_n hc (xd dk_N_scans 247 rfl) rfl rfl ?_
          refine x_aload_n hc (xd dk_N_scans 248 rfl) rfl rfl ?_
          refine x_get hc (ci := 10) (k := 24) fi_N (c_N hb _) rfl (by decide) rfl xw1167 rfl (xd dk_N_scans 249 rfl) ?_
          refine x_aload_n hc (xd dk_N_scans 250 rfl) rfl rfl ?_
          refine x_get hc (ci := 10) (k := 28) fi_N (c_N hb _) rfl (by decide) rfl xw1171 rfl (xd dk_N_scans 251 rfl) ?_
          by_cases q169 : xin (M.1 b 28) 64 = true
          case neg => rw [if_neg q169] at hf; cases hf
          rw [if_pos q169] at hf
          refine x_iald hc (cA (xMd.ar hb 15 (by decide) rfl)) (xin_in q169) (xd dk_N_scans 252 rfl) ?_
          obtain ⟨x170, hx170, hf⟩ := xval_ex hf
          rw [← hx170]
          obtain ⟨x171, hx171, hf⟩ := xval_ex hf
          rw [← hx171]
          obtain ⟨x172, hx172, hf⟩ := xval_ex hf
          rw [← hx172]
          obtain ⟨x173, hx173, hf⟩ := xval_ex hf
          rw [← hx173]
          refine x_put hc (ci := 10) (k := 28) fi_N ft_N ft_N_ok fn_N (c_N hb _) rfl (by decide) rfl xw1171 rfl rfl rfl (Nat.le_of_ble_eq_true rfl) (xd dk_N_scans 253 rfl) ?_
          rw [w_N_28 hb]
          replace hf := xlet_some hf
          generalize wI M b 28 x170 = M at hf ⊢
          refine x_goto hc (tgt := 524) (xd dk_N_scans 254 rfl) rfl ?_
          exact s_N_scans_524 hc hR hb ih x172 x171 x173 M hf
        rw [if_neg q168] at hf
        refine x_tableOut hc (tgt := 505) (xd dk_N_scans 89 rfl) (by have q85n := xne (v := 1) q85 (by decide); have q98n := xne (v := 2) q98 (by decide); have q104n := xne (v := 3) q104 (by decide); have q114n := xne (v := 4) q114 (by decide); have q120n := xne (v := 5) q120 (by decide); have q126n := xne (v := 6) q126 (by decide); have q148n := xne (v := 7) q148 (by decide); have q154n := xne (v := 8) q154 (by decide); have q168n := xne (v := 9) q168 (by decide); omega) rfl ?_
        refine x_aload_n hc (xd dk_N_scans 255 rfl) rfl rfl ?_
        refine x_get hc (ci := 10) (k := 52) fi_N (c_N hb _) rfl (by decide) rfl xw1195 rfl (xd dk_N_scans 256 rfl) ?_
        refine x_iload_n hc (xd dk_N_scans 257 rfl) rfl rfl ?_
        refine x_aload_n hc (xd dk_N_scans 258 rfl) rfl rfl ?_
        refine x_get hc (ci := 10) (k := 19) fi_N (c_N hb _) rfl (by decide) rfl xw1162 rfl (xd dk_N_scans 259 rfl) ?_
        refine x_aload_n hc (xd dk_N_scans 260 rfl) rfl rfl ?_
        refine x_get hc (ci := 10) (k := 7) fi_N (c_N hb _) rfl (by decide) rfl xw1150 rfl (xd dk_N_scans 261 rfl) ?_
        refine x_iconst hc (v := 1) (xd dk_N_scans 262 rfl) (by decide) ?_
        refine x_isub hc (xd dk_N_scans 263 rfl) ?_
        by_cases q174 : xin ((M.1 b 7) - 1) 64 = true
        case neg => rw [if_neg q174] at hf; cases hf
        rw [if_pos q174] at hf
        refine x_iald hc (cA (xMd.ar hb 10 (by decide) rfl)) (xin_in q174) (xd dk_N_scans 264 rfl) ?_
        refine x_iconst hc (v := 1) (xd dk_N_scans 265 rfl) (by decide) ?_
        refine x_isub hc (xd dk_N_scans 266 rfl) ?_
        obtain ⟨x175, hx175, hf⟩ := xval_ex hf
        rw [← hx175]
        obtain ⟨x176, hx176, hf⟩ := xval_ex hf
        rw [← hx176]
        obtain ⟨x177, hx177, hf⟩ := xval_ex hf
        rw [← hx177]
        obtain ⟨x178, hx178, hf⟩ := xval_ex hf
        rw [← hx178]
        by_cases q179 : xin x176 64 = true
        case neg => rw [if_neg q179] at hf; cases hf
        rw [if_pos q179] at hf
        refine x_iast hc (cA (xMd.ar hb 38 (by decide) rfl)) (xin_in q179) (xd dk_N_scans 267 rfl) ?_
        rw [wA (xMd.ar hb 38 (by decide) rfl)]
        replace hf := xlet_some hf
        generalize wI M (b + 38) x176.toNatClampNeg x175 = M at hf ⊢
        exact s_N_scans_524 hc hR hb ih x177 x176 x178 M hf
set_option maxRecDepth 100000 in
set_option maxHeartbeats 400000 in
theorem s_N_scans {l : Launch} {G : xG} {Y : xY} {sz : Nat} {b : Nat}  (hb : xMd Y b) {M M' : xMem} {r : Unit} (hf : f_N_scans b M = some (r, M')) : xM l G y_N_scans c_N_scans 4 none 5 0 0 [.ref b] (xo G Y M) sz none (xo G Y M') sz := by
  unfold f_N_scans at hf
  refine xM.of (k := 3) (L0 := [some (.ref b), none, none, none]) (by decide) (Nat.le_of_ble_eq_true rfl) rfl ?_
  intro p e s m args below meth c hc hnm
  have hR : xRm { frames := 5, cells := 0, slots := 0, locals := 48 * 5 } 5 := ⟨Nat.le_refl _, Nat.le_refl _⟩
  refine x_aload_n hc (xd dk_N_scans 0 rfl) rfl rfl ?_
  obtain ⟨r180, M, e181, hf⟩ := xbind_some hf
  refine x_callV hc (As := []) (n := 0) (s_N_cuts hb e181) (c_N hb _) rfl (hR.call (by decide) (by decide)) ⟨by decide, by decide, by decide⟩ rfl rfl xw1037 xw18 xw1034 xw1036 xs_N_cuts (Nat.le_of_ble_eq_true rfl) ⟨Nat.zero_le _, Nat.zero_le _⟩ (xd dk_N_scans 1 rfl) ?_
  refine x_aload_n hc (xd dk_N_scans 2 rfl) rfl rfl ?_
  refine x_iconst hc (v := 0) (xd dk_N_scans 3 rfl) (by decide) ?_
  refine x_put hc (ci := 10) (k := 7) fi_N ft_N ft_N_ok fn_N (c_N hb _) rfl (by decide) rfl xw1150 rfl rfl rfl (Nat.le_of_ble_eq_true rfl) (xd dk_N_scans 4 rfl) ?_
  rw [w_N_7 hb]
  replace hf := xlet_some hf
  generalize wI M b 7 0 = M at hf ⊢
  refine x_aload_n hc (xd dk_N_scans 5 rfl) rfl rfl ?_
  refine x_iconst hc (v := (-1)) (xd dk_N_scans 6 rfl) (by decide) ?_
  refine x_put hc (ci := 10) (k := 4) fi_N ft_N ft_N_ok fn_N (c_N hb _) rfl (by decide) rfl xw1147 rfl rfl rfl (Nat.le_of_ble_eq_true rfl) (xd dk_N_scans 7 rfl) ?_
  rw [w_N_4 hb]
  replace hf := xlet_some hf
  generalize wI M b 4 (-1) = M at hf ⊢
  refine x_aload_n hc (xd dk_N_scans 8 rfl) rfl rfl ?_
  refine x_iconst hc (v := 0) (xd dk_N_scans 9 rfl) (by decide) ?_
  refine x_put hc (ci := 10) (k := 8) fi_N ft_N ft_N_ok fn_N (c_N hb _) rfl (by decide) rfl xw1151 rfl rfl rfl (Nat.le_of_ble_eq_true rfl) (xd dk_N_scans 10 rfl) ?_
  rw [w_N_8 hb]
  replace hf := xlet_some hf
  generalize wI M b 8 0 = M at hf ⊢
  refine x_aload_n hc (xd dk_N_scans 11 rfl) rfl rfl ?_
  refine x_iconst hc (v := 0) (xd dk_N_scans 12 rfl) (by decide) ?_
  refine x_put hc (ci := 10) (k := 27) fi_N ft_N ft_N_ok fn_N (c_N hb _) rfl (by decide) rfl xw1170 rfl rfl rfl (Nat.le_of_ble_eq_true rfl) (xd dk_N_scans 13 rfl) ?_
  rw [w_N_27 hb]
  replace hf := xlet_some hf
  generalize wI M b 27 0 = M at hf ⊢
  refine x_aload_n hc (xd dk_N_scans 14 rfl) rfl rfl ?_
  refine x_iconst hc (v := (-1)) (xd dk_N_scans 15 rfl) (by decide) ?_
  refine x_put hc (ci := 10) (k := 28) fi_N ft_N ft_N_ok fn_N (c_N hb _) rfl (by decide) rfl xw1171 rfl rfl rfl (Nat.le_of_ble_eq_true rfl) (xd dk_N_scans 16 rfl) ?_
  rw [w_N_28 hb]
  replace hf := xlet_some hf
  generalize wI M b 28 (-1) = M at hf ⊢
  refine x_aload_n hc (xd dk_N_scans 17 rfl) rfl rfl ?_
  refine x_iconst hc (v := 0) (xd dk_N_scans 18 rfl) (by decide) ?_
  refine x_put hc (ci := 10) (k := 29) fi_N ft_N ft_N_ok fn_N (c_N hb _) rfl (by decide) rfl xw1172 rfl rfl rfl (Nat.le_of_ble_eq_true rfl) (xd dk_N_scans 19 rfl) ?_
  rw [w_N_29 hb]
  replace hf := xlet_some hf
  generalize wI M b 29 0 = M at hf ⊢
  refine x_aload_n hc (xd dk_N_scans 20 rfl) rfl rfl ?_
  refine x_iconst hc (v := 0) (xd dk_N_scans 21 rfl) (by decide) ?_
  refine x_put hc (ci := 10) (k := 36) fi_N ft_N ft_N_ok fn_N (c_N hb _) rfl (by decide) rfl xw1179 rfl rfl rfl (Nat.le_of_ble_eq_true rfl) (xd dk_N_scans 22 rfl) ?_
  rw [w_N_36 hb]
  replace hf := xlet_some hf
  generalize wI M b 36 0 = M at hf ⊢
  refine x_aload_n hc (xd dk_N_scans 23 rfl) rfl rfl ?_
  refine x_iconst hc (v := 0) (xd dk_N_scans 24 rfl) (by decide) ?_
  refine x_put hc (ci := 10) (k := 41) fi_N ft_N ft_N_ok fn_N (c_N hb _) rfl (by decide) rfl xw1184 rfl rfl rfl (Nat.le_of_ble_eq_true rfl) (xd dk_N_scans 25 rfl) ?_
  rw [w_N_41 hb]
  replace hf := xlet_some hf
  generalize wI M b 41 0 = M at hf ⊢
  refine x_aload_n hc (xd dk_N_scans 26 rfl) rfl rfl ?_
  refine x_iconst hc (v := 0) (xd dk_N_scans 27 rfl) (by decide) ?_
  refine x_put hc (ci := 10) (k := 54) fi_N ft_N ft_N_ok fn_N (c_N hb _) rfl (by decide) rfl xw1197 rfl rfl rfl (Nat.le_of_ble_eq_true rfl) (xd dk_N_scans 28 rfl) ?_
  rw [w_N_54 hb]
  replace hf := xlet_some hf
  generalize wI M b 54 0 = M at hf ⊢
  refine x_aload_n hc (xd dk_N_scans 29 rfl) rfl rfl ?_
  refine x_iconst hc (v := 0) (xd dk_N_scans 30 rfl) (by decide) ?_
  refine x_put hc (ci := 10) (k := 55) fi_N ft_N ft_N_ok fn_N (c_N hb _) rfl (by decide) rfl xw1198 rfl rfl rfl (Nat.le_of_ble_eq_true rfl) (xd dk_N_scans 31 rfl) ?_
  rw [w_N_55 hb]
  replace hf := xlet_some hf
  generalize wI M b 55 0 = M at hf ⊢
  refine x_aload_n hc (xd dk_N_scans 32 rfl) rfl rfl ?_
  refine x_iconst hc (v := 0) (xd dk_N_scans 33 rfl) (by decide) ?_
  refine x_put hc (ci := 10) (k := 56) fi_N ft_N ft_N_ok fn_N (c_N hb _) rfl (by decide) rfl xw1199 rfl rfl rfl (Nat.le_of_ble_eq_true rfl) (xd dk_N_scans 34 rfl) ?_
  rw [w_N_56 hb]
  replace hf := xlet_some hf
  generalize wI M b 56 0 = M at hf ⊢
  refine x_aload_n hc (xd dk_N_scans 35 rfl) rfl rfl ?_
  refine x_iconst hc (v := 0) (xd dk_N_scans 36 rfl) (by decide) ?_
  refine x_put hc (ci := 10) (k := 57) fi_N ft_N ft_N_ok fn_N (c_N hb _) rfl (by decide) rfl xw1200 rfl rfl rfl (Nat.le_of_ble_eq_true rfl) (xd dk_N_scans 37 rfl) ?_
  rw [w_N_57 hb]
  replace hf := xlet_some hf
  generalize wI M b 57 0 = M at hf ⊢
  refine x_aload_n hc (xd dk_N_scans 38 rfl) rfl rfl ?_
  refine x_iconst hc (v := 0) (xd dk_N_scans 39 rfl) (by decide) ?_
  refine x_put hc (ci := 10) (k := 58) fi_N ft_N ft_N_ok fn_N (c_N hb _) rfl (by decide) rfl xw1201 rfl rfl rfl (Nat.le_of_ble_eq_true rfl) (xd dk_N_scans 40 rfl) ?_
  rw [w_N_58 hb]
  replace hf := xlet_some hf
  generalize wI M b 58 0 = M at hf ⊢
  refine x_aload_n hc (xd dk_N_scans 41 rfl) rfl rfl ?_
  refine x_iconst hc (v := 0) (xd dk_N_scans 42 rfl) (by decide) ?_
  refine x_put hc (ci := 10) (k := 59) fi_N ft_N ft_N_ok fn_N (c_N hb _) rfl (by decide) rfl xw1202 rfl rfl rfl (Nat.le_of_ble_eq_true rfl) (xd dk_N_scans 43 rfl) ?_
  rw [w_N_59 hb]
  replace hf := xlet_some hf
  generalize wI M b 59 0 = M at hf ⊢
  refine x_aload_n hc (xd dk_N_scans 44 rfl) rfl rfl ?_
  refine x_iconst hc (v := 0) (xd dk_N_scans 45 rfl) (by decide) ?_
  refine x_put hc (ci := 10) (k := 60) fi_N ft_N ft_N_ok fn_N (c_N hb _) rfl (by decide) rfl xw1203 rfl rfl rfl (Nat.le_of_ble_eq_true rfl) (xd dk_N_scans 46 rfl) ?_
  rw [w_N_60 hb]
  replace hf := xlet_some hf
  generalize wI M b 60 0 = M at hf ⊢
  refine x_aload_n hc (xd dk_N_scans 47 rfl) rfl rfl ?_
  refine x_iconst hc (v := 1) (xd dk_N_scans 48 rfl) (by decide) ?_
  obtain ⟨r182, M, e183, hf⟩ := xbind_some hf
  refine x_callV hc (As := [.int 1]) (n := 1) (s_N_enters hb e183) (c_N hb _) rfl (hR.call (by decide) (by decide)) ⟨by decide, by decide, by decide⟩ rfl rfl xw1070 xw18 xw1067 xw1069 xs_N_enters (Nat.le_of_ble_eq_true rfl) ⟨Nat.zero_le _, Nat.zero_le _⟩ (xd dk_N_scans 49 rfl) ?_
  refine x_aload_n hc (xd dk_N_scans 50 rfl) rfl rfl ?_
  refine x_iconst hc (v := 1) (xd dk_N_scans 51 rfl) (by decide) ?_
  refine x_iconst hc (v := 0) (xd dk_N_scans 52 rfl) (by decide) ?_
  obtain ⟨r184, M, e185, hf⟩ := xbind_some hf
  refine x_callV hc (As := [.int 1, .int 0]) (n := 2) (s_N_lists hb e185) (c_N hb _) rfl (hR.call (by decide) (by decide)) ⟨by decide, by decide, by decide⟩ rfl rfl xw1074 xw18 xw1071 xw1073 xs_N_lists (Nat.le_of_ble_eq_true rfl) ⟨Nat.zero_le _, Nat.zero_le _⟩ (xd dk_N_scans 53 rfl) ?_
  exact s_N_scans_90 hc hR hb xFuel M hf
def f_N_becomes_2 (b : Nat) (p1 : Nat) (p1n : Nat) (p2 : Int32) : Nat → Int32 → xMem → Option (Unit × xMem)
  | 0, _, _ => none
  | n + 1, v3, M =>
    (if p2 ≤ v3 then (xlet (wI M b 2 p2) fun M => xbind (f_N_scans b M) fun r6 M => some ((), M)) else (if xin v3 p1n = true then xval (M.1 p1 v3.toNatClampNeg) fun x9 => if xin v3 160 = true then xlet (wI M (b + 2) v3.toNatClampNeg x9) fun M => f_N_becomes_2 b p1 p1n p2 n (v3 + Int32.ofInt 1) M else none else none))
def f_N_becomes (b : Nat) (p1 : Nat) (p1n : Nat) (p2 : Int32) (M : xMem) : Option (Unit × xMem) :=
  (f_N_becomes_2 b p1 p1n p2 xFuel 0 M)
set_option maxRecDepth 100000 in
set_option maxHeartbeats 400000 in
theorem s_N_becomes_2 {p : Program} {l : Launch} {e : Env} {R : Room} {s : State} {m : MethodId} {args : Array Value} {below : List Frame} {meth : Method} {c : Code} {G : xG} {Y : xY} {sz : Nat} {b : Nat} {p1 : Nat} {p1n : Nat} {p2 : Int32}  (hc : xC p s m args meth c G 4 c_N_becomes y_N_becomes.cls none) (hR : xRm R 6) (hb : xMd Y b) (hp1 : xar (Y.2.1 p1) = some (0, p1n)) {M' : xMem} {r : Unit} : ∀ (n : Nat) (v3 : Int32) (M : xMem), f_N_becomes_2 b p1 p1n p2 n v3 M = some (r, M') → xW p l e R s m args below meth c G 4 (MQ below (xQc G none (xo G Y M') sz) args s 0 0 (xA G)) (xo G Y M) sz 0 0 2 [some (.ref b), some (.ref p1), some (.int p2), some (.int v3)] [] := by
  intro n
  induction n with
  | zero => intro v3 M hf; simp only [f_N_becomes_2] at hf; cases hf
  | succ n ih =>
    intro v3 M hf
    simp only [f_N_becomes_2] at hf
    refine x_iload_n hc (xd dk_N_becomes 2 rfl) rfl rfl ?_
    refine x_iload_n hc (xd dk_N_becomes 3 rfl) rfl rfl ?_
    refine x_icmp_ge hc (tgt := 22) (xd dk_N_becomes 4 rfl) rfl (fun q5 => ?_) (fun q5 => ?_)
    · rw [if_pos q5] at hf
      refine x_aload_n hc (xd dk_N_becomes 14 rfl) rfl rfl ?_
      refine x_iload_n hc (xd dk_N_becomes 15 rfl) rfl rfl ?_
      refine x_put hc (ci := 10) (k := 2) fi_N ft_N ft_N_ok fn_N (c_N hb _) rfl (by decide) rfl xw1145 rfl rfl rfl (Nat.le_of_ble_eq_true rfl) (xd dk_N_becomes 16 rfl) ?_
      rw [w_N_2 hb]
      replace hf := xlet_some hf
      generalize wI M b 2 p2 = M at hf ⊢
      refine x_aload_n hc (xd dk_N_becomes 17 rfl) rfl rfl ?_
      obtain ⟨r6, M, e7, hf⟩ := xbind_some hf
      refine x_callV hc (As := []) (n := 0) (s_N_scans hb e7) (c_N hb _) rfl (hR.call (by decide) (by decide)) ⟨by decide, by decide, by decide⟩ rfl rfl xw1033 xw18 xw1030 xw1032 xs_N_scans (Nat.le_of_ble_eq_true rfl) ⟨Nat.zero_le _, Nat.zero_le _⟩ (xd dk_N_becomes 18 rfl) ?_
      cases hf
      exact x_return hc (xd dk_N_becomes 19 rfl)
    · rw [if_neg q5] at hf
      refine x_aload_n hc (xd dk_N_becomes 5 rfl) rfl rfl ?_
      refine x_get hc (ci := 10) (k := 11) fi_N (c_N hb _) rfl (by decide) rfl xw1154 rfl (xd dk_N_becomes 6 rfl) ?_
      refine x_iload_n hc (xd dk_N_becomes 7 rfl) rfl rfl ?_
      refine x_aload_n hc (xd dk_N_becomes 8 rfl) rfl rfl ?_
      refine x_iload_n hc (xd dk_N_becomes 9 rfl) rfl rfl ?_
      by_cases q8 : xin v3 p1n = true
      case neg => rw [if_neg q8] at hf; cases hf
      rw [if_pos q8] at hf
      refine x_iald hc (cA hp1) (xin_in q8) (xd dk_N_becomes 10 rfl) ?_
      obtain ⟨x9, hx9, hf⟩ := xval_ex hf
      rw [← hx9]
      by_cases q10 : xin v3 160 = true
      case neg => rw [if_neg q10] at hf; cases hf
      rw [if_pos q10] at hf
      refine x_iast hc (cA (xMd.ar hb 2 (by decide) rfl)) (xin_in q10) (xd dk_N_becomes 11 rfl) ?_
      rw [wA (xMd.ar hb 2 (by decide) rfl)]
      replace hf := xlet_some hf
      generalize wI M (b + 2) v3.toNatClampNeg x9 = M at hf ⊢
      refine x_iinc hc (xd dk_N_becomes 12 rfl) rfl (by decide) rfl ?_
      refine x_goto hc (tgt := 2) (xd dk_N_becomes 13 rfl) rfl ?_
      exact ih (v3 + Int32.ofInt 1) M hf
set_option maxRecDepth 100000 in
set_option maxHeartbeats 400000 in
theorem s_N_becomes {l : Launch} {G : xG} {Y : xY} {sz : Nat} {b : Nat} {p1 : Nat} {p1n : Nat} {p2 : Int32}  (hb : xMd Y b) (hp1 : xar (Y.2.1 p1) = some (0, p1n)) {M M' : xMem} {r : Unit} (hf : f_N_becomes b p1 p1n p2 M = some (r, M')) : xM l G y_N_becomes c_N_becomes 4 none 6 0 0 [.ref b, .ref p1, .int p2] (xo G Y M) sz none (xo G Y M') sz := by
  unfold f_N_becomes at hf
  refine xM.of (k := 1) (L0 := [some (.ref b), some (.ref p1), some (.int p2), none]) (by decide) (Nat.le_of_ble_eq_true rfl) rfl ?_
  intro p e s m args below meth c hc hnm
  have hR : xRm { frames := 6, cells := 0, slots := 0, locals := 48 * 6 } 6 := ⟨Nat.le_refl _, Nat.le_refl _⟩
  refine x_iconst hc (v := 0) (xd dk_N_becomes 0 rfl) (by decide) ?_
  refine x_istore_n hc (xd dk_N_becomes 1 rfl) (by decide) rfl ?_
  exact s_N_becomes_2 hc hR hb hp1 xFuel 0 M hf
def f_N_mend_56 (b : Nat) (k14 : Int32 → Int32 → xMem → Option (Int32 × xMem)) (k35 : Int32 → Int32 → Int32 → Int32 → xMem → Option (Int32 × xMem)) (v1 : Int32) (v2 : Int32) (v3 : Int32) (v4 : Int32) (M : xMem) : Option (Int32 × xMem) :=
  (k35 v1 v2 v3 (v4 + Int32.ofInt 1) M)
def f_N_mend_85 (b : Nat) (k14 : Int32 → Int32 → xMem → Option (Int32 × xMem)) (v1 : Int32) (v2 : Int32) (v3 : Int32) (v4 : Int32) (w0 : Int32) (M : xMem) : Option (Int32 × xMem) :=
  (if w0 = 0 then (some (v1, M)) else (xbind (f_N_becomes b (b + 4) 400 v4 M) fun r10 M => xval ((M.1 b 5) + 1) fun x12 => xlet (wI M b 5 x12) fun M => k14 (v1 + v3) w0 M))
def f_N_mend_84 (b : Nat) (k14 : Int32 → Int32 → xMem → Option (Int32 × xMem)) (v1 : Int32) (v2 : Int32) (v3 : Int32) (v4 : Int32) (M : xMem) : Option (Int32 × xMem) :=
  (f_N_mend_85 b k14 v1 v2 v3 v4 0 M)
def f_N_mend_35 (b : Nat) (k14 : Int32 → Int32 → xMem → Option (Int32 × xMem)) : Nat → Int32 → Int32 → Int32 → Int32 → xMem → Option (Int32 × xMem)
  | 0, _, _, _, _, _ => none
  | n + 1, v1, v2, v3, v4, M =>
    (if M.1 b 63 ≤ v4 then (xbind (f_N_mended b M) fun r14 M => if v3 ≤ 0 then (f_N_mend_84 b k14 v1 v2 v3 r14 M) else (if 160 < r14 then (f_N_mend_84 b k14 v1 v2 v3 r14 M) else (f_N_mend_85 b k14 v1 v2 v3 r14 1 M))) else (xbind (f_N_goes b v4 M) fun r18 M => if r18 = 0 then (f_N_mend_56 b k14 (f_N_mend_35 b k14 n) v1 v2 v3 v4 M) else (f_N_mend_56 b k14 (f_N_mend_35 b k14 n) v1 v2 (v3 + Int32.ofInt 1) v4 M)))
def f_N_mend_14 (b : Nat) : Nat → Int32 → Int32 → xMem → Option (Int32 × xMem)
  | 0, _, _, _ => none
  | n + 1, v1, v2, M =>
    (if v2 = 0 then (some (v1, M)) else (if 4 ≤ M.1 b 5 then (some (v1, M)) else (xbind (f_N_looks b M) fun r23 M => f_N_mend_35 b (f_N_mend_14 b n) xFuel v1 v2 0 0 M)))
def f_N_mend (b : Nat) (M : xMem) : Option (Int32 × xMem) :=
  (xlet (wI M b 0 0) fun M => xlet (wI M b 5 0) fun M => f_N_mend_14 b xFuel 0 1 M)
set_option maxRecDepth 100000 in
set_option maxHeartbeats 400000 in
theorem s_N_mend_56 {p : Program} {l : Launch} {e : Env} {R : Room} {s : State} {m : MethodId} {args : Array Value} {below : List Frame} {meth : Method} {c : Code} {G : xG} {Y : xY} {sz : Nat} {b : Nat}  (hc : xC p s m args meth c G 5 c_N_mend y_N_mend.cls (some .int)) (hR : xRm R 7) (hb : xMd Y b) {k14 : Int32 → Int32 → xMem → Option (Int32 × xMem)} {k35 : Int32 → Int32 → Int32 → Int32 → xMem → Option (Int32 × xMem)} {M' : xMem} {r : Int32} (hk14 : ∀ (v1 : Int32) (v2 : Int32) (M : xMem), k14 v1 v2 M = some (r, M') → xW p l e R s m args below meth c G 5 (MQ below (xQc G (some (.int r)) (xo G Y M') sz) args s 0 0 (xA G)) (xo G Y M) sz 0 0 14 [some (.ref b), some (.int v1), some (.int v2), none, none] []) (hk35 : ∀ (v1 : Int32) (v2 : Int32) (v3 : Int32) (v4 : Int32) (M : xMem), k35 v1 v2 v3 v4 M = some (r, M') → xW p l e R s m args below meth c G 5 (MQ below (xQc G (some (.int r)) (xo G Y M') sz) args s 0 0 (xA G)) (xo G Y M) sz 0 0 35 [some (.ref b), some (.int v1), some (.int v2), some (.int v3), some (.int v4)] []) (v1 : Int32) (v2 : Int32) (v3 : Int32) (v4 : Int32) (M : xMem) (hf : f_N_mend_56 b k14 k35 v1 v2 v3 v4 M = some (r, M')) : xW p l e R s m args below meth c G 5 (MQ below (xQc G (some (.int r)) (xo G Y M') sz) args s 0 0 (xA G)) (xo G Y M) sz 0 0 56 [some (.ref b), some (.int v1), some (.int v2), some (.int v3), some (.int v4)] [] := by
  unfold f_N_mend_56 at hf
  refine x_iinc hc (xd dk_N_mend 31 rfl) rfl (by decide) rfl ?_
  refine x_goto hc (tgt := 35) (xd dk_N_mend 32 rfl) rfl ?_
  exact hk35 v1 v2 v3 (v4 + Int32.ofInt 1) M hf
set_option maxRecDepth 100000 in
set_option maxHeartbeats 400000 in
theorem s_N_mend_85 {p : Program} {l : Launch} {e : Env} {R : Room} {s : State} {m : MethodId} {args : Array Value} {below : List Frame} {meth : Method} {c : Code} {G : xG} {Y : xY} {sz : Nat} {b : Nat}  (hc : xC p s m args meth c G 5 c_N_mend y_N_mend.cls (some .int)) (hR : xRm R 7) (hb : xMd Y b) {k14 : Int32 → Int32 → xMem → Option (Int32 × xMem)} {M' : xMem} {r : Int32} (hk14 : ∀ (v1 : Int32) (v2 : Int32) (M : xMem), k14 v1 v2 M = some (r, M') → xW p l e R s m args below meth c G 5 (MQ below (xQc G (some (.int r)) (xo G Y M') sz) args s 0 0 (xA G)) (xo G Y M) sz 0 0 14 [some (.ref b), some (.int v1), some (.int v2), none, none] []) (v1 : Int32) (v2 : Int32) (v3 : Int32) (v4 : Int32) (w0 : Int32) (M : xMem) (hf : f_N_mend_85 b k14 v1 v2 v3 v4 w0 M = some (r, M')) : xW p l e R s m args below meth c G 5 (MQ below (xQc G (some (.int r)) (xo G Y M') sz) args s 0 0 (xA G)) (xo G Y M) sz 0 0 85 [some (.ref b), some (.int v1), some (.int v2), some (.int v3), some (.int v4)] [.int w0] := by
  unfold f_N_mend_85 at hf
  refine x_istore_n hc (xd dk_N_mend 44 rfl) (by decide) rfl ?_
  refine x_iload_n hc (xd dk_N_mend 45 rfl) rfl rfl ?_
  refine x_if_ne hc (tgt := 93) (xd dk_N_mend 46 rfl) rfl (fun q9 => ?_) (fun q9 => ?_)
  · rw [if_neg q9] at hf
    refine x_aload_n hc (xd dk_N_mend 48 rfl) rfl rfl ?_
    refine x_aload_n hc (xd dk_N_mend 49 rfl) rfl rfl ?_
    refine x_get hc (ci := 10) (k := 13) fi_N (c_N hb _) rfl (by decide) rfl xw1156 rfl (xd dk_N_mend 50 rfl) ?_
    refine x_iload hc (xd dk_N_mend 51 rfl) rfl ?_
    obtain ⟨r10, M, e11, hf⟩ := xbind_some hf
    refine x_callV hc (As := [.ref (b + 4), .int v4]) (n := 2) (s_N_becomes hb (xMd.ar hb 4 (by decide) rfl) e11) (c_N hb _) rfl (hR.call (by decide) (by decide)) ⟨by decide, by decide, by decide⟩ rfl rfl xw1365 xw18 xw1362 xw1364 xs_N_becomes (Nat.le_of_ble_eq_true rfl) ⟨Nat.zero_le _, Nat.zero_le _⟩ (xd dk_N_mend 52 rfl) ?_
    refine x_iload_n hc (xd dk_N_mend 53 rfl) rfl rfl ?_
    refine x_iload_n hc (xd dk_N_mend 54 rfl) rfl rfl ?_
    refine x_iadd hc (xd dk_N_mend 55 rfl) ?_
    refine x_istore_n hc (xd dk_N_mend 56 rfl) (by decide) rfl ?_
    refine x_aload_n hc (xd dk_N_mend 57 rfl) rfl rfl ?_
    refine x_dup hc (xd dk_N_mend 58 rfl) rfl ?_
    refine x_get hc (ci := 10) (k := 5) fi_N (c_N hb _) rfl (by decide) rfl xw1148 rfl (xd dk_N_mend 59 rfl) ?_
    refine x_iconst hc (v := 1) (xd dk_N_mend 60 rfl) (by decide) ?_
    refine x_iadd hc (xd dk_N_mend 61 rfl) ?_
    obtain ⟨x12, hx12, hf⟩ := xval_ex hf
    rw [← hx12]
    refine x_put hc (ci := 10) (k := 5) fi_N ft_N ft_N_ok fn_N (c_N hb _) rfl (by decide) rfl xw1148 rfl rfl rfl (Nat.le_of_ble_eq_true rfl) (xd dk_N_mend 62 rfl) ?_
    rw [w_N_5 hb]
    replace hf := xlet_some hf
    generalize wI M b 5 x12 = M at hf ⊢
    refine x_goto hc (tgt := 14) (xd dk_N_mend 63 rfl) rfl ?_
    refine x_drop 3 ?_
    refine x_drop 4 ?_
    exact hk14 (v1 + v3) w0 M hf
  · rw [if_pos q9] at hf
    refine x_goto hc (tgt := 120) (xd dk_N_mend 47 rfl) rfl ?_
    refine x_iload_n hc (xd dk_N_mend 64 rfl) rfl rfl ?_
    cases hf
    exact x_ireturn hc (xd dk_N_mend 65 rfl)
set_option maxRecDepth 100000 in
set_option maxHeartbeats 400000 in
theorem s_N_mend_84 {p : Program} {l : Launch} {e : Env} {R : Room} {s : State} {m : MethodId} {args : Array Value} {below : List Frame} {meth : Method} {c : Code} {G : xG} {Y : xY} {sz : Nat} {b : Nat}  (hc : xC p s m args meth c G 5 c_N_mend y_N_mend.cls (some .int)) (hR : xRm R 7) (hb : xMd Y b) {k14 : Int32 → Int32 → xMem → Option (Int32 × xMem)} {M' : xMem} {r : Int32} (hk14 : ∀ (v1 : Int32) (v2 : Int32) (M : xMem), k14 v1 v2 M = some (r, M') → xW p l e R s m args below meth c G 5 (MQ below (xQc G (some (.int r)) (xo G Y M') sz) args s 0 0 (xA G)) (xo G Y M) sz 0 0 14 [some (.ref b), some (.int v1), some (.int v2), none, none] []) (v1 : Int32) (v2 : Int32) (v3 : Int32) (v4 : Int32) (M : xMem) (hf : f_N_mend_84 b k14 v1 v2 v3 v4 M = some (r, M')) : xW p l e R s m args below meth c G 5 (MQ below (xQc G (some (.int r)) (xo G Y M') sz) args s 0 0 (xA G)) (xo G Y M) sz 0 0 84 [some (.ref b), some (.int v1), some (.int v2), some (.int v3), some (.int v4)] [] := by
  unfold f_N_mend_84 at hf
  refine x_iconst hc (v := 0) (xd dk_N_mend 43 rfl) (by decide) ?_
  exact s_N_mend_85 hc hR hb hk14 v1 v2 v3 v4 0 M hf
set_option maxRecDepth 100000 in
set_option maxHeartbeats 400000 in
theorem s_N_mend_35 {p : Program} {l : Launch} {e : Env} {R : Room} {s : State} {m : MethodId} {args : Array Value} {below : List Frame} {meth : Method} {c : Code} {G : xG} {Y : xY} {sz : Nat} {b : Nat}  (hc : xC p s m args meth c G 5 c_N_mend y_N_mend.cls (some .int)) (hR : xRm R 7) (hb : xMd Y b) {k14 : Int32 → Int32 → xMem → Option (Int32 × xMem)} {M' : xMem} {r : Int32} (hk14 : ∀ (v1 : Int32) (v2 : Int32) (M : xMem), k14 v1 v2 M = some (r, M') → xW p l e R s m args below meth c G 5 (MQ below (xQc G (some (.int r)) (xo G Y M') sz) args s 0 0 (xA G)) (xo G Y M) sz 0 0 14 [some (.ref b), some (.int v1), some (.int v2), none, none] []) : ∀ (n : Nat) (v1 : Int32) (v2 : Int32) (v3 : Int32) (v4 : Int32) (M : xMem), f_N_mend_35 b k14 n v1 v2 v3 v4 M = some (r, M') → xW p l e R s m args below meth c G 5 (MQ below (xQc G (some (.int r)) (xo G Y M') sz) args s 0 0 (xA G)) (xo G Y M) sz 0 0 35 [some (.ref b), some (.int v1), some (.int v2), some (.int v3), some (.int v4)] [] := by
  intro n
  induction n with
  | zero => intro v1 v2 v3 v4 M hf; simp only [f_N_mend_35] at hf; cases hf
  | succ n ih =>
    intro v1 v2 v3 v4 M hf
    simp only [f_N_mend_35] at hf
    refine x_iload hc (xd dk_N_mend 22 rfl) rfl ?_
    refine x_aload_n hc (xd dk_N_mend 23 rfl) rfl rfl ?_
    refine x_get hc (ci := 10) (k := 63) fi_N (c_N hb _) rfl (by decide) rfl xw1206 rfl (xd dk_N_mend 24 rfl) ?_
    refine x_icmp_ge hc (tgt := 62) (xd dk_N_mend 25 rfl) rfl (fun q13 => ?_) (fun q13 => ?_)
    · rw [if_pos q13] at hf
      refine x_aload_n hc (xd dk_N_mend 33 rfl) rfl rfl ?_
      obtain ⟨r14, M, e15, hf⟩ := xbind_some hf
      refine x_callV hc (As := []) (n := 0) (s_N_mended hb e15) (c_N hb _) rfl (hR.call (by decide) (by decide)) ⟨by decide, by decide, by decide⟩ rfl rfl xw1421 xw18 xw1418 xw1420 xs_N_mended (Nat.le_of_ble_eq_true rfl) ⟨Nat.zero_le _, Nat.zero_le _⟩ (xd dk_N_mend 34 rfl) ?_
      refine x_istore hc (xd dk_N_mend 35 rfl) (by decide) rfl ?_
      refine x_iload_n hc (xd dk_N_mend 36 rfl) rfl rfl ?_
      refine x_if_le hc (tgt := 84) (xd dk_N_mend 37 rfl) rfl (fun q16 => ?_) (fun q16 => ?_)
      · rw [if_pos q16] at hf
        exact s_N_mend_84 hc hR hb hk14 v1 v2 v3 r14 M hf
      · rw [if_neg q16] at hf
        refine x_iload hc (xd dk_N_mend 38 rfl) rfl ?_
        refine x_sipush hc (v := 160) (xd dk_N_mend 39 rfl) (by decide) ?_
        refine x_icmp_gt hc (tgt := 84) (xd dk_N_mend 40 rfl) rfl (fun q17 => ?_) (fun q17 => ?_)
        · rw [if_pos q17] at hf
          exact s_N_mend_84 hc hR hb hk14 v1 v2 v3 r14 M hf
        · rw [if_neg q17] at hf
          refine x_iconst hc (v := 1) (xd dk_N_mend 41 rfl) (by decide) ?_
          refine x_goto hc (tgt := 85) (xd dk_N_mend 42 rfl) rfl ?_
          exact s_N_mend_85 hc hR hb hk14 v1 v2 v3 r14 1 M hf
    · rw [if_neg q13] at hf
      refine x_aload_n hc (xd dk_N_mend 26 rfl) rfl rfl ?_
      refine x_iload hc (xd dk_N_mend 27 rfl) rfl ?_
      obtain ⟨r18, M, e19, hf⟩ := xbind_some hf
      refine x_callV hc (As := [.int v4]) (n := 1) (s_N_goes hb e19) (c_N hb _) rfl (hR.call (by decide) (by decide)) ⟨by decide, by decide, by decide⟩ rfl rfl xw1413 xw18 xw1410 xw1412 xs_N_goes (Nat.le_of_ble_eq_true rfl) ⟨Nat.zero_le _, Nat.zero_le _⟩ (xd dk_N_mend 28 rfl) ?_
      refine x_if_eq hc (tgt := 56) (xd dk_N_mend 29 rfl) rfl (fun q20 => ?_) (fun q20 => ?_)
      · rw [if_pos q20] at hf
        exact s_N_mend_56 hc hR hb hk14 ih v1 v2 v3 v4 M hf
      · rw [if_neg q20] at hf
        refine x_iinc hc (xd dk_N_mend 30 rfl) rfl (by decide) rfl ?_
        exact s_N_mend_56 hc hR hb hk14 ih v1 v2 (v3 + Int32.ofInt 1) v4 M hf
set_option maxRecDepth 100000 in
set_option maxHeartbeats 400000 in
theorem s_N_mend_14 {p : Program} {l : Launch} {e : Env} {R : Room} {s : State} {m : MethodId} {args : Array Value} {below : List Frame} {meth : Method} {c : Code} {G : xG} {Y : xY} {sz : Nat} {b : Nat}  (hc : xC p s m args meth c G 5 c_N_mend y_N_mend.cls (some .int)) (hR : xRm R 7) (hb : xMd Y b) {M' : xMem} {r : Int32} : ∀ (n : Nat) (v1 : Int32) (v2 : Int32) (M : xMem), f_N_mend_14 b n v1 v2 M = some (r, M') → xW p l e R s m args below meth c G 5 (MQ below (xQc G (some (.int r)) (xo G Y M') sz) args s 0 0 (xA G)) (xo G Y M) sz 0 0 14 [some (.ref b), some (.int v1), some (.int v2), none, none] [] := by
  intro n
  induction n with
  | zero => intro v1 v2 M hf; simp only [f_N_mend_14] at hf; cases hf
  | succ n ih =>
    intro v1 v2 M hf
    simp only [f_N_mend_14] at hf
    refine x_iload_n hc (xd dk_N_mend 10 rfl) rfl rfl ?_
    refine x_if_eq hc (tgt := 120) (xd dk_N_mend 11 rfl) rfl (fun q21 => ?_) (fun q21 => ?_)
    · rw [if_pos q21] at hf
      refine x_iload_n hc (xd dk_N_mend 64 rfl) rfl rfl ?_
      cases hf
      exact x_ireturn hc (xd dk_N_mend 65 rfl)
    · rw [if_neg q21] at hf
      refine x_aload_n hc (xd dk_N_mend 12 rfl) rfl rfl ?_
      refine x_get hc (ci := 10) (k := 5) fi_N (c_N hb _) rfl (by decide) rfl xw1148 rfl (xd dk_N_mend 13 rfl) ?_
      refine x_iconst hc (v := 4) (xd dk_N_mend 14 rfl) (by decide) ?_
      refine x_icmp_ge hc (tgt := 120) (xd dk_N_mend 15 rfl) rfl (fun q22 => ?_) (fun q22 => ?_)
      · rw [if_pos q22] at hf
        refine x_iload_n hc (xd dk_N_mend 64 rfl) rfl rfl ?_
        cases hf
        exact x_ireturn hc (xd dk_N_mend 65 rfl)
      · rw [if_neg q22] at hf
        refine x_aload_n hc (xd dk_N_mend 16 rfl) rfl rfl ?_
        obtain ⟨r23, M, e24, hf⟩ := xbind_some hf
        refine x_callV hc (As := []) (n := 0) (s_N_looks hb e24) (c_N hb _) rfl (hR.call (by decide) (by decide)) ⟨by decide, by decide, by decide⟩ rfl rfl xw1369 xw18 xw1366 xw1368 xs_N_looks (Nat.le_of_ble_eq_true rfl) ⟨Nat.zero_le _, Nat.zero_le _⟩ (xd dk_N_mend 17 rfl) ?_
        refine x_iconst hc (v := 0) (xd dk_N_mend 18 rfl) (by decide) ?_
        refine x_istore_n hc (xd dk_N_mend 19 rfl) (by decide) rfl ?_
        refine x_iconst hc (v := 0) (xd dk_N_mend 20 rfl) (by decide) ?_
        refine x_istore hc (xd dk_N_mend 21 rfl) (by decide) rfl ?_
        exact s_N_mend_35 hc hR hb ih xFuel v1 v2 0 0 M hf
set_option maxRecDepth 100000 in
set_option maxHeartbeats 400000 in
theorem s_N_mend {l : Launch} {G : xG} {Y : xY} {sz : Nat} {b : Nat}  (hb : xMd Y b) {M M' : xMem} {r : Int32} (hf : f_N_mend b M = some (r, M')) : xM l G y_N_mend c_N_mend 5 (some .int) 7 0 0 [.ref b] (xo G Y M) sz (some (.int r)) (xo G Y M') sz := by
  unfold f_N_mend at hf
  refine xM.of (k := 4) (L0 := [some (.ref b), none, none, none, none]) (by decide) (Nat.le_of_ble_eq_true rfl) rfl ?_
  intro p e s m args below meth c hc hnm
  have hR : xRm { frames := 7, cells := 0, slots := 0, locals := 48 * 7 } 7 := ⟨Nat.le_refl _, Nat.le_refl _⟩
  refine x_aload_n hc (xd dk_N_mend 0 rfl) rfl rfl ?_
  refine x_iconst hc (v := 0) (xd dk_N_mend 1 rfl) (by decide) ?_
  refine x_put hc (ci := 10) (k := 0) fi_N ft_N ft_N_ok fn_N (c_N hb _) rfl (by decide) rfl xw1143 rfl rfl rfl (Nat.le_of_ble_eq_true rfl) (xd dk_N_mend 2 rfl) ?_
  rw [w_N_0 hb]
  replace hf := xlet_some hf
  generalize wI M b 0 0 = M at hf ⊢
  refine x_iconst hc (v := 0) (xd dk_N_mend 3 rfl) (by decide) ?_
  refine x_istore_n hc (xd dk_N_mend 4 rfl) (by decide) rfl ?_
  refine x_aload_n hc (xd dk_N_mend 5 rfl) rfl rfl ?_
  refine x_iconst hc (v := 0) (xd dk_N_mend 6 rfl) (by decide) ?_
  refine x_put hc (ci := 10) (k := 5) fi_N ft_N ft_N_ok fn_N (c_N hb _) rfl (by decide) rfl xw1148 rfl rfl rfl (Nat.le_of_ble_eq_true rfl) (xd dk_N_mend 7 rfl) ?_
  rw [w_N_5 hb]
  replace hf := xlet_some hf
  generalize wI M b 5 0 = M at hf ⊢
  refine x_iconst hc (v := 1) (xd dk_N_mend 8 rfl) (by decide) ?_
  refine x_istore_n hc (xd dk_N_mend 9 rfl) (by decide) rfl ?_
  exact s_N_mend_14 hc hR hb xFuel 0 1 M hf
def f_N_read_93 (b : Nat) (v1 : Int32) (v2 : Int32) (w1 : Int32) (M : xMem) : Option (Int32 × xMem) :=
  (xbind (f_N_fails b w1 1 M) fun r11 M => if r11 = 0 then (some (M.1 b 63, M)) else (some (0, M)))
def f_N_read_76 (b : Nat) (v1 : Int32) (v2 : Int32) (M : xMem) : Option (Int32 × xMem) :=
  (xbind (f_N_looks b M) fun r14 M => if M.1 b 3 < 0 then (f_N_read_93 b v1 v2 0 M) else (f_N_read_93 b v1 v2 1 M))
def f_N_read_12 (b : Nat) : Nat → Int32 → Int32 → xMem → Option (Int32 × xMem)
  | 0, _, _, _ => none
  | n + 1, v1, v2, M =>
    (if v1 ≤ v2 then (xval (M.1 b 1) fun x18 => xbind (f_N_becomes b (b + 1) 160 x18 M) fun r19 M => xlet (wI M b 1 0) fun M => xval (M.1 b 4) fun x21 => xlet (wI M b 3 x21) fun M => if M.1 b 4 < 0 then (f_N_read_76 b v1 v2 M) else (xbind (f_N_becomes b (b + 3) 160 v1 M) fun r23 M => f_N_read_76 b v1 v2 M)) else (if xin v2 160 = true then xval (M.1 (b + 2) v2.toNatClampNeg) fun x26 => if xin v2 160 = true then xlet (wI M (b + 3) v2.toNatClampNeg x26) fun M => f_N_read_12 b n v1 (v2 + Int32.ofInt 1) M else none else none))
def f_N_read (b : Nat) (M : xMem) : Option (Int32 × xMem) :=
  (xlet (wI M b 0 0) fun M => f_N_read_12 b xFuel (M.1 b 2) 0 M)
set_option maxRecDepth 100000 in
set_option maxHeartbeats 400000 in
theorem s_N_read_93 {p : Program} {l : Launch} {e : Env} {R : Room} {s : State} {m : MethodId} {args : Array Value} {below : List Frame} {meth : Method} {c : Code} {G : xG} {Y : xY} {sz : Nat} {b : Nat}  (hc : xC p s m args meth c G 3 c_N_read y_N_read.cls (some .int)) (hR : xRm R 7) (hb : xMd Y b) {M' : xMem} {r : Int32} (v1 : Int32) (v2 : Int32) (w1 : Int32) (M : xMem) (hf : f_N_read_93 b v1 v2 w1 M = some (r, M')) : xW p l e R s m args below meth c G 3 (MQ below (xQc G (some (.int r)) (xo G Y M') sz) args s 0 0 (xA G)) (xo G Y M) sz 0 0 93 [some (.ref b), some (.int v1), some (.int v2)] [.int w1, .ref b] := by
  unfold f_N_read_93 at hf
  refine x_iconst hc (v := 1) (xd dk_N_read 51 rfl) (by decide) ?_
  obtain ⟨r11, M, e12, hf⟩ := xbind_some hf
  refine x_callV hc (As := [.int w1, .int 1]) (n := 2) (s_N_fails hb e12) (c_N hb _) rfl (hR.call (by decide) (by decide)) ⟨by decide, by decide, by decide⟩ rfl rfl xw1357 xw18 xw1354 xw1356 xs_N_fails (Nat.le_of_ble_eq_true rfl) ⟨Nat.zero_le _, Nat.zero_le _⟩ (xd dk_N_read 52 rfl) ?_
  refine x_if_eq hc (tgt := 104) (xd dk_N_read 53 rfl) rfl (fun q13 => ?_) (fun q13 => ?_)
  · rw [if_pos q13] at hf
    refine x_aload_n hc (xd dk_N_read 56 rfl) rfl rfl ?_
    refine x_get hc (ci := 10) (k := 63) fi_N (c_N hb _) rfl (by decide) rfl xw1206 rfl (xd dk_N_read 57 rfl) ?_
    cases hf
    exact x_ireturn hc (xd dk_N_read 58 rfl)
  · rw [if_neg q13] at hf
    refine x_iconst hc (v := 0) (xd dk_N_read 54 rfl) (by decide) ?_
    refine x_goto hc (tgt := 108) (xd dk_N_read 55 rfl) rfl ?_
    cases hf
    exact x_ireturn hc (xd dk_N_read 58 rfl)
set_option maxRecDepth 100000 in
set_option maxHeartbeats 400000 in
theorem s_N_read_76 {p : Program} {l : Launch} {e : Env} {R : Room} {s : State} {m : MethodId} {args : Array Value} {below : List Frame} {meth : Method} {c : Code} {G : xG} {Y : xY} {sz : Nat} {b : Nat}  (hc : xC p s m args meth c G 3 c_N_read y_N_read.cls (some .int)) (hR : xRm R 7) (hb : xMd Y b) {M' : xMem} {r : Int32} (v1 : Int32) (v2 : Int32) (M : xMem) (hf : f_N_read_76 b v1 v2 M = some (r, M')) : xW p l e R s m args below meth c G 3 (MQ below (xQc G (some (.int r)) (xo G Y M') sz) args s 0 0 (xA G)) (xo G Y M) sz 0 0 76 [some (.ref b), some (.int v1), some (.int v2)] [] := by
  unfold f_N_read_76 at hf
  refine x_aload_n hc (xd dk_N_read 42 rfl) rfl rfl ?_
  obtain ⟨r14, M, e15, hf⟩ := xbind_some hf
  refine x_callV hc (As := []) (n := 0) (s_N_looks hb e15) (c_N hb _) rfl (hR.call (by decide) (by decide)) ⟨by decide, by decide, by decide⟩ rfl rfl xw1369 xw18 xw1366 xw1368 xs_N_looks (Nat.le_of_ble_eq_true rfl) ⟨Nat.zero_le _, Nat.zero_le _⟩ (xd dk_N_read 43 rfl) ?_
  refine x_aload_n hc (xd dk_N_read 44 rfl) rfl rfl ?_
  refine x_aload_n hc (xd dk_N_read 45 rfl) rfl rfl ?_
  refine x_get hc (ci := 10) (k := 3) fi_N (c_N hb _) rfl (by decide) rfl xw1146 rfl (xd dk_N_read 46 rfl) ?_
  refine x_if_lt hc (tgt := 92) (xd dk_N_read 47 rfl) rfl (fun q16 => ?_) (fun q16 => ?_)
  · rw [if_pos q16] at hf
    refine x_iconst hc (v := 0) (xd dk_N_read 50 rfl) (by decide) ?_
    exact s_N_read_93 hc hR hb v1 v2 0 M hf
  · rw [if_neg q16] at hf
    refine x_iconst hc (v := 1) (xd dk_N_read 48 rfl) (by decide) ?_
    refine x_goto hc (tgt := 93) (xd dk_N_read 49 rfl) rfl ?_
    exact s_N_read_93 hc hR hb v1 v2 1 M hf
set_option maxRecDepth 100000 in
set_option maxHeartbeats 400000 in
theorem s_N_read_12 {p : Program} {l : Launch} {e : Env} {R : Room} {s : State} {m : MethodId} {args : Array Value} {below : List Frame} {meth : Method} {c : Code} {G : xG} {Y : xY} {sz : Nat} {b : Nat}  (hc : xC p s m args meth c G 3 c_N_read y_N_read.cls (some .int)) (hR : xRm R 7) (hb : xMd Y b) {M' : xMem} {r : Int32} : ∀ (n : Nat) (v1 : Int32) (v2 : Int32) (M : xMem), f_N_read_12 b n v1 v2 M = some (r, M') → xW p l e R s m args below meth c G 3 (MQ below (xQc G (some (.int r)) (xo G Y M') sz) args s 0 0 (xA G)) (xo G Y M) sz 0 0 12 [some (.ref b), some (.int v1), some (.int v2)] [] := by
  intro n
  induction n with
  | zero => intro v1 v2 M hf; simp only [f_N_read_12] at hf; cases hf
  | succ n ih =>
    intro v1 v2 M hf
    simp only [f_N_read_12] at hf
    refine x_iload_n hc (xd dk_N_read 8 rfl) rfl rfl ?_
    refine x_iload_n hc (xd dk_N_read 9 rfl) rfl rfl ?_
    refine x_icmp_ge hc (tgt := 35) (xd dk_N_read 10 rfl) rfl (fun q17 => ?_) (fun q17 => ?_)
    · rw [if_pos q17] at hf
      refine x_aload_n hc (xd dk_N_read 21 rfl) rfl rfl ?_
      refine x_aload_n hc (xd dk_N_read 22 rfl) rfl rfl ?_
      refine x_get hc (ci := 10) (k := 10) fi_N (c_N hb _) rfl (by decide) rfl xw1153 rfl (xd dk_N_read 23 rfl) ?_
      refine x_aload_n hc (xd dk_N_read 24 rfl) rfl rfl ?_
      refine x_get hc (ci := 10) (k := 1) fi_N (c_N hb _) rfl (by decide) rfl xw1144 rfl (xd dk_N_read 25 rfl) ?_
      obtain ⟨x18, hx18, hf⟩ := xval_ex hf
      rw [← hx18]
      obtain ⟨r19, M, e20, hf⟩ := xbind_some hf
      refine x_callV hc (As := [.ref (b + 1), .int x18]) (n := 2) (s_N_becomes hb (xMd.ar hb 1 (by decide) rfl) e20) (c_N hb _) rfl (hR.call (by decide) (by decide)) ⟨by decide, by decide, by decide⟩ rfl rfl xw1365 xw18 xw1362 xw1364 xs_N_becomes (Nat.le_of_ble_eq_true rfl) ⟨Nat.zero_le _, Nat.zero_le _⟩ (xd dk_N_read 26 rfl) ?_
      refine x_aload_n hc (xd dk_N_read 27 rfl) rfl rfl ?_
      refine x_iconst hc (v := 0) (xd dk_N_read 28 rfl) (by decide) ?_
      refine x_put hc (ci := 10) (k := 1) fi_N ft_N ft_N_ok fn_N (c_N hb _) rfl (by decide) rfl xw1144 rfl rfl rfl (Nat.le_of_ble_eq_true rfl) (xd dk_N_read 29 rfl) ?_
      rw [w_N_1 hb]
      replace hf := xlet_some hf
      generalize wI M b 1 0 = M at hf ⊢
      refine x_aload_n hc (xd dk_N_read 30 rfl) rfl rfl ?_
      refine x_aload_n hc (xd dk_N_read 31 rfl) rfl rfl ?_
      refine x_get hc (ci := 10) (k := 4) fi_N (c_N hb _) rfl (by decide) rfl xw1147 rfl (xd dk_N_read 32 rfl) ?_
      obtain ⟨x21, hx21, hf⟩ := xval_ex hf
      rw [← hx21]
      refine x_put hc (ci := 10) (k := 3) fi_N ft_N ft_N_ok fn_N (c_N hb _) rfl (by decide) rfl xw1146 rfl rfl rfl (Nat.le_of_ble_eq_true rfl) (xd dk_N_read 33 rfl) ?_
      rw [w_N_3 hb]
      replace hf := xlet_some hf
      generalize wI M b 3 x21 = M at hf ⊢
      refine x_aload_n hc (xd dk_N_read 34 rfl) rfl rfl ?_
      refine x_get hc (ci := 10) (k := 4) fi_N (c_N hb _) rfl (by decide) rfl xw1147 rfl (xd dk_N_read 35 rfl) ?_
      refine x_if_lt hc (tgt := 76) (xd dk_N_read 36 rfl) rfl (fun q22 => ?_) (fun q22 => ?_)
      · rw [if_pos q22] at hf
        exact s_N_read_76 hc hR hb v1 v2 M hf
      · rw [if_neg q22] at hf
        refine x_aload_n hc (xd dk_N_read 37 rfl) rfl rfl ?_
        refine x_aload_n hc (xd dk_N_read 38 rfl) rfl rfl ?_
        refine x_get hc (ci := 10) (k := 12) fi_N (c_N hb _) rfl (by decide) rfl xw1155 rfl (xd dk_N_read 39 rfl) ?_
        refine x_iload_n hc (xd dk_N_read 40 rfl) rfl rfl ?_
        obtain ⟨r23, M, e24, hf⟩ := xbind_some hf
        refine x_callV hc (As := [.ref (b + 3), .int v1]) (n := 2) (s_N_becomes hb (xMd.ar hb 3 (by decide) rfl) e24) (c_N hb _) rfl (hR.call (by decide) (by decide)) ⟨by decide, by decide, by decide⟩ rfl rfl xw1365 xw18 xw1362 xw1364 xs_N_becomes (Nat.le_of_ble_eq_true rfl) ⟨Nat.zero_le _, Nat.zero_le _⟩ (xd dk_N_read 41 rfl) ?_
        exact s_N_read_76 hc hR hb v1 v2 M hf
    · rw [if_neg q17] at hf
      refine x_aload_n hc (xd dk_N_read 11 rfl) rfl rfl ?_
      refine x_get hc (ci := 10) (k := 12) fi_N (c_N hb _) rfl (by decide) rfl xw1155 rfl (xd dk_N_read 12 rfl) ?_
      refine x_iload_n hc (xd dk_N_read 13 rfl) rfl rfl ?_
      refine x_aload_n hc (xd dk_N_read 14 rfl) rfl rfl ?_
      refine x_get hc (ci := 10) (k := 11) fi_N (c_N hb _) rfl (by decide) rfl xw1154 rfl (xd dk_N_read 15 rfl) ?_
      refine x_iload_n hc (xd dk_N_read 16 rfl) rfl rfl ?_
      by_cases q25 : xin v2 160 = true
      case neg => rw [if_neg q25] at hf; cases hf
      rw [if_pos q25] at hf
      refine x_iald hc (cA (xMd.ar hb 2 (by decide) rfl)) (xin_in q25) (xd dk_N_read 17 rfl) ?_
      obtain ⟨x26, hx26, hf⟩ := xval_ex hf
      rw [← hx26]
      by_cases q27 : xin v2 160 = true
      case neg => rw [if_neg q27] at hf; cases hf
      rw [if_pos q27] at hf
      refine x_iast hc (cA (xMd.ar hb 3 (by decide) rfl)) (xin_in q27) (xd dk_N_read 18 rfl) ?_
      rw [wA (xMd.ar hb 3 (by decide) rfl)]
      replace hf := xlet_some hf
      generalize wI M (b + 3) v2.toNatClampNeg x26 = M at hf ⊢
      refine x_iinc hc (xd dk_N_read 19 rfl) rfl (by decide) rfl ?_
      refine x_goto hc (tgt := 12) (xd dk_N_read 20 rfl) rfl ?_
      exact ih v1 (v2 + Int32.ofInt 1) M hf
set_option maxRecDepth 100000 in
set_option maxHeartbeats 400000 in
theorem s_N_read {l : Launch} {G : xG} {Y : xY} {sz : Nat} {b : Nat}  (hb : xMd Y b) {M M' : xMem} {r : Int32} (hf : f_N_read b M = some (r, M')) : xM l G y_N_read c_N_read 3 (some .int) 7 0 0 [.ref b] (xo G Y M) sz (some (.int r)) (xo G Y M') sz := by
  unfold f_N_read at hf
  refine xM.of (k := 2) (L0 := [some (.ref b), none, none]) (by decide) (Nat.le_of_ble_eq_true rfl) rfl ?_
  intro p e s m args below meth c hc hnm
  have hR : xRm { frames := 7, cells := 0, slots := 0, locals := 48 * 7 } 7 := ⟨Nat.le_refl _, Nat.le_refl _⟩
  refine x_aload_n hc (xd dk_N_read 0 rfl) rfl rfl ?_
  refine x_iconst hc (v := 0) (xd dk_N_read 1 rfl) (by decide) ?_
  refine x_put hc (ci := 10) (k := 0) fi_N ft_N ft_N_ok fn_N (c_N hb _) rfl (by decide) rfl xw1143 rfl rfl rfl (Nat.le_of_ble_eq_true rfl) (xd dk_N_read 2 rfl) ?_
  rw [w_N_0 hb]
  replace hf := xlet_some hf
  generalize wI M b 0 0 = M at hf ⊢
  refine x_aload_n hc (xd dk_N_read 3 rfl) rfl rfl ?_
  refine x_get hc (ci := 10) (k := 2) fi_N (c_N hb _) rfl (by decide) rfl xw1145 rfl (xd dk_N_read 4 rfl) ?_
  refine x_istore_n hc (xd dk_N_read 5 rfl) (by decide) rfl ?_
  refine x_iconst hc (v := 0) (xd dk_N_read 6 rfl) (by decide) ?_
  refine x_istore_n hc (xd dk_N_read 7 rfl) (by decide) rfl ?_
  exact s_N_read_12 hc hR hb xFuel (M.1 b 2) 0 M hf
