/-! 'ldc_w' of an int -/
section X11
variable {p : Program} {l : Launch} {e : Env} {R : Room} {s : State} {m : MethodId} {args : Array Value} {below : List Frame} {meth : Method} {c : Code} {Q : State → Prop} {G : xG} {nL : Nat} {cc : ByteArray} {own : String} {ret : Option FieldType} {hh : xH} {sz cells slots pc : Nat} {L : List (Option Value)} {rest st : List Value}
theorem x_ldcwI0 {T : State} {locs : List Loc} (X : Stand p l e R s m args below meth c T locs cells slots) (hexec : p.tables.exec = Jvm.exec) {index : Nat} {v : Int32} (hown : s.vm.findClass own = some m.cls) (hconst : (Cond.constant own index v).before args s = true) {g : JFrame} (hg : g.method = m) (hdg : decode c.code g.pc = .ok (.ldc_w index, 3)) : ∀ target, Steps p.tables e below (T.setTop { g with pc := g.pc + 3, stack := .int v :: g.stack }) target → Steps p.tables e below (T.setTop g) target := by
  obtain ⟨k, cf, bytes, hk, hcf, hcp, hb⟩ := Cond.constant_spec hown hconst
  obtain ⟨k', hk', he⟩ := X.warmed.alike.2.2 _ _ hk
  intro target hrest
  subst hg
  jvm_step X.here [hexec, hdg, ldc_w.wp_int (e := e) (s := T) (f := g) X.here.top hk' (by rw [he]; exact hcf) hcp, hb]
  exact hrest
theorem x_ldcwI (hc : xC p s m args meth c G nL cc own ret) {index : Nat} {v : Int32} (hw : Jvm.Cond.constant own index v ∈ xWs) (hdg : decode cc pc = .ok (.ldc_w index, 3)) (k : xW p l e R s m args below meth c G nL Q hh sz cells slots (pc + 3) L (.int v :: rest)) : xW p l e R s m args below meth c G nL Q hh sz cells slots pc L rest := fun H locs ls hP hz hS hL => by
  intro T hT X
  obtain ⟨t, a1, b1⟩ := k H locs ls hP hz hS hL T hT X
  exact ⟨t, x_ldcwI0 X hc.1 hc.ow (hc.ts _ hw) (g := F0 m pc ls rest) rfl (by rw [hc.2.1]; exact hdg) t a1, b1⟩
end X11
/-! the JDK's index check, by hand: its third argument is null or a reference -/
def f_JP_checkIndex (p0 p1 : Int32) (M : xMem) : Option (Int32 × xMem) := if p0 < 0 then none else if p0 < p1 then some (p0, M) else none
set_option maxRecDepth 100000 in
theorem s_JP_checkIndex {l : Launch} {G : xG} {Y : xY} {sz : Nat} {p0 p1 : Int32} {v : Value} (hv : v = .null ∨ ∃ t, v = .ref t) {M M' : xMem} {r : Int32} (hf : f_JP_checkIndex p0 p1 M = some (r, M')) : xM l G y_JP_checkIndex c_JP_checkIndex 3 (some .int) 0 0 0 [.int p0, .int p1, v] (xo G Y M) sz (some (.int r)) (xo G Y M') sz := by
  unfold f_JP_checkIndex at hf
  rcases hv with rfl | ⟨t, rfl⟩
  · refine xM.of (k := 0) (L0 := [some (.int p0), some (.int p1), some .null]) (by decide) (Nat.le_of_ble_eq_true rfl) rfl ?_
    intro p e s m args below meth c hc hnm
    refine x_iload_n hc (xd dk_JP_checkIndex 0 rfl) rfl rfl ?_
    refine x_if_lt hc (tgt := 9) (xd dk_JP_checkIndex 1 rfl) rfl (fun q => ?_) (fun q => ?_)
    · rw [if_pos q] at hf; cases hf
    rw [if_neg q] at hf
    refine x_iload_n hc (xd dk_JP_checkIndex 2 rfl) rfl rfl ?_
    refine x_iload_n hc (xd dk_JP_checkIndex 3 rfl) rfl rfl ?_
    refine x_icmp_lt hc (tgt := 16) (xd dk_JP_checkIndex 4 rfl) rfl (fun q => ?_) (fun q => ?_)
    · rw [if_pos q] at hf
      refine x_iload_n hc (xd dk_JP_checkIndex 10 rfl) rfl rfl ?_
      cases hf
      exact x_ireturn hc (xd dk_JP_checkIndex 11 rfl)
    · rw [if_neg q] at hf; cases hf
  · refine xM.of (k := 0) (L0 := [some (.int p0), some (.int p1), some (.ref t)]) (by decide) (Nat.le_of_ble_eq_true rfl) rfl ?_
    intro p e s m args below meth c hc hnm
    refine x_iload_n hc (xd dk_JP_checkIndex 0 rfl) rfl rfl ?_
    refine x_if_lt hc (tgt := 9) (xd dk_JP_checkIndex 1 rfl) rfl (fun q => ?_) (fun q => ?_)
    · rw [if_pos q] at hf; cases hf
    rw [if_neg q] at hf
    refine x_iload_n hc (xd dk_JP_checkIndex 2 rfl) rfl rfl ?_
    refine x_iload_n hc (xd dk_JP_checkIndex 3 rfl) rfl rfl ?_
    refine x_icmp_lt hc (tgt := 16) (xd dk_JP_checkIndex 4 rfl) rfl (fun q => ?_) (fun q => ?_)
    · rw [if_pos q] at hf
      refine x_iload_n hc (xd dk_JP_checkIndex 10 rfl) rfl rfl ?_
      cases hf
      exact x_ireturn hc (xd dk_JP_checkIndex 11 rfl)
    · rw [if_neg q] at hf; cases hf
def f_JS_checkIndex (p0 p1 : Int32) (M : xMem) : Option (Unit × xMem) := xbind (f_JP_checkIndex p0 p1 M) fun _ M => some ((), M)
set_option maxRecDepth 100000 in
theorem s_JS_checkIndex {l : Launch} {G : xG} {Y : xY} {sz : Nat} {p0 p1 : Int32} {M M' : xMem} {r : Unit} (hf : f_JS_checkIndex p0 p1 M = some (r, M')) : xM l G y_JS_checkIndex c_JS_checkIndex 2 none 1 0 0 [.int p0, .int p1] (xo G Y M) sz none (xo G Y M') sz := by
  unfold f_JS_checkIndex at hf
  refine xM.of (k := 0) (L0 := [some (.int p0), some (.int p1)]) (by decide) (Nat.le_of_ble_eq_true rfl) rfl ?_
  intro p e s m args below meth c hc hnm
  have hR : xRm { frames := 1, cells := 0, slots := 0, locals := 48 * 1 } 1 := ⟨Nat.le_refl _, Nat.le_refl _⟩
  obtain ⟨r1, M1, e1, hf⟩ := xbind_some hf
  cases hf
  refine x_iload_n hc (xd dk_JS_checkIndex 0 rfl) rfl rfl ?_
  refine x_iload_n hc (xd dk_JS_checkIndex 1 rfl) rfl rfl ?_
  refine x_getsQ hc xw394 (xd dk_JS_checkIndex 2 rfl) ?_ (fun t => ?_)
  · refine x_callS hc (As := [.int p0, .int p1, .null]) (n := 3) (s_JP_checkIndex (Or.inl rfl) e1) (hR.call (by decide) (by decide)) ⟨by decide, by decide, by decide⟩ rfl rfl xw398 xw15 xw396 xw397 (Nat.le_of_ble_eq_true rfl) ⟨Nat.zero_le _, Nat.zero_le _⟩ (xd dk_JS_checkIndex 3 rfl) ?_
    refine x_pop hc (xd dk_JS_checkIndex 4 rfl) rfl ?_
    exact x_return hc (xd dk_JS_checkIndex 5 rfl)
  · refine x_callS hc (As := [.int p0, .int p1, .ref t]) (n := 3) (s_JP_checkIndex (Or.inr ⟨t, rfl⟩) e1) (hR.call (by decide) (by decide)) ⟨by decide, by decide, by decide⟩ rfl rfl xw398 xw15 xw396 xw397 (Nat.le_of_ble_eq_true rfl) ⟨Nat.zero_le _, Nat.zero_le _⟩ (xd dk_JS_checkIndex 3 rfl) ?_
    refine x_pop hc (xd dk_JS_checkIndex 4 rfl) rfl ?_
    exact x_return hc (xd dk_JS_checkIndex 5 rfl)
/-! methods of the JDK (printed by gen/gen.py) -/
def f_JS_coder (b : Nat) (M : xMem) : Option (Int32 × xMem) :=
  if b < 28 then (if (1 : Int32) = 0 then (some (1, M)) else (some (0, M))) else none
set_option maxRecDepth 100000 in
set_option maxHeartbeats 400000 in
theorem s_JS_coder {l : Launch} {G : xG} {Y : xY} {sz : Nat} {b : Nat}   {M M' : xMem} {r : Int32} (hf : f_JS_coder b M = some (r, M')) : xM l G y_JS_coder c_JS_coder 1 (some .byte) 0 0 0 [.ref (gK G b)] (xo G Y M) sz (some (.int r)) (xo G Y M') sz := by
  unfold f_JS_coder at hf
  by_cases htb : b < 28
  case neg => rw [if_neg htb] at hf; cases hf
  rw [if_pos htb] at hf
  refine xM.of (k := 0) (L0 := [some (.ref (gK G b))]) (by decide) (Nat.le_of_ble_eq_true rfl) rfl ?_
  intro p e s m args below meth c hc hnm
  have hR : xRm { frames := 0, cells := 0, slots := 0, locals := 48 * 0 } 0 := ⟨Nat.le_refl _, Nat.le_refl _⟩
  refine x_getsC hc xw378 (xd dk_JS_coder 0 rfl) ?_
  refine x_if_eq hc (tgt := 13) (xd dk_JS_coder 1 rfl) rfl (fun q2 => ?_) (fun q2 => ?_)
  · rw [if_pos q2] at hf
    refine x_iconst hc (v := 1) (xd dk_JS_coder 5 rfl) (by decide) ?_
    cases hf
    exact x_zreturn hc rfl (xd dk_JS_coder 6 rfl)
  · rw [if_neg q2] at hf
    refine x_aload_n hc (xd dk_JS_coder 2 rfl) rfl rfl ?_
    refine x_getO hc ((hc.tk htb).2.2.2.2.2.2.2.2.2.1) xw1441 (xd dk_JS_coder 3 rfl) ?_
    refine x_goto hc (tgt := 14) (xd dk_JS_coder 4 rfl) rfl ?_
    cases hf
    exact x_zreturn hc rfl (xd dk_JS_coder 6 rfl)
def f_JS_isLatin1 (b : Nat) (M : xMem) : Option (Int32 × xMem) :=
  if b < 28 then (if (1 : Int32) = 0 then (some (0, M)) else (if (0 : Int32) = 0 then (some (1, M)) else (some (0, M)))) else none
set_option maxRecDepth 100000 in
set_option maxHeartbeats 400000 in
theorem s_JS_isLatin1 {l : Launch} {G : xG} {Y : xY} {sz : Nat} {b : Nat}   {M M' : xMem} {r : Int32} (hf : f_JS_isLatin1 b M = some (r, M')) : xM l G y_JS_isLatin1 c_JS_isLatin1 1 (some .boolean) 0 0 0 [.ref (gK G b)] (xo G Y M) sz (some (.int r)) (xo G Y M') sz := by
  unfold f_JS_isLatin1 at hf
  by_cases htb : b < 28
  case neg => rw [if_neg htb] at hf; cases hf
  rw [if_pos htb] at hf
  refine xM.of (k := 0) (L0 := [some (.ref (gK G b))]) (by decide) (Nat.le_of_ble_eq_true rfl) rfl ?_
  intro p e s m args below meth c hc hnm
  have hR : xRm { frames := 0, cells := 0, slots := 0, locals := 48 * 0 } 0 := ⟨Nat.le_refl _, Nat.le_refl _⟩
  refine x_getsC hc xw378 (xd dk_JS_isLatin1 0 rfl) ?_
  refine x_if_eq hc (tgt := 17) (xd dk_JS_isLatin1 1 rfl) rfl (fun q2 => ?_) (fun q2 => ?_)
  · rw [if_pos q2] at hf
    refine x_iconst hc (v := 0) (xd dk_JS_isLatin1 7 rfl) (by decide) ?_
    cases hf
    exact x_zreturn hc rfl (xd dk_JS_isLatin1 8 rfl)
  · rw [if_neg q2] at hf
    refine x_aload_n hc (xd dk_JS_isLatin1 2 rfl) rfl rfl ?_
    refine x_getO hc ((hc.tk htb).2.2.2.2.2.2.2.2.2.1) xw1441 (xd dk_JS_isLatin1 3 rfl) ?_
    refine x_if_ne hc (tgt := 17) (xd dk_JS_isLatin1 4 rfl) rfl (fun q3 => ?_) (fun q3 => ?_)
    · rw [if_neg q3] at hf
      refine x_iconst hc (v := 0) (xd dk_JS_isLatin1 7 rfl) (by decide) ?_
      cases hf
      exact x_zreturn hc rfl (xd dk_JS_isLatin1 8 rfl)
    · rw [if_pos q3] at hf
      refine x_iconst hc (v := 1) (xd dk_JS_isLatin1 5 rfl) (by decide) ?_
      refine x_goto hc (tgt := 18) (xd dk_JS_isLatin1 6 rfl) rfl ?_
      cases hf
      exact x_zreturn hc rfl (xd dk_JS_isLatin1 8 rfl)
def f_JS_length (b : Nat) (M : xMem) : Option (Int32 × xMem) :=
  if b < 28 then (xbind (f_JS_coder b M) fun r3 M => some (((nI (xTxt.getD b []).length) >>> (r3 &&& 31)), M)) else none
set_option maxRecDepth 100000 in
set_option maxHeartbeats 400000 in
theorem s_JS_length {l : Launch} {G : xG} {Y : xY} {sz : Nat} {b : Nat}   {M M' : xMem} {r : Int32} (hf : f_JS_length b M = some (r, M')) : xM l G y_JS_length c_JS_length 1 (some .int) 1 0 0 [.ref (gK G b)] (xo G Y M) sz (some (.int r)) (xo G Y M') sz := by
  unfold f_JS_length at hf
  by_cases htb : b < 28
  case neg => rw [if_neg htb] at hf; cases hf
  rw [if_pos htb] at hf
  refine xM.of (k := 0) (L0 := [some (.ref (gK G b))]) (by decide) (Nat.le_of_ble_eq_true rfl) rfl ?_
  intro p e s m args below meth c hc hnm
  have hR : xRm { frames := 1, cells := 0, slots := 0, locals := 48 * 1 } 1 := ⟨Nat.le_refl _, Nat.le_refl _⟩
  refine x_aload_n hc (xd dk_JS_length 0 rfl) rfl rfl ?_
  refine x_getO hc ((hc.tk htb).2.2.2.2.2.2.2.2.1) xw1440 (xd dk_JS_length 1 rfl) ?_
  refine x_slen hc htb (xd dk_JS_length 2 rfl) ?_
  refine x_aload_n hc (xd dk_JS_length 3 rfl) rfl rfl ?_
  obtain ⟨r3, M, e4, hf⟩ := xbind_some hf
  refine x_callVO hc (As := []) (n := 0) (s_JS_coder e4) ((hc.tk htb).2.2.2.2.2.2.2.1) (hR.call (by decide) (by decide)) ⟨by decide, by decide, by decide⟩ rfl rfl xw377 xw13 xw374 xw375 xw376 (Nat.le_of_ble_eq_true rfl) ⟨Nat.zero_le _, Nat.zero_le _⟩ (xd dk_JS_length 4 rfl) ?_
  refine x_ishr hc (xd dk_JS_length 5 rfl) ?_
  cases hf
  exact x_ireturn hc (xd dk_JS_length 6 rfl)
def f_JL_charAt (p0 : Nat) (p1 : Int32) (M : xMem) : Option (Int32 × xMem) :=
  if p0 < 28 then (xbind (f_JS_checkIndex p1 (nI (xTxt.getD p0 []).length) M) fun r5 M => if xin p1 (xTxt.getD p0 []).length = true then if xnar .char (((((xTxt.getD p0 []).getD p1.toNatClampNeg 0) &&& 255).toUInt32 % 65536).toInt32) = true then some (((((xTxt.getD p0 []).getD p1.toNatClampNeg 0) &&& 255).toUInt32 % 65536).toInt32, M) else none else none) else none
set_option maxRecDepth 100000 in
set_option maxHeartbeats 400000 in
theorem s_JL_charAt {l : Launch} {G : xG} {Y : xY} {sz : Nat} {p0 : Nat} {p1 : Int32}   {M M' : xMem} {r : Int32} (hf : f_JL_charAt p0 p1 M = some (r, M')) : xM l G y_JL_charAt c_JL_charAt 2 (some .char) 2 0 0 [.ref (gT G (2 + p0)), .int p1] (xo G Y M) sz (some (.int r)) (xo G Y M') sz := by
  unfold f_JL_charAt at hf
  by_cases htp0 : p0 < 28
  case neg => rw [if_neg htp0] at hf; cases hf
  rw [if_pos htp0] at hf
  refine xM.of (k := 0) (L0 := [some (.ref (gT G (2 + p0))), some (.int p1)]) (by decide) (Nat.le_of_ble_eq_true rfl) rfl ?_
  intro p e s m args below meth c hc hnm
  have hR : xRm { frames := 2, cells := 0, slots := 0, locals := 48 * 2 } 2 := ⟨Nat.le_refl _, Nat.le_refl _⟩
  refine x_iload_n hc (xd dk_JL_charAt 0 rfl) rfl rfl ?_
  refine x_aload_n hc (xd dk_JL_charAt 1 rfl) rfl rfl ?_
  refine x_slen hc htp0 (xd dk_JL_charAt 2 rfl) ?_
  obtain ⟨r5, M, e6, hf⟩ := xbind_some hf
  refine x_callS hc (As := [.int p1, .int (nI (xTxt.getD p0 []).length)]) (n := 2) (s_JS_checkIndex e6) (hR.call (by decide) (by decide)) ⟨by decide, by decide, by decide⟩ rfl rfl xw393 xw13 xw391 xw392 (Nat.le_of_ble_eq_true rfl) ⟨Nat.zero_le _, Nat.zero_le _⟩ (xd dk_JL_charAt 3 rfl) ?_
  refine x_aload_n hc (xd dk_JL_charAt 4 rfl) rfl rfl ?_
  refine x_iload_n hc (xd dk_JL_charAt 5 rfl) rfl rfl ?_
  by_cases q7 : xin p1 (xTxt.getD p0 []).length = true
  case neg => rw [if_neg q7] at hf; cases hf
  rw [if_pos q7] at hf
  refine x_sald hc htp0 (xin_in q7) (xd dk_JL_charAt 6 rfl) ?_
  refine x_sipush hc (v := 255) (xd dk_JL_charAt 7 rfl) (by decide) ?_
  refine x_iand hc (xd dk_JL_charAt 8 rfl) ?_
  refine x_i2c hc (xd dk_JL_charAt 9 rfl) rfl ?_
  by_cases q8 : xnar .char (((((xTxt.getD p0 []).getD p1.toNatClampNeg 0) &&& 255).toUInt32 % 65536).toInt32) = true
  case neg => rw [if_neg q8] at hf; cases hf
  rw [if_pos q8] at hf
  cases hf
  exact x_zreturn hc (xnar_n q8) (xd dk_JL_charAt 10 rfl)
def f_JS_charAt (b : Nat) (p1 : Int32) (M : xMem) : Option (Int32 × xMem) :=
  if b < 28 then (xbind (f_JS_isLatin1 b M) fun r6 M => if r6 = 0 then (none) else (xbind (f_JL_charAt b p1 M) fun r9 M => if xnar .char r9 = true then some (r9, M) else none)) else none
set_option maxRecDepth 100000 in
set_option maxHeartbeats 400000 in
theorem s_JS_charAt {l : Launch} {G : xG} {Y : xY} {sz : Nat} {b : Nat} {p1 : Int32}   {M M' : xMem} {r : Int32} (hf : f_JS_charAt b p1 M = some (r, M')) : xM l G y_JS_charAt c_JS_charAt 2 (some .char) 3 0 0 [.ref (gK G b), .int p1] (xo G Y M) sz (some (.int r)) (xo G Y M') sz := by
  unfold f_JS_charAt at hf
  by_cases htb : b < 28
  case neg => rw [if_neg htb] at hf; cases hf
  rw [if_pos htb] at hf
  refine xM.of (k := 0) (L0 := [some (.ref (gK G b)), some (.int p1)]) (by decide) (Nat.le_of_ble_eq_true rfl) rfl ?_
  intro p e s m args below meth c hc hnm
  have hR : xRm { frames := 3, cells := 0, slots := 0, locals := 48 * 3 } 3 := ⟨Nat.le_refl _, Nat.le_refl _⟩
  refine x_aload_n hc (xd dk_JS_charAt 0 rfl) rfl rfl ?_
  obtain ⟨r6, M, e7, hf⟩ := xbind_some hf
  refine x_callVO hc (As := []) (n := 0) (s_JS_isLatin1 e7) ((hc.tk htb).2.2.2.2.2.2.2.1) (hR.call (by decide) (by decide)) ⟨by decide, by decide, by decide⟩ rfl rfl xw387 xw13 xw384 xw385 xw386 (Nat.le_of_ble_eq_true rfl) ⟨Nat.zero_le _, Nat.zero_le _⟩ (xd dk_JS_charAt 1 rfl) ?_
  refine x_if_eq hc (tgt := 16) (xd dk_JS_charAt 2 rfl) rfl (fun q8 => ?_) (fun q8 => ?_)
  · rw [if_pos q8] at hf
    refine x_aload_n hc (xd dk_JS_charAt 8 rfl) rfl rfl ?_
    refine x_getO hc ((hc.tk htb).2.2.2.2.2.2.2.2.1) xw1440 (xd dk_JS_charAt 9 rfl) ?_
    refine x_iload_n hc (xd dk_JS_charAt 10 rfl) rfl rfl ?_
    cases hf
  · rw [if_neg q8] at hf
    refine x_aload_n hc (xd dk_JS_charAt 3 rfl) rfl rfl ?_
    refine x_getO hc ((hc.tk htb).2.2.2.2.2.2.2.2.1) xw1440 (xd dk_JS_charAt 4 rfl) ?_
    refine x_iload_n hc (xd dk_JS_charAt 5 rfl) rfl rfl ?_
    obtain ⟨r9, M, e10, hf⟩ := xbind_some hf
    refine x_callS hc (As := [.ref (gT G (2 + b)), .int p1]) (n := 2) (s_JL_charAt e10) (hR.call (by decide) (by decide)) ⟨by decide, by decide, by decide⟩ rfl rfl xw390 xw14 xw388 xw389 (Nat.le_of_ble_eq_true rfl) ⟨Nat.zero_le _, Nat.zero_le _⟩ (xd dk_JS_charAt 6 rfl) ?_
    by_cases q11 : xnar .char r9 = true
    case neg => rw [if_neg q11] at hf; cases hf
    rw [if_pos q11] at hf
    cases hf
    exact x_zreturn hc (xnar_n q11) (xd dk_JS_charAt 7 rfl)
def f_JE_ordinal (b : Nat) (M : xMem) : Option (Int32 × xMem) :=
  if b < 28 then (some (nI b, M)) else none
set_option maxRecDepth 100000 in
set_option maxHeartbeats 400000 in
theorem s_JE_ordinal {l : Launch} {G : xG} {Y : xY} {sz : Nat} {b : Nat}   {M M' : xMem} {r : Int32} (hf : f_JE_ordinal b M = some (r, M')) : xM l G y_JE_ordinal c_JE_ordinal 1 (some .int) 0 0 0 [.ref (gE G b)] (xo G Y M) sz (some (.int r)) (xo G Y M') sz := by
  unfold f_JE_ordinal at hf
  by_cases htb : b < 28
  case neg => rw [if_neg htb] at hf; cases hf
  rw [if_pos htb] at hf
  refine xM.of (k := 0) (L0 := [some (.ref (gE G b))]) (by decide) (Nat.le_of_ble_eq_true rfl) rfl ?_
  intro p e s m args below meth c hc hnm
  have hR : xRm { frames := 0, cells := 0, slots := 0, locals := 48 * 0 } 0 := ⟨Nat.le_refl _, Nat.le_refl _⟩
  refine x_aload_n hc (xd dk_JE_ordinal 0 rfl) rfl rfl ?_
  refine x_getO hc ((hc.tk htb).2.2.1) xw1442 (xd dk_JE_ordinal 1 rfl) ?_
  cases hf
  exact x_ireturn hc (xd dk_JE_ordinal 2 rfl)
def f_JN_bitCount (p0 : Int32) (M : xMem) : Option (Int32 × xMem) :=
  (some (((((((((p0 - (((p0.toUInt32 >>> ((1 : Int32).toUInt32 &&& Int32.toUInt32 31)).toInt32) &&& 1431655765)) &&& 858993459) + ((((p0 - (((p0.toUInt32 >>> ((1 : Int32).toUInt32 &&& Int32.toUInt32 31)).toInt32) &&& 1431655765)).toUInt32 >>> ((2 : Int32).toUInt32 &&& Int32.toUInt32 31)).toInt32) &&& 858993459)) + (((((p0 - (((p0.toUInt32 >>> ((1 : Int32).toUInt32 &&& Int32.toUInt32 31)).toInt32) &&& 1431655765)) &&& 858993459) + ((((p0 - (((p0.toUInt32 >>> ((1 : Int32).toUInt32 &&& Int32.toUInt32 31)).toInt32) &&& 1431655765)).toUInt32 >>> ((2 : Int32).toUInt32 &&& Int32.toUInt32 31)).toInt32) &&& 858993459)).toUInt32 >>> ((4 : Int32).toUInt32 &&& Int32.toUInt32 31)).toInt32)) &&& 252645135) + (((((((p0 - (((p0.toUInt32 >>> ((1 : Int32).toUInt32 &&& Int32.toUInt32 31)).toInt32) &&& 1431655765)) &&& 858993459) + ((((p0 - (((p0.toUInt32 >>> ((1 : Int32).toUInt32 &&& Int32.toUInt32 31)).toInt32) &&& 1431655765)).toUInt32 >>> ((2 : Int32).toUInt32 &&& Int32.toUInt32 31)).toInt32) &&& 858993459)) + (((((p0 - (((p0.toUInt32 >>> ((1 : Int32).toUInt32 &&& Int32.toUInt32 31)).toInt32) &&& 1431655765)) &&& 858993459) + ((((p0 - (((p0.toUInt32 >>> ((1 : Int32).toUInt32 &&& Int32.toUInt32 31)).toInt32) &&& 1431655765)).toUInt32 >>> ((2 : Int32).toUInt32 &&& Int32.toUInt32 31)).toInt32) &&& 858993459)).toUInt32 >>> ((4 : Int32).toUInt32 &&& Int32.toUInt32 31)).toInt32)) &&& 252645135).toUInt32 >>> ((8 : Int32).toUInt32 &&& Int32.toUInt32 31)).toInt32)) + ((((((((p0 - (((p0.toUInt32 >>> ((1 : Int32).toUInt32 &&& Int32.toUInt32 31)).toInt32) &&& 1431655765)) &&& 858993459) + ((((p0 - (((p0.toUInt32 >>> ((1 : Int32).toUInt32 &&& Int32.toUInt32 31)).toInt32) &&& 1431655765)).toUInt32 >>> ((2 : Int32).toUInt32 &&& Int32.toUInt32 31)).toInt32) &&& 858993459)) + (((((p0 - (((p0.toUInt32 >>> ((1 : Int32).toUInt32 &&& Int32.toUInt32 31)).toInt32) &&& 1431655765)) &&& 858993459) + ((((p0 - (((p0.toUInt32 >>> ((1 : Int32).toUInt32 &&& Int32.toUInt32 31)).toInt32) &&& 1431655765)).toUInt32 >>> ((2 : Int32).toUInt32 &&& Int32.toUInt32 31)).toInt32) &&& 858993459)).toUInt32 >>> ((4 : Int32).toUInt32 &&& Int32.toUInt32 31)).toInt32)) &&& 252645135) + (((((((p0 - (((p0.toUInt32 >>> ((1 : Int32).toUInt32 &&& Int32.toUInt32 31)).toInt32) &&& 1431655765)) &&& 858993459) + ((((p0 - (((p0.toUInt32 >>> ((1 : Int32).toUInt32 &&& Int32.toUInt32 31)).toInt32) &&& 1431655765)).toUInt32 >>> ((2 : Int32).toUInt32 &&& Int32.toUInt32 31)).toInt32) &&& 858993459)) + (((((p0 - (((p0.toUInt32 >>> ((1 : Int32).toUInt32 &&& Int32.toUInt32 31)).toInt32) &&& 1431655765)) &&& 858993459) + ((((p0 - (((p0.toUInt32 >>> ((1 : Int32).toUInt32 &&& Int32.toUInt32 31)).toInt32) &&& 1431655765)).toUInt32 >>> ((2 : Int32).toUInt32 &&& Int32.toUInt32 31)).toInt32) &&& 858993459)).toUInt32 >>> ((4 : Int32).toUInt32 &&& Int32.toUInt32 31)).toInt32)) &&& 252645135).toUInt32 >>> ((8 : Int32).toUInt32 &&& Int32.toUInt32 31)).toInt32)).toUInt32 >>> ((16 : Int32).toUInt32 &&& Int32.toUInt32 31)).toInt32)) &&& 63), M))
set_option maxRecDepth 100000 in
set_option maxHeartbeats 400000 in
theorem s_JN_bitCount {l : Launch} {G : xG} {Y : xY} {sz : Nat} {p0 : Int32}   {M M' : xMem} {r : Int32} (hf : f_JN_bitCount p0 M = some (r, M')) : xM l G y_JN_bitCount c_JN_bitCount 1 (some .int) 0 0 0 [.int p0] (xo G Y M) sz (some (.int r)) (xo G Y M') sz := by
  unfold f_JN_bitCount at hf
  refine xM.of (k := 0) (L0 := [some (.int p0)]) (by decide) (Nat.le_of_ble_eq_true rfl) rfl ?_
  intro p e s m args below meth c hc hnm
  have hR : xRm { frames := 0, cells := 0, slots := 0, locals := 48 * 0 } 0 := ⟨Nat.le_refl _, Nat.le_refl _⟩
  refine x_iload_n hc (xd dk_JN_bitCount 0 rfl) rfl rfl ?_
  refine x_iload_n hc (xd dk_JN_bitCount 1 rfl) rfl rfl ?_
  refine x_iconst hc (v := 1) (xd dk_JN_bitCount 2 rfl) (by decide) ?_
  refine x_iushr hc (xd dk_JN_bitCount 3 rfl) rfl ?_
  refine x_ldcwI hc xw915 (xd dk_JN_bitCount 4 rfl) ?_
  refine x_iand hc (xd dk_JN_bitCount 5 rfl) ?_
  refine x_isub hc (xd dk_JN_bitCount 6 rfl) ?_
  refine x_istore_n hc (xd dk_JN_bitCount 7 rfl) (by decide) rfl ?_
  refine x_iload_n hc (xd dk_JN_bitCount 8 rfl) rfl rfl ?_
  refine x_ldcwI hc xw916 (xd dk_JN_bitCount 9 rfl) ?_
  refine x_iand hc (xd dk_JN_bitCount 10 rfl) ?_
  refine x_iload_n hc (xd dk_JN_bitCount 11 rfl) rfl rfl ?_
  refine x_iconst hc (v := 2) (xd dk_JN_bitCount 12 rfl) (by decide) ?_
  refine x_iushr hc (xd dk_JN_bitCount 13 rfl) rfl ?_
  refine x_ldcwI hc xw916 (xd dk_JN_bitCount 14 rfl) ?_
  refine x_iand hc (xd dk_JN_bitCount 15 rfl) ?_
  refine x_iadd hc (xd dk_JN_bitCount 16 rfl) ?_
  refine x_istore_n hc (xd dk_JN_bitCount 17 rfl) (by decide) rfl ?_
  refine x_iload_n hc (xd dk_JN_bitCount 18 rfl) rfl rfl ?_
  refine x_iload_n hc (xd dk_JN_bitCount 19 rfl) rfl rfl ?_
  refine x_iconst hc (v := 4) (xd dk_JN_bitCount 20 rfl) (by decide) ?_
  refine x_iushr hc (xd dk_JN_bitCount 21 rfl) rfl ?_
  refine x_iadd hc (xd dk_JN_bitCount 22 rfl) ?_
  refine x_ldcwI hc xw917 (xd dk_JN_bitCount 23 rfl) ?_
  refine x_iand hc (xd dk_JN_bitCount 24 rfl) ?_
  refine x_istore_n hc (xd dk_JN_bitCount 25 rfl) (by decide) rfl ?_
  refine x_iload_n hc (xd dk_JN_bitCount 26 rfl) rfl rfl ?_
  refine x_iload_n hc (xd dk_JN_bitCount 27 rfl) rfl rfl ?_
  refine x_bipush hc (v := 8) (xd dk_JN_bitCount 28 rfl) (by decide) ?_
  refine x_iushr hc (xd dk_JN_bitCount 29 rfl) rfl ?_
  refine x_iadd hc (xd dk_JN_bitCount 30 rfl) ?_
  refine x_istore_n hc (xd dk_JN_bitCount 31 rfl) (by decide) rfl ?_
  refine x_iload_n hc (xd dk_JN_bitCount 32 rfl) rfl rfl ?_
  refine x_iload_n hc (xd dk_JN_bitCount 33 rfl) rfl rfl ?_
  refine x_bipush hc (v := 16) (xd dk_JN_bitCount 34 rfl) (by decide) ?_
  refine x_iushr hc (xd dk_JN_bitCount 35 rfl) rfl ?_
  refine x_iadd hc (xd dk_JN_bitCount 36 rfl) ?_
  refine x_istore_n hc (xd dk_JN_bitCount 37 rfl) (by decide) rfl ?_
  refine x_iload_n hc (xd dk_JN_bitCount 38 rfl) rfl rfl ?_
  refine x_bipush hc (v := 63) (xd dk_JN_bitCount 39 rfl) (by decide) ?_
  refine x_iand hc (xd dk_JN_bitCount 40 rfl) ?_
  cases hf
  exact x_ireturn hc (xd dk_JN_bitCount 41 rfl)
