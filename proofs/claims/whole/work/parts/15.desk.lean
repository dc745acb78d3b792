/-! the desk: its methods where they return (printed by gen/gen.py) -/
def f_D_takeSpare (b : Nat) (M : xMem) : Option (Unit × xMem) :=
  (xsrc b (M.2.2.2 0) fun z3 => xsrc b (M.2.2.2 1) fun z4 => xlet (wR M 0 z4) fun M => xlet (wR M 1 z3) fun M => some ((), M))
set_option maxRecDepth 100000 in
set_option maxHeartbeats 400000 in
theorem s_D_takeSpare {l : Launch} {G : xG} {Y : xY} {sz : Nat} {b : Nat}  (hb : xDk Y b) {M M' : xMem} {r : Unit} (hf : f_D_takeSpare b M = some (r, M')) : xM l G y_D_takeSpare c_D_takeSpare 2 none 0 0 0 [.ref b] (xo G Y M) sz none (xo G Y M') sz := by
  unfold f_D_takeSpare at hf
  refine xM.of (k := 1) (L0 := [some (.ref b), none]) (by decide) (Nat.le_of_ble_eq_true rfl) rfl ?_
  intro p e s m args below meth c hc hnm
  have hR : xRm { frames := 0, cells := 0, slots := 0, locals := 48 * 0 } 0 := ⟨Nat.le_refl _, Nat.le_refl _⟩
  refine x_aload_n hc (xd dk_D_takeSpare 0 rfl) rfl rfl ?_
  refine x_get hc (ci := 0) (k := 2) fi_D (c_D hb _) rfl (by decide) rfl xw690 rfl (xd dk_D_takeSpare 1 rfl) ?_
  obtain ⟨z3, ez3, hz3, hf⟩ := xsrc_some hf
  rw [← ez3]
  refine x_astore_n hc (xd dk_D_takeSpare 2 rfl) (by decide) rfl ?_
  refine x_aload_n hc (xd dk_D_takeSpare 3 rfl) rfl rfl ?_
  refine x_aload_n hc (xd dk_D_takeSpare 4 rfl) rfl rfl ?_
  refine x_get hc (ci := 0) (k := 3) fi_D (c_D hb _) rfl (by decide) rfl xw691 rfl (xd dk_D_takeSpare 5 rfl) ?_
  obtain ⟨z4, ez4, hz4, hf⟩ := xsrc_some hf
  rw [← ez4]
  refine x_put hc (ci := 0) (k := 2) fi_D ft_D ft_D_ok fn_D (c_D hb _) rfl (by decide) rfl xw690 rfl rfl rfl (Nat.le_of_ble_eq_true rfl) (xd dk_D_takeSpare 6 rfl) ?_
  rw [w_D_2 hb]
  replace hf := xlet_some hf
  generalize wR M 0 z4 = M at hf ⊢
  refine x_aload_n hc (xd dk_D_takeSpare 7 rfl) rfl rfl ?_
  refine x_aload_n hc (xd dk_D_takeSpare 8 rfl) rfl rfl ?_
  refine x_put hc (ci := 0) (k := 3) fi_D ft_D ft_D_ok fn_D (c_D hb _) rfl (by decide) rfl xw691 rfl rfl rfl (Nat.le_of_ble_eq_true rfl) (xd dk_D_takeSpare 9 rfl) ?_
  rw [w_D_3 hb]
  replace hf := xlet_some hf
  generalize wR M 1 z3 = M at hf ⊢
  cases hf
  exact x_return hc (xd dk_D_takeSpare 10 rfl)
def f_D_wrong (b : Nat) (M : xMem) : Option (Int32 × xMem) :=
  (some (M.1 b 4, M))
set_option maxRecDepth 100000 in
set_option maxHeartbeats 400000 in
theorem s_D_wrong {l : Launch} {G : xG} {Y : xY} {sz : Nat} {b : Nat}  (hb : xDk Y b) {M M' : xMem} {r : Int32} (hf : f_D_wrong b M = some (r, M')) : xM l G y_D_wrong c_D_wrong 1 (some .int) 0 0 0 [.ref b] (xo G Y M) sz (some (.int r)) (xo G Y M') sz := by
  unfold f_D_wrong at hf
  refine xM.of (k := 0) (L0 := [some (.ref b)]) (by decide) (Nat.le_of_ble_eq_true rfl) rfl ?_
  intro p e s m args below meth c hc hnm
  have hR : xRm { frames := 0, cells := 0, slots := 0, locals := 48 * 0 } 0 := ⟨Nat.le_refl _, Nat.le_refl _⟩
  refine x_aload_n hc (xd dk_D_wrong 0 rfl) rfl rfl ?_
  refine x_get hc (ci := 0) (k := 4) fi_D (c_D hb _) rfl (by decide) rfl xw692 rfl (xd dk_D_wrong 1 rfl) ?_
  cases hf
  exact x_ireturn hc (xd dk_D_wrong 2 rfl)
def f_D_mendedFrom (b : Nat) (p1 : Int32) (p2 : Int32) (M : xMem) : Option (Int32 × xMem) :=
  (if p2 = 6 then (xsrc b (M.2.2.2 0) fun z11 => xbind (f_T_endOf z11 p1 M) fun r12 M => some (r12, M)) else (xsrc b (M.2.2.2 0) fun z8 => xbind (f_T_startOf z8 p1 M) fun r9 M => some (r9, M)))
set_option maxRecDepth 100000 in
set_option maxHeartbeats 400000 in
theorem s_D_mendedFrom {l : Launch} {G : xG} {Y : xY} {sz : Nat} {b : Nat} {p1 : Int32} {p2 : Int32}  (hb : xDk Y b) {M M' : xMem} {r : Int32} (hf : f_D_mendedFrom b p1 p2 M = some (r, M')) : xM l G y_D_mendedFrom c_D_mendedFrom 3 (some .int) 2 0 0 [.ref b, .int p1, .int p2] (xo G Y M) sz (some (.int r)) (xo G Y M') sz := by
  unfold f_D_mendedFrom at hf
  refine xM.of (k := 0) (L0 := [some (.ref b), some (.int p1), some (.int p2)]) (by decide) (Nat.le_of_ble_eq_true rfl) rfl ?_
  intro p e s m args below meth c hc hnm
  have hR : xRm { frames := 2, cells := 0, slots := 0, locals := 48 * 2 } 2 := ⟨Nat.le_refl _, Nat.le_refl _⟩
  refine x_iload_n hc (xd dk_D_mendedFrom 0 rfl) rfl rfl ?_
  refine x_bipush hc (v := 6) (xd dk_D_mendedFrom 1 rfl) (by decide) ?_
  refine x_icmp_ne hc (tgt := 20) (xd dk_D_mendedFrom 2 rfl) rfl (fun q7 => ?_) (fun q7 => ?_)
  · rw [if_neg q7] at hf
    refine x_aload_n hc (xd dk_D_mendedFrom 9 rfl) rfl rfl ?_
    refine x_get hc (ci := 0) (k := 2) fi_D (c_D hb _) rfl (by decide) rfl xw690 rfl (xd dk_D_mendedFrom 10 rfl) ?_
    obtain ⟨z8, ez8, hz8, hf⟩ := xsrc_some hf
    rw [← ez8]
    refine x_getN hc (ci := 9) (k := 1) fi_R (c_R (hb.rd hz8) _) rfl (by decide) rfl xn261 rfl (xd dk_D_mendedFrom 11 rfl) ?_
    refine x_iload_n hc (xd dk_D_mendedFrom 12 rfl) rfl rfl ?_
    obtain ⟨r9, M, e10, hf⟩ := xbind_some hf
    refine x_callV hc (As := [.int p1]) (n := 1) (s_T_startOf (hb.rd hz8) e10) (c_T (hb.rd hz8) _) rfl (hR.call (by decide) (by decide)) ⟨by decide, by decide, by decide⟩ rfl rfl xw625 xw4 xw772 xw623 xw624 (Nat.le_of_ble_eq_true rfl) ⟨Nat.zero_le _, Nat.zero_le _⟩ (xd dk_D_mendedFrom 13 rfl) ?_
    cases hf
    exact x_ireturn hc (xd dk_D_mendedFrom 14 rfl)
  · rw [if_pos q7] at hf
    refine x_aload_n hc (xd dk_D_mendedFrom 3 rfl) rfl rfl ?_
    refine x_get hc (ci := 0) (k := 2) fi_D (c_D hb _) rfl (by decide) rfl xw690 rfl (xd dk_D_mendedFrom 4 rfl) ?_
    obtain ⟨z11, ez11, hz11, hf⟩ := xsrc_some hf
    rw [← ez11]
    refine x_getN hc (ci := 9) (k := 1) fi_R (c_R (hb.rd hz11) _) rfl (by decide) rfl xn261 rfl (xd dk_D_mendedFrom 5 rfl) ?_
    refine x_iload_n hc (xd dk_D_mendedFrom 6 rfl) rfl rfl ?_
    obtain ⟨r12, M, e13, hf⟩ := xbind_some hf
    refine x_callV hc (As := [.int p1]) (n := 1) (s_T_endOf (hb.rd hz11) e13) (c_T (hb.rd hz11) _) rfl (hR.call (by decide) (by decide)) ⟨by decide, by decide, by decide⟩ rfl rfl xw621 xw4 xw767 xw619 xw620 (Nat.le_of_ble_eq_true rfl) ⟨Nat.zero_le _, Nat.zero_le _⟩ (xd dk_D_mendedFrom 7 rfl) ?_
    refine x_goto hc (tgt := 31) (xd dk_D_mendedFrom 8 rfl) rfl ?_
    cases hf
    exact x_ireturn hc (xd dk_D_mendedFrom 14 rfl)
def f_D_mendedTo_20 (b : Nat) (p1 : Int32) (p2 : Int32) (w0 : Nat) (w1 : Int32) (M : xMem) : Option (Int32 × xMem) :=
  (if (w0 = b + 5 ∨ w0 = b + 36) then xbind (f_T_endOf w0 w1 M) fun r4 M => some (r4, M) else none)
def f_D_mendedTo (b : Nat) (p1 : Int32) (p2 : Int32) (M : xMem) : Option (Int32 × xMem) :=
  (xsrc b (M.2.2.2 0) fun z6 => if p2 = 8 then (f_D_mendedTo_20 b p1 p2 z6 (p1 + 1) M) else (f_D_mendedTo_20 b p1 p2 z6 p1 M))
set_option maxRecDepth 100000 in
set_option maxHeartbeats 400000 in
theorem s_D_mendedTo_20 {p : Program} {l : Launch} {e : Env} {R : Room} {s : State} {m : MethodId} {args : Array Value} {below : List Frame} {meth : Method} {c : Code} {G : xG} {Y : xY} {sz : Nat} {b : Nat} {p1 : Int32} {p2 : Int32}  (hc : xC p s m args meth c G 3 c_D_mendedTo y_D_mendedTo.cls (some .int)) (hR : xRm R 2) (hb : xDk Y b) {M' : xMem} {r : Int32} (w0 : Nat) (w1 : Int32) (M : xMem) (hf : f_D_mendedTo_20 b p1 p2 w0 w1 M = some (r, M')) : xW p l e R s m args below meth c G 3 (MQ below (xQc G (some (.int r)) (xo G Y M') sz) args s 0 0 (xA G)) (xo G Y M) sz 0 0 20 [some (.ref b), some (.int p1), some (.int p2)] [.int w1, .ref (w0 + 2)] := by
  unfold f_D_mendedTo_20 at hf
  by_cases hw0 : (w0 = b + 5 ∨ w0 = b + 36)
  case neg => rw [if_neg hw0] at hf; cases hf
  rw [if_pos hw0] at hf
  obtain ⟨r4, M, e5, hf⟩ := xbind_some hf
  refine x_callV hc (As := [.int w1]) (n := 1) (s_T_endOf (hb.rd hw0) e5) (c_T (hb.rd hw0) _) rfl (hR.call (by decide) (by decide)) ⟨by decide, by decide, by decide⟩ rfl rfl xw621 xw4 xw767 xw619 xw620 (Nat.le_of_ble_eq_true rfl) ⟨Nat.zero_le _, Nat.zero_le _⟩ (xd dk_D_mendedTo 11 rfl) ?_
  cases hf
  exact x_ireturn hc (xd dk_D_mendedTo 12 rfl)
set_option maxRecDepth 100000 in
set_option maxHeartbeats 400000 in
theorem s_D_mendedTo {l : Launch} {G : xG} {Y : xY} {sz : Nat} {b : Nat} {p1 : Int32} {p2 : Int32}  (hb : xDk Y b) {M M' : xMem} {r : Int32} (hf : f_D_mendedTo b p1 p2 M = some (r, M')) : xM l G y_D_mendedTo c_D_mendedTo 3 (some .int) 2 0 0 [.ref b, .int p1, .int p2] (xo G Y M) sz (some (.int r)) (xo G Y M') sz := by
  unfold f_D_mendedTo at hf
  refine xM.of (k := 0) (L0 := [some (.ref b), some (.int p1), some (.int p2)]) (by decide) (Nat.le_of_ble_eq_true rfl) rfl ?_
  intro p e s m args below meth c hc hnm
  have hR : xRm { frames := 2, cells := 0, slots := 0, locals := 48 * 2 } 2 := ⟨Nat.le_refl _, Nat.le_refl _⟩
  refine x_aload_n hc (xd dk_D_mendedTo 0 rfl) rfl rfl ?_
  refine x_get hc (ci := 0) (k := 2) fi_D (c_D hb _) rfl (by decide) rfl xw690 rfl (xd dk_D_mendedTo 1 rfl) ?_
  obtain ⟨z6, ez6, hz6, hf⟩ := xsrc_some hf
  rw [← ez6]
  refine x_getN hc (ci := 9) (k := 1) fi_R (c_R (hb.rd hz6) _) rfl (by decide) rfl xn261 rfl (xd dk_D_mendedTo 2 rfl) ?_
  refine x_iload_n hc (xd dk_D_mendedTo 3 rfl) rfl rfl ?_
  refine x_bipush hc (v := 8) (xd dk_D_mendedTo 4 rfl) (by decide) ?_
  refine x_icmp_ne hc (tgt := 19) (xd dk_D_mendedTo 5 rfl) rfl (fun q7 => ?_) (fun q7 => ?_)
  · rw [if_neg q7] at hf
    refine x_iload_n hc (xd dk_D_mendedTo 10 rfl) rfl rfl ?_
    exact s_D_mendedTo_20 hc hR hb z6 p1 M hf
  · rw [if_pos q7] at hf
    refine x_iload_n hc (xd dk_D_mendedTo 6 rfl) rfl rfl ?_
    refine x_iconst hc (v := 1) (xd dk_D_mendedTo 7 rfl) (by decide) ?_
    refine x_iadd hc (xd dk_D_mendedTo 8 rfl) ?_
    refine x_goto hc (tgt := 20) (xd dk_D_mendedTo 9 rfl) rfl ?_
    exact s_D_mendedTo_20 hc hR hb z6 (p1 + 1) M hf
def f_D_writeMended_85 (b : Nat) (k16 : Nat → Int32 → Int32 → xMem → Option (Unit × xMem)) (v1 : Nat) (v2 : Int32) (v3 : Int32) (v4 : Int32) (M : xMem) : Option (Unit × xMem) :=
  (if (v1 = b + 5 ∨ v1 = b + 36) then k16 v1 v2 (v3 + Int32.ofInt 1) M else none)
def f_D_writeMended_16 (b : Nat) : Nat → Nat → Int32 → Int32 → xMem → Option (Unit × xMem)
  | 0, _, _, _, _ => none
  | n + 1, v1, v2, v3, M =>
    (if (v1 = b + 5 ∨ v1 = b + 36) then xsrc b (M.2.2.2 0) fun z23 => if M.1 (z23 + 2) 6 ≤ v3 then (xsrc b (M.2.2.2 0) fun z25 => xsrc b (M.2.2.2 0) fun z26 => xval (M.1 z26 1) fun x27 => xbind (f_L_addPart v1 z25 v2 x27 M) fun r28 M => some ((), M)) else (xsrc b (M.2.2.2 0) fun z30 => xbind (f_G_mendableAt (b + 3) z30 v3 M) fun r31 M => if r31 < 0 then (f_D_writeMended_85 b (f_D_writeMended_16 b n) v1 v2 v3 r31 M) else (xsrc b (M.2.2.2 0) fun z34 => xbind (f_D_mendedFrom b v3 r31 M) fun r35 M => xbind (f_L_addPart v1 z34 v2 r35 M) fun r37 M => xbind (f_D_mendedText r31 M) fun r39 M => if r39 < 28 then xbind (f_L_addText v1 r39 M) fun r41 M => xbind (f_D_mendedTo b v3 r31 M) fun r43 M => f_D_writeMended_85 b (f_D_writeMended_16 b n) v1 r43 v3 r31 M else none)) else none)
def f_D_writeMended (b : Nat) (M : xMem) : Option (Unit × xMem) :=
  (xsrc b (M.2.2.2 1) fun z45 => xbind (f_L_clear z45 M) fun r46 M => f_D_writeMended_16 b xFuel z45 0 0 M)
set_option maxRecDepth 100000 in
set_option maxHeartbeats 400000 in
theorem s_D_writeMended_85 {p : Program} {l : Launch} {e : Env} {R : Room} {s : State} {m : MethodId} {args : Array Value} {below : List Frame} {meth : Method} {c : Code} {G : xG} {Y : xY} {sz : Nat} {b : Nat}  (hc : xC p s m args meth c G 5 c_D_writeMended y_D_writeMended.cls none) (hR : xRm R 5) (hb : xDk Y b) {k16 : Nat → Int32 → Int32 → xMem → Option (Unit × xMem)} {M' : xMem} {r : Unit} (hk16 : ∀ (v1 : Nat) (v2 : Int32) (v3 : Int32) (M : xMem), k16 v1 v2 v3 M = some (r, M') → xW p l e R s m args below meth c G 5 (MQ below (xQc G none (xo G Y M') sz) args s 0 0 (xA G)) (xo G Y M) sz 0 0 16 [some (.ref b), some (.ref v1), some (.int v2), some (.int v3), none] []) (v1 : Nat) (v2 : Int32) (v3 : Int32) (v4 : Int32) (M : xMem) (hf : f_D_writeMended_85 b k16 v1 v2 v3 v4 M = some (r, M')) : xW p l e R s m args below meth c G 5 (MQ below (xQc G none (xo G Y M') sz) args s 0 0 (xA G)) (xo G Y M) sz 0 0 85 [some (.ref b), some (.ref v1), some (.int v2), some (.int v3), some (.int v4)] [] := by
  unfold f_D_writeMended_85 at hf
  by_cases hv1 : (v1 = b + 5 ∨ v1 = b + 36)
  case neg => rw [if_neg hv1] at hf; cases hf
  rw [if_pos hv1] at hf
  refine x_iinc hc (xd dk_D_writeMended 44 rfl) rfl (by decide) rfl ?_
  refine x_goto hc (tgt := 16) (xd dk_D_writeMended 45 rfl) rfl ?_
  refine x_drop 4 ?_
  exact hk16 v1 v2 (v3 + Int32.ofInt 1) M hf
set_option maxRecDepth 100000 in
set_option maxHeartbeats 400000 in
theorem s_D_writeMended_16 {p : Program} {l : Launch} {e : Env} {R : Room} {s : State} {m : MethodId} {args : Array Value} {below : List Frame} {meth : Method} {c : Code} {G : xG} {Y : xY} {sz : Nat} {b : Nat}  (hc : xC p s m args meth c G 5 c_D_writeMended y_D_writeMended.cls none) (hR : xRm R 5) (hb : xDk Y b) {M' : xMem} {r : Unit} : ∀ (n : Nat) (v1 : Nat) (v2 : Int32) (v3 : Int32) (M : xMem), f_D_writeMended_16 b n v1 v2 v3 M = some (r, M') → xW p l e R s m args below meth c G 5 (MQ below (xQc G none (xo G Y M') sz) args s 0 0 (xA G)) (xo G Y M) sz 0 0 16 [some (.ref b), some (.ref v1), some (.int v2), some (.int v3), none] [] := by
  intro n
  induction n with
  | zero => intro v1 v2 v3 M hf; simp only [f_D_writeMended_16] at hf; cases hf
  | succ n ih =>
    intro v1 v2 v3 M hf
    simp only [f_D_writeMended_16] at hf
    by_cases hv1 : (v1 = b + 5 ∨ v1 = b + 36)
    case neg => rw [if_neg hv1] at hf; cases hf
    rw [if_pos hv1] at hf
    refine x_iload_n hc (xd dk_D_writeMended 10 rfl) rfl rfl ?_
    refine x_aload_n hc (xd dk_D_writeMended 11 rfl) rfl rfl ?_
    refine x_get hc (ci := 0) (k := 2) fi_D (c_D hb _) rfl (by decide) rfl xw690 rfl (xd dk_D_writeMended 12 rfl) ?_
    obtain ⟨z23, ez23, hz23, hf⟩ := xsrc_some hf
    rw [← ez23]
    refine x_getN hc (ci := 9) (k := 1) fi_R (c_R (hb.rd hz23) _) rfl (by decide) rfl xn261 rfl (xd dk_D_writeMended 13 rfl) ?_
    refine x_getN hc (ci := 3) (k := 6) fi_T (c_T (hb.rd hz23) _) rfl (by decide) rfl xn87 rfl (xd dk_D_writeMended 14 rfl) ?_
    refine x_icmp_ge hc (tgt := 91) (xd dk_D_writeMended 15 rfl) rfl (fun q24 => ?_) (fun q24 => ?_)
    · rw [if_pos q24] at hf
      refine x_aload_n hc (xd dk_D_writeMended 46 rfl) rfl rfl ?_
      refine x_aload_n hc (xd dk_D_writeMended 47 rfl) rfl rfl ?_
      refine x_get hc (ci := 0) (k := 2) fi_D (c_D hb _) rfl (by decide) rfl xw690 rfl (xd dk_D_writeMended 48 rfl) ?_
      obtain ⟨z25, ez25, hz25, hf⟩ := xsrc_some hf
      rw [← ez25]
      refine x_getN hc (ci := 9) (k := 0) fi_R (c_R (hb.rd hz25) _) rfl (by decide) rfl xn258 rfl (xd dk_D_writeMended 49 rfl) ?_
      refine x_iload_n hc (xd dk_D_writeMended 50 rfl) rfl rfl ?_
      refine x_aload_n hc (xd dk_D_writeMended 51 rfl) rfl rfl ?_
      refine x_get hc (ci := 0) (k := 2) fi_D (c_D hb _) rfl (by decide) rfl xw690 rfl (xd dk_D_writeMended 52 rfl) ?_
      obtain ⟨z26, ez26, hz26, hf⟩ := xsrc_some hf
      rw [← ez26]
      refine x_getN hc (ci := 9) (k := 0) fi_R (c_R (hb.rd hz26) _) rfl (by decide) rfl xn258 rfl (xd dk_D_writeMended 53 rfl) ?_
      refine x_getN hc (ci := 1) (k := 1) fi_L (c_L (hb.rd hz26).L _) rfl (by decide) rfl xn42 rfl (xd dk_D_writeMended 54 rfl) ?_
      obtain ⟨x27, hx27, hf⟩ := xval_ex hf
      rw [← hx27]
      obtain ⟨r28, M, e29, hf⟩ := xbind_some hf
      refine x_callV hc (As := [.ref z25, .int v2, .int x27]) (n := 3) (s_L_addPart ((hb.rd hv1).L) ((hb.rd hz25).L) e29) (c_L (hb.rd hv1).L _) rfl (hR.call (by decide) (by decide)) ⟨by decide, by decide, by decide⟩ rfl rfl xw784 xw2 xw781 xw782 xw783 (Nat.le_of_ble_eq_true rfl) ⟨Nat.zero_le _, Nat.zero_le _⟩ (xd dk_D_writeMended 55 rfl) ?_
      cases hf
      exact x_return hc (xd dk_D_writeMended 56 rfl)
    · rw [if_neg q24] at hf
      refine x_aload_n hc (xd dk_D_writeMended 16 rfl) rfl rfl ?_
      refine x_get hc (ci := 0) (k := 1) fi_D (c_D hb _) rfl (by decide) rfl xw689 rfl (xd dk_D_writeMended 17 rfl) ?_
      refine x_aload_n hc (xd dk_D_writeMended 18 rfl) rfl rfl ?_
      refine x_get hc (ci := 0) (k := 2) fi_D (c_D hb _) rfl (by decide) rfl xw690 rfl (xd dk_D_writeMended 19 rfl) ?_
      obtain ⟨z30, ez30, hz30, hf⟩ := xsrc_some hf
      rw [← ez30]
      refine x_iload_n hc (xd dk_D_writeMended 20 rfl) rfl rfl ?_
      obtain ⟨r31, M, e32, hf⟩ := xbind_some hf
      refine x_callV hc (As := [.ref (z30 + 30), .int v3]) (n := 2) (s_G_mendableAt hb.g (hb.rd hz30) e32) (c_G hb.g _) rfl (hR.call (by decide) (by decide)) ⟨by decide, by decide, by decide⟩ rfl rfl xw722 xw3 xw755 xw720 xw721 (Nat.le_of_ble_eq_true rfl) ⟨Nat.zero_le _, Nat.zero_le _⟩ (xd dk_D_writeMended 21 rfl) ?_
      refine x_istore hc (xd dk_D_writeMended 22 rfl) (by decide) rfl ?_
      refine x_iload hc (xd dk_D_writeMended 23 rfl) rfl ?_
      refine x_if_lt hc (tgt := 85) (xd dk_D_writeMended 24 rfl) rfl (fun q33 => ?_) (fun q33 => ?_)
      · rw [if_pos q33] at hf
        exact s_D_writeMended_85 hc hR hb ih v1 v2 v3 r31 M hf
      · rw [if_neg q33] at hf
        refine x_aload_n hc (xd dk_D_writeMended 25 rfl) rfl rfl ?_
        refine x_aload_n hc (xd dk_D_writeMended 26 rfl) rfl rfl ?_
        refine x_get hc (ci := 0) (k := 2) fi_D (c_D hb _) rfl (by decide) rfl xw690 rfl (xd dk_D_writeMended 27 rfl) ?_
        obtain ⟨z34, ez34, hz34, hf⟩ := xsrc_some hf
        rw [← ez34]
        refine x_getN hc (ci := 9) (k := 0) fi_R (c_R (hb.rd hz34) _) rfl (by decide) rfl xn258 rfl (xd dk_D_writeMended 28 rfl) ?_
        refine x_iload_n hc (xd dk_D_writeMended 29 rfl) rfl rfl ?_
        refine x_aload_n hc (xd dk_D_writeMended 30 rfl) rfl rfl ?_
        refine x_iload_n hc (xd dk_D_writeMended 31 rfl) rfl rfl ?_
        refine x_iload hc (xd dk_D_writeMended 32 rfl) rfl ?_
        obtain ⟨r35, M, e36, hf⟩ := xbind_some hf
        refine x_callV hc (As := [.int v3, .int r31]) (n := 2) (s_D_mendedFrom hb e36) (c_D hb _) rfl (hR.call (by decide) (by decide)) ⟨by decide, by decide, by decide⟩ rfl rfl xw771 xw1 xw768 xw770 xs_D_mendedFrom (Nat.le_of_ble_eq_true rfl) ⟨Nat.zero_le _, Nat.zero_le _⟩ (xd dk_D_writeMended 33 rfl) ?_
        obtain ⟨r37, M, e38, hf⟩ := xbind_some hf
        refine x_callV hc (As := [.ref z34, .int v2, .int r35]) (n := 3) (s_L_addPart ((hb.rd hv1).L) ((hb.rd hz34).L) e38) (c_L (hb.rd hv1).L _) rfl (hR.call (by decide) (by decide)) ⟨by decide, by decide, by decide⟩ rfl rfl xw784 xw2 xw781 xw782 xw783 (Nat.le_of_ble_eq_true rfl) ⟨Nat.zero_le _, Nat.zero_le _⟩ (xd dk_D_writeMended 34 rfl) ?_
        refine x_aload_n hc (xd dk_D_writeMended 35 rfl) rfl rfl ?_
        refine x_iload hc (xd dk_D_writeMended 36 rfl) rfl ?_
        obtain ⟨r39, M, e40, hf⟩ := xbind_some hf
        refine x_callS hc (As := [.int r31]) (n := 1) (s_D_mendedText e40) (hR.call (by decide) (by decide)) ⟨by decide, by decide, by decide⟩ rfl rfl xw758 xw1 xw756 xw757 (Nat.le_of_ble_eq_true rfl) ⟨Nat.zero_le _, Nat.zero_le _⟩ (xd dk_D_writeMended 37 rfl) ?_
        by_cases htr39 : r39 < 28
        case neg => rw [if_neg htr39] at hf; cases hf
        rw [if_pos htr39] at hf
        obtain ⟨r41, M, e42, hf⟩ := xbind_some hf
        refine x_callV hc (As := [.ref (gK G r39)]) (n := 1) (s_L_addText ((hb.rd hv1).L) e42) (c_L (hb.rd hv1).L _) rfl (hR.call (by decide) (by decide)) ⟨by decide, by decide, by decide⟩ rfl rfl xw792 xw2 xw789 xw790 xw791 (Nat.le_of_ble_eq_true rfl) ⟨Nat.zero_le _, Nat.zero_le _⟩ (xd dk_D_writeMended 38 rfl) ?_
        refine x_aload_n hc (xd dk_D_writeMended 39 rfl) rfl rfl ?_
        refine x_iload_n hc (xd dk_D_writeMended 40 rfl) rfl rfl ?_
        refine x_iload hc (xd dk_D_writeMended 41 rfl) rfl ?_
        obtain ⟨r43, M, e44, hf⟩ := xbind_some hf
        refine x_callV hc (As := [.int v3, .int r31]) (n := 2) (s_D_mendedTo hb e44) (c_D hb _) rfl (hR.call (by decide) (by decide)) ⟨by decide, by decide, by decide⟩ rfl rfl xw766 xw1 xw763 xw765 xs_D_mendedTo (Nat.le_of_ble_eq_true rfl) ⟨Nat.zero_le _, Nat.zero_le _⟩ (xd dk_D_writeMended 42 rfl) ?_
        refine x_istore_n hc (xd dk_D_writeMended 43 rfl) (by decide) rfl ?_
        exact s_D_writeMended_85 hc hR hb ih v1 r43 v3 r31 M hf
set_option maxRecDepth 100000 in
set_option maxHeartbeats 400000 in
theorem s_D_writeMended {l : Launch} {G : xG} {Y : xY} {sz : Nat} {b : Nat}  (hb : xDk Y b) {M M' : xMem} {r : Unit} (hf : f_D_writeMended b M = some (r, M')) : xM l G y_D_writeMended c_D_writeMended 5 none 5 0 0 [.ref b] (xo G Y M) sz none (xo G Y M') sz := by
  unfold f_D_writeMended at hf
  refine xM.of (k := 4) (L0 := [some (.ref b), none, none, none, none]) (by decide) (Nat.le_of_ble_eq_true rfl) rfl ?_
  intro p e s m args below meth c hc hnm
  have hR : xRm { frames := 5, cells := 0, slots := 0, locals := 48 * 5 } 5 := ⟨Nat.le_refl _, Nat.le_refl _⟩
  refine x_aload_n hc (xd dk_D_writeMended 0 rfl) rfl rfl ?_
  refine x_get hc (ci := 0) (k := 3) fi_D (c_D hb _) rfl (by decide) rfl xw691 rfl (xd dk_D_writeMended 1 rfl) ?_
  obtain ⟨z45, ez45, hz45, hf⟩ := xsrc_some hf
  rw [← ez45]
  refine x_getN hc (ci := 9) (k := 0) fi_R (c_R (hb.rd hz45) _) rfl (by decide) rfl xn258 rfl (xd dk_D_writeMended 2 rfl) ?_
  refine x_astore_n hc (xd dk_D_writeMended 3 rfl) (by decide) rfl ?_
  refine x_iconst hc (v := 0) (xd dk_D_writeMended 4 rfl) (by decide) ?_
  refine x_istore_n hc (xd dk_D_writeMended 5 rfl) (by decide) rfl ?_
  refine x_aload_n hc (xd dk_D_writeMended 6 rfl) rfl rfl ?_
  obtain ⟨r46, M, e47, hf⟩ := xbind_some hf
  refine x_callV hc (As := []) (n := 0) (s_L_clear ((hb.rd hz45).L) e47) (c_L (hb.rd hz45).L _) rfl (hR.call (by decide) (by decide)) ⟨by decide, by decide, by decide⟩ rfl rfl xw780 xw2 xw777 xw778 xw779 (Nat.le_of_ble_eq_true rfl) ⟨Nat.zero_le _, Nat.zero_le _⟩ (xd dk_D_writeMended 7 rfl) ?_
  refine x_iconst hc (v := 0) (xd dk_D_writeMended 8 rfl) (by decide) ?_
  refine x_istore_n hc (xd dk_D_writeMended 9 rfl) (by decide) rfl ?_
  exact s_D_writeMended_16 hc hR hb xFuel z45 0 0 M hf
def f_D_mendedSize_68 (b : Nat) (k13 : Int32 → Int32 → xMem → Option (Int32 × xMem)) (v1 : Int32) (v2 : Int32) (v3 : Int32) (M : xMem) : Option (Int32 × xMem) :=
  (k13 v1 (v2 + Int32.ofInt 1) M)
def f_D_mendedSize_13 (b : Nat) : Nat → Int32 → Int32 → xMem → Option (Int32 × xMem)
  | 0, _, _, _ => none
  | n + 1, v1, v2, M =>
    (xsrc b (M.2.2.2 0) fun z14 => if M.1 (z14 + 2) 6 ≤ v2 then (some (v1, M)) else (xsrc b (M.2.2.2 0) fun z16 => xbind (f_G_mendableAt (b + 3) z16 v2 M) fun r17 M => if r17 < 0 then (f_D_mendedSize_68 b (f_D_mendedSize_13 b n) v1 v2 r17 M) else (xbind (f_D_mendedText r17 M) fun r20 M => if r20 < 28 then xbind (f_JS_length r20 M) fun r22 M => xbind (f_D_mendedTo b v2 r17 M) fun r24 M => xbind (f_D_mendedFrom b v2 r17 M) fun r26 M => f_D_mendedSize_68 b (f_D_mendedSize_13 b n) (v1 + ((r22 - r24) + r26)) v2 r17 M else none)))
def f_D_mendedSize (b : Nat) (M : xMem) : Option (Int32 × xMem) :=
  (xsrc b (M.2.2.2 0) fun z28 => f_D_mendedSize_13 b xFuel (M.1 z28 1) 0 M)
set_option maxRecDepth 100000 in
set_option maxHeartbeats 400000 in
theorem s_D_mendedSize_68 {p : Program} {l : Launch} {e : Env} {R : Room} {s : State} {m : MethodId} {args : Array Value} {below : List Frame} {meth : Method} {c : Code} {G : xG} {Y : xY} {sz : Nat} {b : Nat}  (hc : xC p s m args meth c G 4 c_D_mendedSize y_D_mendedSize.cls (some .int)) (hR : xRm R 5) (hb : xDk Y b) {k13 : Int32 → Int32 → xMem → Option (Int32 × xMem)} {M' : xMem} {r : Int32} (hk13 : ∀ (v1 : Int32) (v2 : Int32) (M : xMem), k13 v1 v2 M = some (r, M') → xW p l e R s m args below meth c G 4 (MQ below (xQc G (some (.int r)) (xo G Y M') sz) args s 0 0 (xA G)) (xo G Y M) sz 0 0 13 [some (.ref b), some (.int v1), some (.int v2), none] []) (v1 : Int32) (v2 : Int32) (v3 : Int32) (M : xMem) (hf : f_D_mendedSize_68 b k13 v1 v2 v3 M = some (r, M')) : xW p l e R s m args below meth c G 4 (MQ below (xQc G (some (.int r)) (xo G Y M') sz) args s 0 0 (xA G)) (xo G Y M) sz 0 0 68 [some (.ref b), some (.int v1), some (.int v2), some (.int v3)] [] := by
  unfold f_D_mendedSize_68 at hf
  refine x_iinc hc (xd dk_D_mendedSize 38 rfl) rfl (by decide) rfl ?_
  refine x_goto hc (tgt := 13) (xd dk_D_mendedSize 39 rfl) rfl ?_
  refine x_drop 3 ?_
  exact hk13 v1 (v2 + Int32.ofInt 1) M hf
set_option maxRecDepth 100000 in
set_option maxHeartbeats 400000 in
theorem s_D_mendedSize_13 {p : Program} {l : Launch} {e : Env} {R : Room} {s : State} {m : MethodId} {args : Array Value} {below : List Frame} {meth : Method} {c : Code} {G : xG} {Y : xY} {sz : Nat} {b : Nat}  (hc : xC p s m args meth c G 4 c_D_mendedSize y_D_mendedSize.cls (some .int)) (hR : xRm R 5) (hb : xDk Y b) {M' : xMem} {r : Int32} : ∀ (n : Nat) (v1 : Int32) (v2 : Int32) (M : xMem), f_D_mendedSize_13 b n v1 v2 M = some (r, M') → xW p l e R s m args below meth c G 4 (MQ below (xQc G (some (.int r)) (xo G Y M') sz) args s 0 0 (xA G)) (xo G Y M) sz 0 0 13 [some (.ref b), some (.int v1), some (.int v2), none] [] := by
  intro n
  induction n with
  | zero => intro v1 v2 M hf; simp only [f_D_mendedSize_13] at hf; cases hf
  | succ n ih =>
    intro v1 v2 M hf
    simp only [f_D_mendedSize_13] at hf
    refine x_iload_n hc (xd dk_D_mendedSize 7 rfl) rfl rfl ?_
    refine x_aload_n hc (xd dk_D_mendedSize 8 rfl) rfl rfl ?_
    refine x_get hc (ci := 0) (k := 2) fi_D (c_D hb _) rfl (by decide) rfl xw690 rfl (xd dk_D_mendedSize 9 rfl) ?_
    obtain ⟨z14, ez14, hz14, hf⟩ := xsrc_some hf
    rw [← ez14]
    refine x_getN hc (ci := 9) (k := 1) fi_R (c_R (hb.rd hz14) _) rfl (by decide) rfl xn261 rfl (xd dk_D_mendedSize 10 rfl) ?_
    refine x_getN hc (ci := 3) (k := 6) fi_T (c_T (hb.rd hz14) _) rfl (by decide) rfl xn87 rfl (xd dk_D_mendedSize 11 rfl) ?_
    refine x_icmp_ge hc (tgt := 74) (xd dk_D_mendedSize 12 rfl) rfl (fun q15 => ?_) (fun q15 => ?_)
    · rw [if_pos q15] at hf
      refine x_iload_n hc (xd dk_D_mendedSize 40 rfl) rfl rfl ?_
      cases hf
      exact x_ireturn hc (xd dk_D_mendedSize 41 rfl)
    · rw [if_neg q15] at hf
      refine x_aload_n hc (xd dk_D_mendedSize 13 rfl) rfl rfl ?_
      refine x_get hc (ci := 0) (k := 1) fi_D (c_D hb _) rfl (by decide) rfl xw689 rfl (xd dk_D_mendedSize 14 rfl) ?_
      refine x_aload_n hc (xd dk_D_mendedSize 15 rfl) rfl rfl ?_
      refine x_get hc (ci := 0) (k := 2) fi_D (c_D hb _) rfl (by decide) rfl xw690 rfl (xd dk_D_mendedSize 16 rfl) ?_
      obtain ⟨z16, ez16, hz16, hf⟩ := xsrc_some hf
      rw [← ez16]
      refine x_iload_n hc (xd dk_D_mendedSize 17 rfl) rfl rfl ?_
      obtain ⟨r17, M, e18, hf⟩ := xbind_some hf
      refine x_callV hc (As := [.ref (z16 + 30), .int v2]) (n := 2) (s_G_mendableAt hb.g (hb.rd hz16) e18) (c_G hb.g _) rfl (hR.call (by decide) (by decide)) ⟨by decide, by decide, by decide⟩ rfl rfl xw722 xw3 xw755 xw720 xw721 (Nat.le_of_ble_eq_true rfl) ⟨Nat.zero_le _, Nat.zero_le _⟩ (xd dk_D_mendedSize 18 rfl) ?_
      refine x_istore_n hc (xd dk_D_mendedSize 19 rfl) (by decide) rfl ?_
      refine x_iload_n hc (xd dk_D_mendedSize 20 rfl) rfl rfl ?_
      refine x_if_lt hc (tgt := 68) (xd dk_D_mendedSize 21 rfl) rfl (fun q19 => ?_) (fun q19 => ?_)
      · rw [if_pos q19] at hf
        exact s_D_mendedSize_68 hc hR hb ih v1 v2 r17 M hf
      · rw [if_neg q19] at hf
        refine x_iload_n hc (xd dk_D_mendedSize 22 rfl) rfl rfl ?_
        refine x_iload_n hc (xd dk_D_mendedSize 23 rfl) rfl rfl ?_
        obtain ⟨r20, M, e21, hf⟩ := xbind_some hf
        refine x_callS hc (As := [.int r17]) (n := 1) (s_D_mendedText e21) (hR.call (by decide) (by decide)) ⟨by decide, by decide, by decide⟩ rfl rfl xw758 xw1 xw756 xw757 (Nat.le_of_ble_eq_true rfl) ⟨Nat.zero_le _, Nat.zero_le _⟩ (xd dk_D_mendedSize 24 rfl) ?_
        by_cases htr20 : r20 < 28
        case neg => rw [if_neg htr20] at hf; cases hf
        rw [if_pos htr20] at hf
        obtain ⟨r22, M, e23, hf⟩ := xbind_some hf
        refine x_callVO hc (As := []) (n := 0) (s_JS_length e23) ((hc.tk htr20).2.2.2.2.2.2.2.1) (hR.call (by decide) (by decide)) ⟨by decide, by decide, by decide⟩ rfl rfl xw373 xw13 xw762 xw371 xw372 (Nat.le_of_ble_eq_true rfl) ⟨Nat.zero_le _, Nat.zero_le _⟩ (xd dk_D_mendedSize 25 rfl) ?_
        refine x_aload_n hc (xd dk_D_mendedSize 26 rfl) rfl rfl ?_
        refine x_iload_n hc (xd dk_D_mendedSize 27 rfl) rfl rfl ?_
        refine x_iload_n hc (xd dk_D_mendedSize 28 rfl) rfl rfl ?_
        obtain ⟨r24, M, e25, hf⟩ := xbind_some hf
        refine x_callV hc (As := [.int v2, .int r17]) (n := 2) (s_D_mendedTo hb e25) (c_D hb _) rfl (hR.call (by decide) (by decide)) ⟨by decide, by decide, by decide⟩ rfl rfl xw766 xw1 xw763 xw765 xs_D_mendedTo (Nat.le_of_ble_eq_true rfl) ⟨Nat.zero_le _, Nat.zero_le _⟩ (xd dk_D_mendedSize 29 rfl) ?_
        refine x_isub hc (xd dk_D_mendedSize 30 rfl) ?_
        refine x_aload_n hc (xd dk_D_mendedSize 31 rfl) rfl rfl ?_
        refine x_iload_n hc (xd dk_D_mendedSize 32 rfl) rfl rfl ?_
        refine x_iload_n hc (xd dk_D_mendedSize 33 rfl) rfl rfl ?_
        obtain ⟨r26, M, e27, hf⟩ := xbind_some hf
        refine x_callV hc (As := [.int v2, .int r17]) (n := 2) (s_D_mendedFrom hb e27) (c_D hb _) rfl (hR.call (by decide) (by decide)) ⟨by decide, by decide, by decide⟩ rfl rfl xw771 xw1 xw768 xw770 xs_D_mendedFrom (Nat.le_of_ble_eq_true rfl) ⟨Nat.zero_le _, Nat.zero_le _⟩ (xd dk_D_mendedSize 34 rfl) ?_
        refine x_iadd hc (xd dk_D_mendedSize 35 rfl) ?_
        refine x_iadd hc (xd dk_D_mendedSize 36 rfl) ?_
        refine x_istore_n hc (xd dk_D_mendedSize 37 rfl) (by decide) rfl ?_
        exact s_D_mendedSize_68 hc hR hb ih (v1 + ((r22 - r24) + r26)) v2 r17 M hf
set_option maxRecDepth 100000 in
set_option maxHeartbeats 400000 in
theorem s_D_mendedSize {l : Launch} {G : xG} {Y : xY} {sz : Nat} {b : Nat}  (hb : xDk Y b) {M M' : xMem} {r : Int32} (hf : f_D_mendedSize b M = some (r, M')) : xM l G y_D_mendedSize c_D_mendedSize 4 (some .int) 5 0 0 [.ref b] (xo G Y M) sz (some (.int r)) (xo G Y M') sz := by
  unfold f_D_mendedSize at hf
  refine xM.of (k := 3) (L0 := [some (.ref b), none, none, none]) (by decide) (Nat.le_of_ble_eq_true rfl) rfl ?_
  intro p e s m args below meth c hc hnm
  have hR : xRm { frames := 5, cells := 0, slots := 0, locals := 48 * 5 } 5 := ⟨Nat.le_refl _, Nat.le_refl _⟩
  refine x_aload_n hc (xd dk_D_mendedSize 0 rfl) rfl rfl ?_
  refine x_get hc (ci := 0) (k := 2) fi_D (c_D hb _) rfl (by decide) rfl xw690 rfl (xd dk_D_mendedSize 1 rfl) ?_
  obtain ⟨z28, ez28, hz28, hf⟩ := xsrc_some hf
  rw [← ez28]
  refine x_getN hc (ci := 9) (k := 0) fi_R (c_R (hb.rd hz28) _) rfl (by decide) rfl xn258 rfl (xd dk_D_mendedSize 2 rfl) ?_
  refine x_getN hc (ci := 1) (k := 1) fi_L (c_L (hb.rd hz28).L _) rfl (by decide) rfl xn42 rfl (xd dk_D_mendedSize 3 rfl) ?_
  refine x_istore_n hc (xd dk_D_mendedSize 4 rfl) (by decide) rfl ?_
  refine x_iconst hc (v := 0) (xd dk_D_mendedSize 5 rfl) (by decide) ?_
  refine x_istore_n hc (xd dk_D_mendedSize 6 rfl) (by decide) rfl ?_
  exact s_D_mendedSize_13 hc hR hb xFuel (M.1 z28 1) 0 M hf
def f_D_mend_9 (b : Nat) : Nat → Int32 → Int32 → xMem → Option (Int32 × xMem)
  | 0, _, _, _ => none
  | n + 1, v1, v2, M =>
    (if 4 ≤ v2 then (some (v1, M)) else (xsrc b (M.2.2.2 0) fun z14 => xbind (f_G_mendablesIn (b + 3) z14 M) fun r15 M => if r15 = 0 then (some (v1, M)) else (xbind (f_D_mendedSize b M) fun r18 M => if r18 ≤ 160 then (xbind (f_D_writeMended b M) fun r21 M => xsrc b (M.2.2.2 1) fun z23 => xbind (f_R_study z23 M) fun r24 M => if r24 < 0 then (xbind (f_D_takeSpare b M) fun r27 M => xval ((M.1 b 5) + 1) fun x29 => xlet (wI M b 5 x29) fun M => f_D_mend_9 b n (v1 + r15) (v2 + Int32.ofInt 1) M) else (some (v1, M))) else (some (v1, M)))))
def f_D_mend (b : Nat) (M : xMem) : Option (Int32 × xMem) :=
  (xlet (wI M b 5 0) fun M => f_D_mend_9 b xFuel 0 0 M)
set_option maxRecDepth 100000 in
set_option maxHeartbeats 400000 in
theorem s_D_mend_9 {p : Program} {l : Launch} {e : Env} {R : Room} {s : State} {m : MethodId} {args : Array Value} {below : List Frame} {meth : Method} {c : Code} {G : xG} {Y : xY} {sz : Nat} {b : Nat}  (hc : xC p s m args meth c G 4 c_D_mend y_D_mend.cls (some .int)) (hR : xRm R 161) (hb : xDk Y b) {M' : xMem} {r : Int32} : ∀ (n : Nat) (v1 : Int32) (v2 : Int32) (M : xMem), f_D_mend_9 b n v1 v2 M = some (r, M') → xW p l e R s m args below meth c G 4 (MQ below (xQc G (some (.int r)) (xo G Y M') sz) args s 0 0 (xA G)) (xo G Y M) sz 0 0 9 [some (.ref b), some (.int v1), some (.int v2), none] [] := by
  intro n
  induction n with
  | zero => intro v1 v2 M hf; simp only [f_D_mend_9] at hf; cases hf
  | succ n ih =>
    intro v1 v2 M hf
    simp only [f_D_mend_9] at hf
    refine x_iload_n hc (xd dk_D_mend 7 rfl) rfl rfl ?_
    refine x_iconst hc (v := 4) (xd dk_D_mend 8 rfl) (by decide) ?_
    refine x_icmp_ge hc (tgt := 84) (xd dk_D_mend 9 rfl) rfl (fun q13 => ?_) (fun q13 => ?_)
    · rw [if_pos q13] at hf
      refine x_iload_n hc (xd dk_D_mend 44 rfl) rfl rfl ?_
      cases hf
      exact x_ireturn hc (xd dk_D_mend 45 rfl)
    · rw [if_neg q13] at hf
      refine x_aload_n hc (xd dk_D_mend 10 rfl) rfl rfl ?_
      refine x_get hc (ci := 0) (k := 1) fi_D (c_D hb _) rfl (by decide) rfl xw689 rfl (xd dk_D_mend 11 rfl) ?_
      refine x_aload_n hc (xd dk_D_mend 12 rfl) rfl rfl ?_
      refine x_get hc (ci := 0) (k := 2) fi_D (c_D hb _) rfl (by decide) rfl xw690 rfl (xd dk_D_mend 13 rfl) ?_
      obtain ⟨z14, ez14, hz14, hf⟩ := xsrc_some hf
      rw [← ez14]
      obtain ⟨r15, M, e16, hf⟩ := xbind_some hf
      refine x_callV hc (As := [.ref (z14 + 30)]) (n := 1) (s_G_mendablesIn hb.g (hb.rd hz14) e16) (c_G hb.g _) rfl (hR.call (by decide) (by decide)) ⟨by decide, by decide, by decide⟩ rfl rfl xw718 xw3 xw715 xw716 xw717 (Nat.le_of_ble_eq_true rfl) ⟨Nat.zero_le _, Nat.zero_le _⟩ (xd dk_D_mend 14 rfl) ?_
      refine x_istore_n hc (xd dk_D_mend 15 rfl) (by decide) rfl ?_
      refine x_iload_n hc (xd dk_D_mend 16 rfl) rfl rfl ?_
      refine x_if_eq hc (tgt := 84) (xd dk_D_mend 17 rfl) rfl (fun q17 => ?_) (fun q17 => ?_)
      · rw [if_pos q17] at hf
        refine x_iload_n hc (xd dk_D_mend 44 rfl) rfl rfl ?_
        cases hf
        exact x_ireturn hc (xd dk_D_mend 45 rfl)
      · rw [if_neg q17] at hf
        refine x_aload_n hc (xd dk_D_mend 18 rfl) rfl rfl ?_
        obtain ⟨r18, M, e19, hf⟩ := xbind_some hf
        refine x_callV hc (As := []) (n := 0) (s_D_mendedSize hb e19) (c_D hb _) rfl (hR.call (by decide) (by decide)) ⟨by decide, by decide, by decide⟩ rfl rfl xw754 xw1 xw751 xw753 xs_D_mendedSize (Nat.le_of_ble_eq_true rfl) ⟨Nat.zero_le _, Nat.zero_le _⟩ (xd dk_D_mend 19 rfl) ?_
        refine x_sipush hc (v := 160) (xd dk_D_mend 20 rfl) (by decide) ?_
        refine x_icmp_le hc (tgt := 43) (xd dk_D_mend 21 rfl) rfl (fun q20 => ?_) (fun q20 => ?_)
        · rw [if_pos q20] at hf
          refine x_aload_n hc (xd dk_D_mend 23 rfl) rfl rfl ?_
          obtain ⟨r21, M, e22, hf⟩ := xbind_some hf
          refine x_callV hc (As := []) (n := 0) (s_D_writeMended hb e22) (c_D hb _) rfl (hR.call (by decide) (by decide)) ⟨by decide, by decide, by decide⟩ rfl rfl xw776 xw1 xw773 xw775 xs_D_writeMended (Nat.le_of_ble_eq_true rfl) ⟨Nat.zero_le _, Nat.zero_le _⟩ (xd dk_D_mend 24 rfl) ?_
          refine x_aload_n hc (xd dk_D_mend 25 rfl) rfl rfl ?_
          refine x_get hc (ci := 0) (k := 3) fi_D (c_D hb _) rfl (by decide) rfl xw691 rfl (xd dk_D_mend 26 rfl) ?_
          obtain ⟨z23, ez23, hz23, hf⟩ := xsrc_some hf
          rw [← ez23]
          obtain ⟨r24, M, e25, hf⟩ := xbind_some hf
          refine x_callV hc (As := []) (n := 0) (s_R_study (hb.rd hz23) e25) (c_R (hb.rd hz23) _) rfl (hR.call (by decide) (by decide)) ⟨by decide, by decide, by decide⟩ rfl rfl xw289 xw10 xw286 xw287 xw288 (Nat.le_of_ble_eq_true rfl) ⟨Nat.zero_le _, Nat.zero_le _⟩ (xd dk_D_mend 27 rfl) ?_
          refine x_if_lt hc (tgt := 60) (xd dk_D_mend 28 rfl) rfl (fun q26 => ?_) (fun q26 => ?_)
          · rw [if_pos q26] at hf
            refine x_aload_n hc (xd dk_D_mend 30 rfl) rfl rfl ?_
            obtain ⟨r27, M, e28, hf⟩ := xbind_some hf
            refine x_callV hc (As := []) (n := 0) (s_D_takeSpare hb e28) (c_D hb _) rfl (hR.call (by decide) (by decide)) ⟨by decide, by decide, by decide⟩ rfl rfl xw796 xw1 xw793 xw795 xs_D_takeSpare (Nat.le_of_ble_eq_true rfl) ⟨Nat.zero_le _, Nat.zero_le _⟩ (xd dk_D_mend 31 rfl) ?_
            refine x_aload_n hc (xd dk_D_mend 32 rfl) rfl rfl ?_
            refine x_dup hc (xd dk_D_mend 33 rfl) rfl ?_
            refine x_get hc (ci := 0) (k := 5) fi_D (c_D hb _) rfl (by decide) rfl xw693 rfl (xd dk_D_mend 34 rfl) ?_
            refine x_iconst hc (v := 1) (xd dk_D_mend 35 rfl) (by decide) ?_
            refine x_iadd hc (xd dk_D_mend 36 rfl) ?_
            obtain ⟨x29, hx29, hf⟩ := xval_ex hf
            rw [← hx29]
            refine x_put hc (ci := 0) (k := 5) fi_D ft_D ft_D_ok fn_D (c_D hb _) rfl (by decide) rfl xw693 rfl rfl rfl (Nat.le_of_ble_eq_true rfl) (xd dk_D_mend 37 rfl) ?_
            rw [w_D_5 hb]
            replace hf := xlet_some hf
            generalize wI M b 5 x29 = M at hf ⊢
            refine x_iload_n hc (xd dk_D_mend 38 rfl) rfl rfl ?_
            refine x_iload_n hc (xd dk_D_mend 39 rfl) rfl rfl ?_
            refine x_iadd hc (xd dk_D_mend 40 rfl) ?_
            refine x_istore_n hc (xd dk_D_mend 41 rfl) (by decide) rfl ?_
            refine x_iinc hc (xd dk_D_mend 42 rfl) rfl (by decide) rfl ?_
            refine x_goto hc (tgt := 9) (xd dk_D_mend 43 rfl) rfl ?_
            refine x_drop 3 ?_
            exact ih (v1 + r15) (v2 + Int32.ofInt 1) M hf
          · rw [if_neg q26] at hf
            refine x_goto hc (tgt := 84) (xd dk_D_mend 29 rfl) rfl ?_
            refine x_iload_n hc (xd dk_D_mend 44 rfl) rfl rfl ?_
            cases hf
            exact x_ireturn hc (xd dk_D_mend 45 rfl)
        · rw [if_neg q20] at hf
          refine x_goto hc (tgt := 84) (xd dk_D_mend 22 rfl) rfl ?_
          refine x_iload_n hc (xd dk_D_mend 44 rfl) rfl rfl ?_
          cases hf
          exact x_ireturn hc (xd dk_D_mend 45 rfl)
set_option maxRecDepth 100000 in
set_option maxHeartbeats 400000 in
theorem s_D_mend {l : Launch} {G : xG} {Y : xY} {sz : Nat} {b : Nat}  (hb : xDk Y b) {M M' : xMem} {r : Int32} (hf : f_D_mend b M = some (r, M')) : xM l G y_D_mend c_D_mend 4 (some .int) 161 0 0 [.ref b] (xo G Y M) sz (some (.int r)) (xo G Y M') sz := by
  unfold f_D_mend at hf
  refine xM.of (k := 3) (L0 := [some (.ref b), none, none, none]) (by decide) (Nat.le_of_ble_eq_true rfl) rfl ?_
  intro p e s m args below meth c hc hnm
  have hR : xRm { frames := 161, cells := 0, slots := 0, locals := 48 * 161 } 161 := ⟨Nat.le_refl _, Nat.le_refl _⟩
  refine x_iconst hc (v := 0) (xd dk_D_mend 0 rfl) (by decide) ?_
  refine x_istore_n hc (xd dk_D_mend 1 rfl) (by decide) rfl ?_
  refine x_aload_n hc (xd dk_D_mend 2 rfl) rfl rfl ?_
  refine x_iconst hc (v := 0) (xd dk_D_mend 3 rfl) (by decide) ?_
  refine x_put hc (ci := 0) (k := 5) fi_D ft_D ft_D_ok fn_D (c_D hb _) rfl (by decide) rfl xw693 rfl rfl rfl (Nat.le_of_ble_eq_true rfl) (xd dk_D_mend 4 rfl) ?_
  rw [w_D_5 hb]
  replace hf := xlet_some hf
  generalize wI M b 5 0 = M at hf ⊢
  refine x_iconst hc (v := 0) (xd dk_D_mend 5 rfl) (by decide) ?_
  refine x_istore_n hc (xd dk_D_mend 6 rfl) (by decide) rfl ?_
  exact s_D_mend_9 hc hR hb xFuel 0 0 M hf
def f_D_letter_18 (b : Nat) (p1 : Int32) (M : xMem) : Option ((Int32 ⊕ Nat) × xMem) :=
  (some (.inr 2, M))
def f_D_letter (b : Nat) (p1 : Int32) (M : xMem) : Option ((Int32 ⊕ Nat) × xMem) :=
  (if p1 < 0 then (f_D_letter_18 b p1 M) else (xsrc b (M.2.2.2 0) fun z6 => if p1 < M.1 z6 1 then (xsrc b (M.2.2.2 0) fun z8 => xbind (f_L_at z8 p1 M) fun r9 M => some (.inl r9, M)) else (f_D_letter_18 b p1 M)))
set_option maxRecDepth 100000 in
set_option maxHeartbeats 400000 in
theorem s_D_letter_18 {p : Program} {l : Launch} {e : Env} {R : Room} {s : State} {m : MethodId} {args : Array Value} {below : List Frame} {meth : Method} {c : Code} {G : xG} {Y : xY} {sz : Nat} {b : Nat} {p1 : Int32}  (hc : xC p s m args meth c G 2 c_D_letter y_D_letter.cls (some .int)) (hR : xRm R 1) (hb : xDk Y b) {M' : xMem} {r : Int32} (M : xMem) (hf : f_D_letter_18 b p1 M = some (.inl r, M')) : xW p l e R s m args below meth c G 2 (MQ below (xQc G (some (.int r)) (xo G Y M') sz) args s 0 0 (xA G)) (xo G Y M) sz 0 0 18 [some (.ref b), some (.int p1)] [] := by
  unfold f_D_letter_18 at hf
  cases hf
set_option maxRecDepth 100000 in
set_option maxHeartbeats 400000 in
theorem s_D_letter {l : Launch} {G : xG} {Y : xY} {sz : Nat} {b : Nat} {p1 : Int32}  (hb : xDk Y b) {M M' : xMem} {r : Int32} (hf : f_D_letter b p1 M = some (.inl r, M')) : xM l G y_D_letter c_D_letter 2 (some .int) 1 0 0 [.ref b, .int p1] (xo G Y M) sz (some (.int r)) (xo G Y M') sz := by
  unfold f_D_letter at hf
  refine xM.of (k := 0) (L0 := [some (.ref b), some (.int p1)]) (by decide) (Nat.le_of_ble_eq_true rfl) rfl ?_
  intro p e s m args below meth c hc hnm
  have hR : xRm { frames := 1, cells := 0, slots := 0, locals := 48 * 1 } 1 := ⟨Nat.le_refl _, Nat.le_refl _⟩
  refine x_iload_n hc (xd dk_D_letter 0 rfl) rfl rfl ?_
  refine x_if_lt hc (tgt := 18) (xd dk_D_letter 1 rfl) rfl (fun q5 => ?_) (fun q5 => ?_)
  · rw [if_pos q5] at hf
    exact s_D_letter_18 hc hR hb M hf
  · rw [if_neg q5] at hf
    refine x_iload_n hc (xd dk_D_letter 2 rfl) rfl rfl ?_
    refine x_aload_n hc (xd dk_D_letter 3 rfl) rfl rfl ?_
    refine x_get hc (ci := 0) (k := 2) fi_D (c_D hb _) rfl (by decide) rfl xw690 rfl (xd dk_D_letter 4 rfl) ?_
    obtain ⟨z6, ez6, hz6, hf⟩ := xsrc_some hf
    rw [← ez6]
    refine x_getN hc (ci := 9) (k := 0) fi_R (c_R (hb.rd hz6) _) rfl (by decide) rfl xn258 rfl (xd dk_D_letter 5 rfl) ?_
    refine x_getN hc (ci := 1) (k := 1) fi_L (c_L (hb.rd hz6).L _) rfl (by decide) rfl xn42 rfl (xd dk_D_letter 6 rfl) ?_
    refine x_icmp_lt hc (tgt := 28) (xd dk_D_letter 7 rfl) rfl (fun q7 => ?_) (fun q7 => ?_)
    · rw [if_pos q7] at hf
      refine x_aload_n hc (xd dk_D_letter 13 rfl) rfl rfl ?_
      refine x_get hc (ci := 0) (k := 2) fi_D (c_D hb _) rfl (by decide) rfl xw690 rfl (xd dk_D_letter 14 rfl) ?_
      obtain ⟨z8, ez8, hz8, hf⟩ := xsrc_some hf
      rw [← ez8]
      refine x_getN hc (ci := 9) (k := 0) fi_R (c_R (hb.rd hz8) _) rfl (by decide) rfl xn258 rfl (xd dk_D_letter 15 rfl) ?_
      refine x_iload_n hc (xd dk_D_letter 16 rfl) rfl rfl ?_
      obtain ⟨r9, M, e10, hf⟩ := xbind_some hf
      refine x_callV hc (As := [.int p1]) (n := 1) (s_L_at ((hb.rd hz8).L) e10) (c_L (hb.rd hz8).L _) rfl (hR.call (by decide) (by decide)) ⟨by decide, by decide, by decide⟩ rfl rfl xw301 xw2 xw1001 xw299 xw300 (Nat.le_of_ble_eq_true rfl) ⟨Nat.zero_le _, Nat.zero_le _⟩ (xd dk_D_letter 17 rfl) ?_
      cases hf
      exact x_ireturn hc (xd dk_D_letter 18 rfl)
    · rw [if_neg q7] at hf
      exact s_D_letter_18 hc hR hb M hf
def f_D_found (b : Nat) (p1 : Int32) (M : xMem) : Option ((Int32 ⊕ Nat) × xMem) :=
  (xsrc b (M.2.2.2 0) fun z4 => xbind (f_G_findingOf (b + 3) z4 p1 M) fun r5 M => if 0 ≤ r5 then (some (.inl (r5 - r5 / 10 * 10), M)) else (some (.inr 2, M)))
set_option maxRecDepth 100000 in
set_option maxHeartbeats 400000 in
theorem s_D_found {l : Launch} {G : xG} {Y : xY} {sz : Nat} {b : Nat} {p1 : Int32}  (hb : xDk Y b) {M M' : xMem} {r : Int32} (hf : f_D_found b p1 M = some (.inl r, M')) : xM l G y_D_found c_D_found 3 (some .int) 5 0 0 [.ref b, .int p1] (xo G Y M) sz (some (.int r)) (xo G Y M') sz := by
  unfold f_D_found at hf
  refine xM.of (k := 1) (L0 := [some (.ref b), some (.int p1), none]) (by decide) (Nat.le_of_ble_eq_true rfl) rfl ?_
  intro p e s m args below meth c hc hnm
  have hR : xRm { frames := 5, cells := 0, slots := 0, locals := 48 * 5 } 5 := ⟨Nat.le_refl _, Nat.le_refl _⟩
  refine x_aload_n hc (xd dk_D_found 0 rfl) rfl rfl ?_
  refine x_get hc (ci := 0) (k := 1) fi_D (c_D hb _) rfl (by decide) rfl xw689 rfl (xd dk_D_found 1 rfl) ?_
  refine x_aload_n hc (xd dk_D_found 2 rfl) rfl rfl ?_
  refine x_get hc (ci := 0) (k := 2) fi_D (c_D hb _) rfl (by decide) rfl xw690 rfl (xd dk_D_found 3 rfl) ?_
  obtain ⟨z4, ez4, hz4, hf⟩ := xsrc_some hf
  rw [← ez4]
  refine x_iload_n hc (xd dk_D_found 4 rfl) rfl rfl ?_
  obtain ⟨r5, M, e6, hf⟩ := xbind_some hf
  refine x_callV hc (As := [.ref (z4 + 30), .int p1]) (n := 2) (s_G_findingOf hb.g (hb.rd hz4) e6) (c_G hb.g _) rfl (hR.call (by decide) (by decide)) ⟨by decide, by decide, by decide⟩ rfl rfl xw984 xw3 xw981 xw982 xw983 (Nat.le_of_ble_eq_true rfl) ⟨Nat.zero_le _, Nat.zero_le _⟩ (xd dk_D_found 5 rfl) ?_
  refine x_istore_n hc (xd dk_D_found 6 rfl) (by decide) rfl ?_
  refine x_iload_n hc (xd dk_D_found 7 rfl) rfl rfl ?_
  refine x_if_ge hc (tgt := 27) (xd dk_D_found 8 rfl) rfl (fun q7 => ?_) (fun q7 => ?_)
  · rw [if_pos q7] at hf
    refine x_iload_n hc (xd dk_D_found 14 rfl) rfl rfl ?_
    refine x_bipush hc (v := 10) (xd dk_D_found 15 rfl) (by decide) ?_
    refine x_irem hc (xd dk_D_found 16 rfl) (by decide) ?_
    cases hf
    exact x_ireturn hc (xd dk_D_found 17 rfl)
  · rw [if_neg q7] at hf
    cases hf
def f_D_place (b : Nat) (p1 : Int32) (M : xMem) : Option ((Int32 ⊕ Nat) × xMem) :=
  (xsrc b (M.2.2.2 0) fun z7 => xbind (f_G_findingOf (b + 3) z7 p1 M) fun r8 M => if 0 ≤ r8 then (xsrc b (M.2.2.2 0) fun z11 => xbind (f_T_startOf z11 (r8 / 10) M) fun r12 M => some (.inl r12, M)) else (some (.inr 2, M)))
set_option maxRecDepth 100000 in
set_option maxHeartbeats 400000 in
theorem s_D_place {l : Launch} {G : xG} {Y : xY} {sz : Nat} {b : Nat} {p1 : Int32}  (hb : xDk Y b) {M M' : xMem} {r : Int32} (hf : f_D_place b p1 M = some (.inl r, M')) : xM l G y_D_place c_D_place 3 (some .int) 5 0 0 [.ref b, .int p1] (xo G Y M) sz (some (.int r)) (xo G Y M') sz := by
  unfold f_D_place at hf
  refine xM.of (k := 1) (L0 := [some (.ref b), some (.int p1), none]) (by decide) (Nat.le_of_ble_eq_true rfl) rfl ?_
  intro p e s m args below meth c hc hnm
  have hR : xRm { frames := 5, cells := 0, slots := 0, locals := 48 * 5 } 5 := ⟨Nat.le_refl _, Nat.le_refl _⟩
  refine x_aload_n hc (xd dk_D_place 0 rfl) rfl rfl ?_
  refine x_get hc (ci := 0) (k := 1) fi_D (c_D hb _) rfl (by decide) rfl xw689 rfl (xd dk_D_place 1 rfl) ?_
  refine x_aload_n hc (xd dk_D_place 2 rfl) rfl rfl ?_
  refine x_get hc (ci := 0) (k := 2) fi_D (c_D hb _) rfl (by decide) rfl xw690 rfl (xd dk_D_place 3 rfl) ?_
  obtain ⟨z7, ez7, hz7, hf⟩ := xsrc_some hf
  rw [← ez7]
  refine x_iload_n hc (xd dk_D_place 4 rfl) rfl rfl ?_
  obtain ⟨r8, M, e9, hf⟩ := xbind_some hf
  refine x_callV hc (As := [.ref (z7 + 30), .int p1]) (n := 2) (s_G_findingOf hb.g (hb.rd hz7) e9) (c_G hb.g _) rfl (hR.call (by decide) (by decide)) ⟨by decide, by decide, by decide⟩ rfl rfl xw984 xw3 xw981 xw982 xw983 (Nat.le_of_ble_eq_true rfl) ⟨Nat.zero_le _, Nat.zero_le _⟩ (xd dk_D_place 5 rfl) ?_
  refine x_istore_n hc (xd dk_D_place 6 rfl) (by decide) rfl ?_
  refine x_iload_n hc (xd dk_D_place 7 rfl) rfl rfl ?_
  refine x_if_ge hc (tgt := 27) (xd dk_D_place 8 rfl) rfl (fun q10 => ?_) (fun q10 => ?_)
  · rw [if_pos q10] at hf
    refine x_aload_n hc (xd dk_D_place 14 rfl) rfl rfl ?_
    refine x_get hc (ci := 0) (k := 2) fi_D (c_D hb _) rfl (by decide) rfl xw690 rfl (xd dk_D_place 15 rfl) ?_
    obtain ⟨z11, ez11, hz11, hf⟩ := xsrc_some hf
    rw [← ez11]
    refine x_getN hc (ci := 9) (k := 1) fi_R (c_R (hb.rd hz11) _) rfl (by decide) rfl xn261 rfl (xd dk_D_place 16 rfl) ?_
    refine x_iload_n hc (xd dk_D_place 17 rfl) rfl rfl ?_
    refine x_bipush hc (v := 10) (xd dk_D_place 18 rfl) (by decide) ?_
    refine x_idiv hc (xd dk_D_place 19 rfl) (by decide) ?_
    obtain ⟨r12, M, e13, hf⟩ := xbind_some hf
    refine x_callV hc (As := [.int ((r8 / 10))]) (n := 1) (s_T_startOf (hb.rd hz11) e13) (c_T (hb.rd hz11) _) rfl (hR.call (by decide) (by decide)) ⟨by decide, by decide, by decide⟩ rfl rfl xw625 xw4 xw772 xw623 xw624 (Nat.le_of_ble_eq_true rfl) ⟨Nat.zero_le _, Nat.zero_le _⟩ (xd dk_D_place 20 rfl) ?_
    cases hf
    exact x_ireturn hc (xd dk_D_place 21 rfl)
  · rw [if_neg q10] at hf
    cases hf
def f_D_rule_10 (b : Nat) (p1 : Int32) (p2 : Int32) (M : xMem) : Option ((Int32 ⊕ Nat) × xMem) :=
  (some (.inr 0, M))
def f_D_rule (b : Nat) (p1 : Int32) (p2 : Int32) (M : xMem) : Option ((Int32 ⊕ Nat) × xMem) :=
  (if p1 < 0 then (f_D_rule_10 b p1 p2 M) else (if p1 < 10 then (xbind (f_G_isOn (b + 3) p1 M) fun r8 M => xbind (f_G_turn (b + 3) p1 p2 M) fun r10 M => if xnar .boolean r8 = true then some (.inl r8, M) else none) else (f_D_rule_10 b p1 p2 M)))
set_option maxRecDepth 100000 in
set_option maxHeartbeats 400000 in
theorem s_D_rule_10 {p : Program} {l : Launch} {e : Env} {R : Room} {s : State} {m : MethodId} {args : Array Value} {below : List Frame} {meth : Method} {c : Code} {G : xG} {Y : xY} {sz : Nat} {b : Nat} {p1 : Int32} {p2 : Int32}  (hc : xC p s m args meth c G 4 c_D_rule y_D_rule.cls (some .boolean)) (hR : xRm R 1) (hb : xDk Y b) {M' : xMem} {r : Int32} (M : xMem) (hf : f_D_rule_10 b p1 p2 M = some (.inl r, M')) : xW p l e R s m args below meth c G 4 (MQ below (xQc G (some (.int r)) (xo G Y M') sz) args s 0 0 (xA G)) (xo G Y M) sz 0 0 10 [some (.ref b), some (.int p1), some (.int p2), none] [] := by
  unfold f_D_rule_10 at hf
  cases hf
set_option maxRecDepth 100000 in
set_option maxHeartbeats 400000 in
theorem s_D_rule {l : Launch} {G : xG} {Y : xY} {sz : Nat} {b : Nat} {p1 : Int32} {p2 : Int32}  (hb : xDk Y b) {M M' : xMem} {r : Int32} (hf : f_D_rule b p1 p2 M = some (.inl r, M')) : xM l G y_D_rule c_D_rule 4 (some .boolean) 1 0 0 [.ref b, .int p1, .int p2] (xo G Y M) sz (some (.int r)) (xo G Y M') sz := by
  unfold f_D_rule at hf
  refine xM.of (k := 1) (L0 := [some (.ref b), some (.int p1), some (.int p2), none]) (by decide) (Nat.le_of_ble_eq_true rfl) rfl ?_
  intro p e s m args below meth c hc hnm
  have hR : xRm { frames := 1, cells := 0, slots := 0, locals := 48 * 1 } 1 := ⟨Nat.le_refl _, Nat.le_refl _⟩
  refine x_iload_n hc (xd dk_D_rule 0 rfl) rfl rfl ?_
  refine x_if_lt hc (tgt := 10) (xd dk_D_rule 1 rfl) rfl (fun q6 => ?_) (fun q6 => ?_)
  · rw [if_pos q6] at hf
    exact s_D_rule_10 hc hR hb M hf
  · rw [if_neg q6] at hf
    refine x_iload_n hc (xd dk_D_rule 2 rfl) rfl rfl ?_
    refine x_bipush hc (v := 10) (xd dk_D_rule 3 rfl) (by decide) ?_
    refine x_icmp_lt hc (tgt := 20) (xd dk_D_rule 4 rfl) rfl (fun q7 => ?_) (fun q7 => ?_)
    · rw [if_pos q7] at hf
      refine x_aload_n hc (xd dk_D_rule 10 rfl) rfl rfl ?_
      refine x_get hc (ci := 0) (k := 1) fi_D (c_D hb _) rfl (by decide) rfl xw689 rfl (xd dk_D_rule 11 rfl) ?_
      refine x_iload_n hc (xd dk_D_rule 12 rfl) rfl rfl ?_
      obtain ⟨r8, M, e9, hf⟩ := xbind_some hf
      refine x_callV hc (As := [.int p1]) (n := 1) (s_G_isOn hb.g e9) (c_G hb.g _) rfl (hR.call (by decide) (by decide)) ⟨by decide, by decide, by decide⟩ rfl rfl xw929 xw3 xw926 xw927 xw928 (Nat.le_of_ble_eq_true rfl) ⟨Nat.zero_le _, Nat.zero_le _⟩ (xd dk_D_rule 13 rfl) ?_
      refine x_istore_n hc (xd dk_D_rule 14 rfl) (by decide) rfl ?_
      refine x_aload_n hc (xd dk_D_rule 15 rfl) rfl rfl ?_
      refine x_get hc (ci := 0) (k := 1) fi_D (c_D hb _) rfl (by decide) rfl xw689 rfl (xd dk_D_rule 16 rfl) ?_
      refine x_iload_n hc (xd dk_D_rule 17 rfl) rfl rfl ?_
      refine x_iload_n hc (xd dk_D_rule 18 rfl) rfl rfl ?_
      obtain ⟨r10, M, e11, hf⟩ := xbind_some hf
      refine x_callV hc (As := [.int p1, .int p2]) (n := 2) (s_G_turn hb.g e11) (c_G hb.g _) rfl (hR.call (by decide) (by decide)) ⟨by decide, by decide, by decide⟩ rfl rfl xw933 xw3 xw930 xw931 xw932 (Nat.le_of_ble_eq_true rfl) ⟨Nat.zero_le _, Nat.zero_le _⟩ (xd dk_D_rule 19 rfl) ?_
      refine x_iload_n hc (xd dk_D_rule 20 rfl) rfl rfl ?_
      by_cases q12 : xnar .boolean r8 = true
      case neg => rw [if_neg q12] at hf; cases hf
      rw [if_pos q12] at hf
      cases hf
      exact x_zreturn hc (xnar_n q12) (xd dk_D_rule 21 rfl)
    · rw [if_neg q7] at hf
      exact s_D_rule_10 hc hR hb M hf
def f_D_count (b : Nat) (p1 : Int32) (M : xMem) : Option ((Int32 ⊕ Nat) × xMem) :=
  (if p1 = 0 then (xsrc b (M.2.2.2 0) fun z13 => some (.inl (M.1 z13 1), M)) else if p1 = 1 then (xsrc b (M.2.2.2 0) fun z15 => some (.inl (M.1 (z15 + 2) 6), M)) else if p1 = 2 then (xsrc b (M.2.2.2 0) fun z17 => xbind (f_G_findingsIn (b + 3) z17 M) fun r18 M => some (.inl r18, M)) else if p1 = 3 then (xsrc b (M.2.2.2 0) fun z21 => some (.inl (M.1 (z21 + 12) 8), M)) else if p1 = 4 then (xsrc b (M.2.2.2 0) fun z23 => some (.inl (M.1 (z23 + 8) 3), M)) else if p1 = 5 then (xsrc b (M.2.2.2 0) fun z25 => some (.inl (M.1 (z25 + 25) 8), M)) else if p1 = 6 then (some (.inl (M.1 b 5), M)) else if p1 = 7 then (some (.inl (M.1 (b + 3) 1), M)) else if p1 = 8 then (some (.inl (M.1 (b + 1) 1), M)) else if p1 = 9 then (xsrc b (M.2.2.2 0) fun z30 => xbind (f_G_excusedIn (b + 3) z30 M) fun r31 M => some (.inl r31, M)) else (some (.inr 0, M)))
set_option maxRecDepth 100000 in
set_option maxHeartbeats 400000 in
theorem s_D_count {l : Launch} {G : xG} {Y : xY} {sz : Nat} {b : Nat} {p1 : Int32}  (hb : xDk Y b) {M M' : xMem} {r : Int32} (hf : f_D_count b p1 M = some (.inl r, M')) : xM l G y_D_count c_D_count 2 (some .int) 5 0 0 [.ref b, .int p1] (xo G Y M) sz (some (.int r)) (xo G Y M') sz := by
  unfold f_D_count at hf
  refine xM.of (k := 0) (L0 := [some (.ref b), some (.int p1)]) (by decide) (Nat.le_of_ble_eq_true rfl) rfl ?_
  intro p e s m args below meth c hc hnm
  have hR : xRm { frames := 5, cells := 0, slots := 0, locals := 48 * 5 } 5 := ⟨Nat.le_refl _, Nat.le_refl _⟩
  refine x_iload_n hc (xd dk_D_count 0 rfl) rfl rfl ?_
  by_cases q12 : p1 = 0
  case pos =>
    rw [if_pos q12] at hf
    refine x_tableIn hc (off := 55) (tgt := 56) (xd dk_D_count 1 rfl) (by rw [q12]; decide) (by rw [q12]; decide) (by rw [q12]; rfl) rfl ?_
    refine x_aload_n hc (xd dk_D_count 2 rfl) rfl rfl ?_
    refine x_get hc (ci := 0) (k := 2) fi_D (c_D hb _) rfl (by decide) rfl xw690 rfl (xd dk_D_count 3 rfl) ?_
    obtain ⟨z13, ez13, hz13, hf⟩ := xsrc_some hf
    rw [← ez13]
    refine x_getN hc (ci := 9) (k := 0) fi_R (c_R (hb.rd hz13) _) rfl (by decide) rfl xn258 rfl (xd dk_D_count 4 rfl) ?_
    refine x_getN hc (ci := 1) (k := 1) fi_L (c_L (hb.rd hz13).L _) rfl (by decide) rfl xn42 rfl (xd dk_D_count 5 rfl) ?_
    cases hf
    exact x_ireturn hc (xd dk_D_count 6 rfl)
  rw [if_neg q12] at hf
  by_cases q14 : p1 = 1
  case pos =>
    rw [if_pos q14] at hf
    refine x_tableIn hc (off := 66) (tgt := 67) (xd dk_D_count 1 rfl) (by rw [q14]; decide) (by rw [q14]; decide) (by rw [q14]; rfl) rfl ?_
    refine x_aload_n hc (xd dk_D_count 7 rfl) rfl rfl ?_
    refine x_get hc (ci := 0) (k := 2) fi_D (c_D hb _) rfl (by decide) rfl xw690 rfl (xd dk_D_count 8 rfl) ?_
    obtain ⟨z15, ez15, hz15, hf⟩ := xsrc_some hf
    rw [← ez15]
    refine x_getN hc (ci := 9) (k := 1) fi_R (c_R (hb.rd hz15) _) rfl (by decide) rfl xn261 rfl (xd dk_D_count 9 rfl) ?_
    refine x_getN hc (ci := 3) (k := 6) fi_T (c_T (hb.rd hz15) _) rfl (by decide) rfl xn87 rfl (xd dk_D_count 10 rfl) ?_
    cases hf
    exact x_ireturn hc (xd dk_D_count 11 rfl)
  rw [if_neg q14] at hf
  by_cases q16 : p1 = 2
  case pos =>
    rw [if_pos q16] at hf
    refine x_tableIn hc (off := 77) (tgt := 78) (xd dk_D_count 1 rfl) (by rw [q16]; decide) (by rw [q16]; decide) (by rw [q16]; rfl) rfl ?_
    refine x_aload_n hc (xd dk_D_count 12 rfl) rfl rfl ?_
    refine x_get hc (ci := 0) (k := 1) fi_D (c_D hb _) rfl (by decide) rfl xw689 rfl (xd dk_D_count 13 rfl) ?_
    refine x_aload_n hc (xd dk_D_count 14 rfl) rfl rfl ?_
    refine x_get hc (ci := 0) (k := 2) fi_D (c_D hb _) rfl (by decide) rfl xw690 rfl (xd dk_D_count 15 rfl) ?_
    obtain ⟨z17, ez17, hz17, hf⟩ := xsrc_some hf
    rw [← ez17]
    obtain ⟨r18, M, e19, hf⟩ := xbind_some hf
    refine x_callV hc (As := [.ref (z17 + 30)]) (n := 1) (s_G_findingsIn hb.g (hb.rd hz17) e19) (c_G hb.g _) rfl (hR.call (by decide) (by decide)) ⟨by decide, by decide, by decide⟩ rfl rfl xw911 xw3 xw908 xw909 xw910 (Nat.le_of_ble_eq_true rfl) ⟨Nat.zero_le _, Nat.zero_le _⟩ (xd dk_D_count 16 rfl) ?_
    cases hf
    exact x_ireturn hc (xd dk_D_count 17 rfl)
  rw [if_neg q16] at hf
  by_cases q20 : p1 = 3
  case pos =>
    rw [if_pos q20] at hf
    refine x_tableIn hc (off := 89) (tgt := 90) (xd dk_D_count 1 rfl) (by rw [q20]; decide) (by rw [q20]; decide) (by rw [q20]; rfl) rfl ?_
    refine x_aload_n hc (xd dk_D_count 18 rfl) rfl rfl ?_
    refine x_get hc (ci := 0) (k := 2) fi_D (c_D hb _) rfl (by decide) rfl xw690 rfl (xd dk_D_count 19 rfl) ?_
    obtain ⟨z21, ez21, hz21, hf⟩ := xsrc_some hf
    rw [← ez21]
    refine x_getN hc (ci := 9) (k := 3) fi_R (c_R (hb.rd hz21) _) rfl (by decide) rfl xn265 rfl (xd dk_D_count 20 rfl) ?_
    refine x_getN hc (ci := 5) (k := 8) fi_H (c_H (hb.rd hz21) _) rfl (by decide) rfl xn154 rfl (xd dk_D_count 21 rfl) ?_
    cases hf
    exact x_ireturn hc (xd dk_D_count 22 rfl)
  rw [if_neg q20] at hf
  by_cases q22 : p1 = 4
  case pos =>
    rw [if_pos q22] at hf
    refine x_tableIn hc (off := 100) (tgt := 101) (xd dk_D_count 1 rfl) (by rw [q22]; decide) (by rw [q22]; decide) (by rw [q22]; rfl) rfl ?_
    refine x_aload_n hc (xd dk_D_count 23 rfl) rfl rfl ?_
    refine x_get hc (ci := 0) (k := 2) fi_D (c_D hb _) rfl (by decide) rfl xw690 rfl (xd dk_D_count 24 rfl) ?_
    obtain ⟨z23, ez23, hz23, hf⟩ := xsrc_some hf
    rw [← ez23]
    refine x_getN hc (ci := 9) (k := 2) fi_R (c_R (hb.rd hz23) _) rfl (by decide) rfl xn263 rfl (xd dk_D_count 25 rfl) ?_
    refine x_getN hc (ci := 4) (k := 3) fi_S (c_S (hb.rd hz23) _) rfl (by decide) rfl xn114 rfl (xd dk_D_count 26 rfl) ?_
    cases hf
    exact x_ireturn hc (xd dk_D_count 27 rfl)
  rw [if_neg q22] at hf
  by_cases q24 : p1 = 5
  case pos =>
    rw [if_pos q24] at hf
    refine x_tableIn hc (off := 111) (tgt := 112) (xd dk_D_count 1 rfl) (by rw [q24]; decide) (by rw [q24]; decide) (by rw [q24]; rfl) rfl ?_
    refine x_aload_n hc (xd dk_D_count 28 rfl) rfl rfl ?_
    refine x_get hc (ci := 0) (k := 2) fi_D (c_D hb _) rfl (by decide) rfl xw690 rfl (xd dk_D_count 29 rfl) ?_
    obtain ⟨z25, ez25, hz25, hf⟩ := xsrc_some hf
    rw [← ez25]
    refine x_getN hc (ci := 9) (k := 5) fi_R (c_R (hb.rd hz25) _) rfl (by decide) rfl xn269 rfl (xd dk_D_count 30 rfl) ?_
    refine x_getN hc (ci := 7) (k := 8) fi_B (c_B (hb.rd hz25) _) rfl (by decide) rfl xn206 rfl (xd dk_D_count 31 rfl) ?_
    cases hf
    exact x_ireturn hc (xd dk_D_count 32 rfl)
  rw [if_neg q24] at hf
  by_cases q26 : p1 = 6
  case pos =>
    rw [if_pos q26] at hf
    refine x_tableIn hc (off := 122) (tgt := 123) (xd dk_D_count 1 rfl) (by rw [q26]; decide) (by rw [q26]; decide) (by rw [q26]; rfl) rfl ?_
    refine x_aload_n hc (xd dk_D_count 33 rfl) rfl rfl ?_
    refine x_get hc (ci := 0) (k := 5) fi_D (c_D hb _) rfl (by decide) rfl xw693 rfl (xd dk_D_count 34 rfl) ?_
    cases hf
    exact x_ireturn hc (xd dk_D_count 35 rfl)
  rw [if_neg q26] at hf
  by_cases q27 : p1 = 7
  case pos =>
    rw [if_pos q27] at hf
    refine x_tableIn hc (off := 127) (tgt := 128) (xd dk_D_count 1 rfl) (by rw [q27]; decide) (by rw [q27]; decide) (by rw [q27]; rfl) rfl ?_
    refine x_aload_n hc (xd dk_D_count 36 rfl) rfl rfl ?_
    refine x_get hc (ci := 0) (k := 1) fi_D (c_D hb _) rfl (by decide) rfl xw689 rfl (xd dk_D_count 37 rfl) ?_
    refine x_getN hc (ci := 2) (k := 1) fi_G (c_G hb.g _) rfl (by decide) rfl xn58 rfl (xd dk_D_count 38 rfl) ?_
    cases hf
    exact x_ireturn hc (xd dk_D_count 39 rfl)
  rw [if_neg q27] at hf
  by_cases q28 : p1 = 8
  case pos =>
    rw [if_pos q28] at hf
    refine x_tableIn hc (off := 135) (tgt := 136) (xd dk_D_count 1 rfl) (by rw [q28]; decide) (by rw [q28]; decide) (by rw [q28]; rfl) rfl ?_
    refine x_aload_n hc (xd dk_D_count 40 rfl) rfl rfl ?_
    refine x_get hc (ci := 0) (k := 0) fi_D (c_D hb _) rfl (by decide) rfl xw688 rfl (xd dk_D_count 41 rfl) ?_
    refine x_getN hc (ci := 1) (k := 1) fi_L (c_L hb.w _) rfl (by decide) rfl xn42 rfl (xd dk_D_count 42 rfl) ?_
    cases hf
    exact x_ireturn hc (xd dk_D_count 43 rfl)
  rw [if_neg q28] at hf
  by_cases q29 : p1 = 9
  case pos =>
    rw [if_pos q29] at hf
    refine x_tableIn hc (off := 143) (tgt := 144) (xd dk_D_count 1 rfl) (by rw [q29]; decide) (by rw [q29]; decide) (by rw [q29]; rfl) rfl ?_
    refine x_aload_n hc (xd dk_D_count 44 rfl) rfl rfl ?_
    refine x_get hc (ci := 0) (k := 1) fi_D (c_D hb _) rfl (by decide) rfl xw689 rfl (xd dk_D_count 45 rfl) ?_
    refine x_aload_n hc (xd dk_D_count 46 rfl) rfl rfl ?_
    refine x_get hc (ci := 0) (k := 2) fi_D (c_D hb _) rfl (by decide) rfl xw690 rfl (xd dk_D_count 47 rfl) ?_
    obtain ⟨z30, ez30, hz30, hf⟩ := xsrc_some hf
    rw [← ez30]
    obtain ⟨r31, M, e32, hf⟩ := xbind_some hf
    refine x_callV hc (As := [.ref (z30 + 30)]) (n := 1) (s_G_excusedIn hb.g (hb.rd hz30) e32) (c_G hb.g _) rfl (hR.call (by decide) (by decide)) ⟨by decide, by decide, by decide⟩ rfl rfl xw1022 xw3 xw1019 xw1020 xw1021 (Nat.le_of_ble_eq_true rfl) ⟨Nat.zero_le _, Nat.zero_le _⟩ (xd dk_D_count 48 rfl) ?_
    cases hf
    exact x_ireturn hc (xd dk_D_count 49 rfl)
  rw [if_neg q29] at hf
  refine x_tableOut hc (tgt := 156) (xd dk_D_count 1 rfl) (by have q12n := xne (v := 0) q12 (by decide); have q14n := xne (v := 1) q14 (by decide); have q16n := xne (v := 2) q16 (by decide); have q20n := xne (v := 3) q20 (by decide); have q22n := xne (v := 4) q22 (by decide); have q24n := xne (v := 5) q24 (by decide); have q26n := xne (v := 6) q26 (by decide); have q27n := xne (v := 7) q27 (by decide); have q28n := xne (v := 8) q28 (by decide); have q29n := xne (v := 9) q29 (by decide); omega) rfl ?_
  cases hf
def f_D_declared_20 (b : Nat) (p1 : Int32) (p2 : Int32) (v3 : Nat) (M : xMem) : Option ((Int32 ⊕ Nat) × xMem) :=
  (if (v3 = b + 5 ∨ v3 = b + 36) then some (.inr 2, M) else none)
def f_D_declared (b : Nat) (p1 : Int32) (p2 : Int32) (M : xMem) : Option ((Int32 ⊕ Nat) × xMem) :=
  (xsrc b (M.2.2.2 0) fun z14 => if p1 < 0 then (f_D_declared_20 b p1 p2 z14 M) else (if p1 < M.1 (z14 + 12) 8 then (if p2 = 0 then (xsrc b (M.2.2.2 0) fun z18 => if xin p1 60 = true then xval (M.1 (z14 + 13) p1.toNatClampNeg) fun x20 => xbind (f_T_startOf z18 x20 M) fun r21 M => some (.inl r21, M) else none) else if p2 = 1 then (if xin p1 60 = true then some (.inl (M.1 (z14 + 15) p1.toNatClampNeg), M) else none) else if p2 = 2 then (if xin p1 60 = true then some (.inl (M.1 (z14 + 17) p1.toNatClampNeg), M) else none) else if p2 = 3 then (if xin p1 60 = true then some (.inl (M.1 (z14 + 18) p1.toNatClampNeg), M) else none) else if p2 = 4 then (if xin p1 60 = true then some (.inl (M.1 (z14 + 19) p1.toNatClampNeg), M) else none) else if p2 = 5 then (xsrc b (M.2.2.2 0) fun z32 => if xin p1 60 = true then xval (M.1 (z14 + 16) p1.toNatClampNeg) fun x34 => xbind (f_S_levelOf z32 x34 M) fun r35 M => some (.inl r35, M) else none) else (some (.inr 0, M))) else (f_D_declared_20 b p1 p2 z14 M)))
set_option maxRecDepth 100000 in
set_option maxHeartbeats 400000 in
theorem s_D_declared_20 {p : Program} {l : Launch} {e : Env} {R : Room} {s : State} {m : MethodId} {args : Array Value} {below : List Frame} {meth : Method} {c : Code} {G : xG} {Y : xY} {sz : Nat} {b : Nat} {p1 : Int32} {p2 : Int32}  (hc : xC p s m args meth c G 4 c_D_declared y_D_declared.cls (some .int)) (hR : xRm R 2) (hb : xDk Y b) {M' : xMem} {r : Int32} (v3 : Nat) (M : xMem) (hf : f_D_declared_20 b p1 p2 v3 M = some (.inl r, M')) : xW p l e R s m args below meth c G 4 (MQ below (xQc G (some (.int r)) (xo G Y M') sz) args s 0 0 (xA G)) (xo G Y M) sz 0 0 20 [some (.ref b), some (.int p1), some (.int p2), some (.ref (v3 + 12))] [] := by
  unfold f_D_declared_20 at hf
  by_cases hv3 : (v3 = b + 5 ∨ v3 = b + 36)
  case neg => rw [if_neg hv3] at hf; cases hf
  rw [if_pos hv3] at hf
  cases hf
set_option maxRecDepth 100000 in
set_option maxHeartbeats 400000 in
theorem s_D_declared {l : Launch} {G : xG} {Y : xY} {sz : Nat} {b : Nat} {p1 : Int32} {p2 : Int32}  (hb : xDk Y b) {M M' : xMem} {r : Int32} (hf : f_D_declared b p1 p2 M = some (.inl r, M')) : xM l G y_D_declared c_D_declared 4 (some .int) 2 0 0 [.ref b, .int p1, .int p2] (xo G Y M) sz (some (.int r)) (xo G Y M') sz := by
  unfold f_D_declared at hf
  refine xM.of (k := 1) (L0 := [some (.ref b), some (.int p1), some (.int p2), none]) (by decide) (Nat.le_of_ble_eq_true rfl) rfl ?_
  intro p e s m args below meth c hc hnm
  have hR : xRm { frames := 2, cells := 0, slots := 0, locals := 48 * 2 } 2 := ⟨Nat.le_refl _, Nat.le_refl _⟩
  refine x_aload_n hc (xd dk_D_declared 0 rfl) rfl rfl ?_
  refine x_get hc (ci := 0) (k := 2) fi_D (c_D hb _) rfl (by decide) rfl xw690 rfl (xd dk_D_declared 1 rfl) ?_
  obtain ⟨z14, ez14, hz14, hf⟩ := xsrc_some hf
  rw [← ez14]
  refine x_getN hc (ci := 9) (k := 3) fi_R (c_R (hb.rd hz14) _) rfl (by decide) rfl xn265 rfl (xd dk_D_declared 2 rfl) ?_
  refine x_astore_n hc (xd dk_D_declared 3 rfl) (by decide) rfl ?_
  refine x_iload_n hc (xd dk_D_declared 4 rfl) rfl rfl ?_
  refine x_if_lt hc (tgt := 20) (xd dk_D_declared 5 rfl) rfl (fun q15 => ?_) (fun q15 => ?_)
  · rw [if_pos q15] at hf
    exact s_D_declared_20 hc hR hb z14 M hf
  · rw [if_neg q15] at hf
    refine x_iload_n hc (xd dk_D_declared 6 rfl) rfl rfl ?_
    refine x_aload_n hc (xd dk_D_declared 7 rfl) rfl rfl ?_
    refine x_getN hc (ci := 5) (k := 8) fi_H (c_H (hb.rd hz14) _) rfl (by decide) rfl xn154 rfl (xd dk_D_declared 8 rfl) ?_
    refine x_icmp_lt hc (tgt := 30) (xd dk_D_declared 9 rfl) rfl (fun q16 => ?_) (fun q16 => ?_)
    · rw [if_pos q16] at hf
      refine x_iload_n hc (xd dk_D_declared 15 rfl) rfl rfl ?_
      by_cases q17 : p2 = 0
      case pos =>
        rw [if_pos q17] at hf
        refine x_tableIn hc (off := 37) (tgt := 68) (xd dk_D_declared 16 rfl) (by rw [q17]; decide) (by rw [q17]; decide) (by rw [q17]; rfl) rfl ?_
        refine x_aload_n hc (xd dk_D_declared 17 rfl) rfl rfl ?_
        refine x_get hc (ci := 0) (k := 2) fi_D (c_D hb _) rfl (by decide) rfl xw690 rfl (xd dk_D_declared 18 rfl) ?_
        obtain ⟨z18, ez18, hz18, hf⟩ := xsrc_some hf
        rw [← ez18]
        refine x_getN hc (ci := 9) (k := 1) fi_R (c_R (hb.rd hz18) _) rfl (by decide) rfl xn261 rfl (xd dk_D_declared 19 rfl) ?_
        refine x_aload_n hc (xd dk_D_declared 20 rfl) rfl rfl ?_
        refine x_getN hc (ci := 5) (k := 0) fi_H (c_H (hb.rd hz14) _) rfl (by decide) rfl xn132 rfl (xd dk_D_declared 21 rfl) ?_
        refine x_iload_n hc (xd dk_D_declared 22 rfl) rfl rfl ?_
        by_cases q19 : xin p1 60 = true
        case neg => rw [if_neg q19] at hf; cases hf
        rw [if_pos q19] at hf
        refine x_iald hc (cA (xRd.ar (hb.rd hz14) 13 (by decide) rfl)) (xin_in q19) (xd dk_D_declared 23 rfl) ?_
        obtain ⟨x20, hx20, hf⟩ := xval_ex hf
        rw [← hx20]
        obtain ⟨r21, M, e22, hf⟩ := xbind_some hf
        refine x_callV hc (As := [.int x20]) (n := 1) (s_T_startOf (hb.rd hz18) e22) (c_T (hb.rd hz18) _) rfl (hR.call (by decide) (by decide)) ⟨by decide, by decide, by decide⟩ rfl rfl xw625 xw4 xw772 xw623 xw624 (Nat.le_of_ble_eq_true rfl) ⟨Nat.zero_le _, Nat.zero_le _⟩ (xd dk_D_declared 24 rfl) ?_
        cases hf
        exact x_ireturn hc (xd dk_D_declared 25 rfl)
      rw [if_neg q17] at hf
      by_cases q23 : p2 = 1
      case pos =>
        rw [if_pos q23] at hf
        refine x_tableIn hc (off := 54) (tgt := 85) (xd dk_D_declared 16 rfl) (by rw [q23]; decide) (by rw [q23]; decide) (by rw [q23]; rfl) rfl ?_
        refine x_aload_n hc (xd dk_D_declared 26 rfl) rfl rfl ?_
        refine x_getN hc (ci := 5) (k := 2) fi_H (c_H (hb.rd hz14) _) rfl (by decide) rfl xn137 rfl (xd dk_D_declared 27 rfl) ?_
        refine x_iload_n hc (xd dk_D_declared 28 rfl) rfl rfl ?_
        by_cases q24 : xin p1 60 = true
        case neg => rw [if_neg q24] at hf; cases hf
        rw [if_pos q24] at hf
        refine x_iald hc (cA (xRd.ar (hb.rd hz14) 15 (by decide) rfl)) (xin_in q24) (xd dk_D_declared 29 rfl) ?_
        cases hf
        exact x_ireturn hc (xd dk_D_declared 30 rfl)
      rw [if_neg q23] at hf
      by_cases q25 : p2 = 2
      case pos =>
        rw [if_pos q25] at hf
        refine x_tableIn hc (off := 61) (tgt := 92) (xd dk_D_declared 16 rfl) (by rw [q25]; decide) (by rw [q25]; decide) (by rw [q25]; rfl) rfl ?_
        refine x_aload_n hc (xd dk_D_declared 31 rfl) rfl rfl ?_
        refine x_getN hc (ci := 5) (k := 4) fi_H (c_H (hb.rd hz14) _) rfl (by decide) rfl xn143 rfl (xd dk_D_declared 32 rfl) ?_
        refine x_iload_n hc (xd dk_D_declared 33 rfl) rfl rfl ?_
        by_cases q26 : xin p1 60 = true
        case neg => rw [if_neg q26] at hf; cases hf
        rw [if_pos q26] at hf
        refine x_iald hc (cA (xRd.ar (hb.rd hz14) 17 (by decide) rfl)) (xin_in q26) (xd dk_D_declared 34 rfl) ?_
        cases hf
        exact x_ireturn hc (xd dk_D_declared 35 rfl)
      rw [if_neg q25] at hf
      by_cases q27 : p2 = 3
      case pos =>
        rw [if_pos q27] at hf
        refine x_tableIn hc (off := 68) (tgt := 99) (xd dk_D_declared 16 rfl) (by rw [q27]; decide) (by rw [q27]; decide) (by rw [q27]; rfl) rfl ?_
        refine x_aload_n hc (xd dk_D_declared 36 rfl) rfl rfl ?_
        refine x_getN hc (ci := 5) (k := 5) fi_H (c_H (hb.rd hz14) _) rfl (by decide) rfl xn146 rfl (xd dk_D_declared 37 rfl) ?_
        refine x_iload_n hc (xd dk_D_declared 38 rfl) rfl rfl ?_
        by_cases q28 : xin p1 60 = true
        case neg => rw [if_neg q28] at hf; cases hf
        rw [if_pos q28] at hf
        refine x_iald hc (cA (xRd.ar (hb.rd hz14) 18 (by decide) rfl)) (xin_in q28) (xd dk_D_declared 39 rfl) ?_
        cases hf
        exact x_ireturn hc (xd dk_D_declared 40 rfl)
      rw [if_neg q27] at hf
      by_cases q29 : p2 = 4
      case pos =>
        rw [if_pos q29] at hf
        refine x_tableIn hc (off := 75) (tgt := 106) (xd dk_D_declared 16 rfl) (by rw [q29]; decide) (by rw [q29]; decide) (by rw [q29]; rfl) rfl ?_
        refine x_aload_n hc (xd dk_D_declared 41 rfl) rfl rfl ?_
        refine x_getN hc (ci := 5) (k := 6) fi_H (c_H (hb.rd hz14) _) rfl (by decide) rfl xn149 rfl (xd dk_D_declared 42 rfl) ?_
        refine x_iload_n hc (xd dk_D_declared 43 rfl) rfl rfl ?_
        by_cases q30 : xin p1 60 = true
        case neg => rw [if_neg q30] at hf; cases hf
        rw [if_pos q30] at hf
        refine x_iald hc (cA (xRd.ar (hb.rd hz14) 19 (by decide) rfl)) (xin_in q30) (xd dk_D_declared 44 rfl) ?_
        cases hf
        exact x_ireturn hc (xd dk_D_declared 45 rfl)
      rw [if_neg q29] at hf
      by_cases q31 : p2 = 5
      case pos =>
        rw [if_pos q31] at hf
        refine x_tableIn hc (off := 82) (tgt := 113) (xd dk_D_declared 16 rfl) (by rw [q31]; decide) (by rw [q31]; decide) (by rw [q31]; rfl) rfl ?_
        refine x_aload_n hc (xd dk_D_declared 46 rfl) rfl rfl ?_
        refine x_get hc (ci := 0) (k := 2) fi_D (c_D hb _) rfl (by decide) rfl xw690 rfl (xd dk_D_declared 47 rfl) ?_
        obtain ⟨z32, ez32, hz32, hf⟩ := xsrc_some hf
        rw [← ez32]
        refine x_getN hc (ci := 9) (k := 2) fi_R (c_R (hb.rd hz32) _) rfl (by decide) rfl xn263 rfl (xd dk_D_declared 48 rfl) ?_
        refine x_aload_n hc (xd dk_D_declared 49 rfl) rfl rfl ?_
        refine x_getN hc (ci := 5) (k := 3) fi_H (c_H (hb.rd hz14) _) rfl (by decide) rfl xn140 rfl (xd dk_D_declared 50 rfl) ?_
        refine x_iload_n hc (xd dk_D_declared 51 rfl) rfl rfl ?_
        by_cases q33 : xin p1 60 = true
        case neg => rw [if_neg q33] at hf; cases hf
        rw [if_pos q33] at hf
        refine x_iald hc (cA (xRd.ar (hb.rd hz14) 16 (by decide) rfl)) (xin_in q33) (xd dk_D_declared 52 rfl) ?_
        obtain ⟨x34, hx34, hf⟩ := xval_ex hf
        rw [← hx34]
        obtain ⟨r35, M, e36, hf⟩ := xbind_some hf
        refine x_callV hc (As := [.int x34]) (n := 1) (s_S_levelOf (hb.rd hz32) e36) (c_S (hb.rd hz32) _) rfl (hR.call (by decide) (by decide)) ⟨by decide, by decide, by decide⟩ rfl rfl xw652 xw5 xw1010 xw650 xw651 (Nat.le_of_ble_eq_true rfl) ⟨Nat.zero_le _, Nat.zero_le _⟩ (xd dk_D_declared 53 rfl) ?_
        cases hf
        exact x_ireturn hc (xd dk_D_declared 54 rfl)
      rw [if_neg q31] at hf
      refine x_tableOut hc (tgt := 130) (xd dk_D_declared 16 rfl) (by have q17n := xne (v := 0) q17 (by decide); have q23n := xne (v := 1) q23 (by decide); have q25n := xne (v := 2) q25 (by decide); have q27n := xne (v := 3) q27 (by decide); have q29n := xne (v := 4) q29 (by decide); have q31n := xne (v := 5) q31 (by decide); omega) rfl ?_
      cases hf
    · rw [if_neg q16] at hf
      exact s_D_declared_20 hc hR hb z14 M hf
def f_D_write_17 (b : Nat) (p1 : Int64) (v3 : Int32) (M : xMem) : Option ((Int32 ⊕ Nat) × xMem) :=
  (some (.inr 0, M))
def f_D_write_55 (b : Nat) (p1 : Int64) : Nat → Int32 → Int32 → xMem → Option ((Int32 ⊕ Nat) × xMem)
  | 0, _, _, _ => none
  | n + 1, v3, v4, M =>
    (if v3 ≤ v4 then (some (.inl (M.1 (b + 1) 1), M)) else (xbind (f_D_octet p1 v4 M) fun r10 M => xbind (f_L_add (b + 1) ((r10.toUInt32 % 65536).toInt32) M) fun r12 M => f_D_write_55 b p1 n v3 (v4 + Int32.ofInt 1) M))
def f_D_write (b : Nat) (p1 : Int64) (M : xMem) : Option ((Int32 ⊕ Nat) × xMem) :=
  (xbind (f_D_octetsIn p1 M) fun r14 M => if r14 = 0 then (f_D_write_17 b p1 r14 M) else (xbind (f_D_areLetters p1 r14 M) fun r17 M => if r17 = 0 then (f_D_write_17 b p1 r14 M) else (if ((M.1 (b + 1) 1) + r14) ≤ 160 then (f_D_write_55 b p1 xFuel r14 0 M) else (some (.inr 2, M)))))
set_option maxRecDepth 100000 in
set_option maxHeartbeats 400000 in
theorem s_D_write_17 {p : Program} {l : Launch} {e : Env} {R : Room} {s : State} {m : MethodId} {args : Array Value} {below : List Frame} {meth : Method} {c : Code} {G : xG} {Y : xY} {sz : Nat} {b : Nat} {p1 : Int64}  (hc : xC p s m args meth c G 5 c_D_write y_D_write.cls (some .int)) (hR : xRm R 2) (hb : xDk Y b) {M' : xMem} {r : Int32} (v3 : Int32) (M : xMem) (hf : f_D_write_17 b p1 v3 M = some (.inl r, M')) : xW p l e R s m args below meth c G 5 (MQ below (xQc G (some (.int r)) (xo G Y M') sz) args s 0 0 (xA G)) (xo G Y M) sz 0 0 17 [some (.ref b), some (.long (p1)), none, some (.int v3), none] [] := by
  unfold f_D_write_17 at hf
  cases hf
set_option maxRecDepth 100000 in
set_option maxHeartbeats 400000 in
theorem s_D_write_55 {p : Program} {l : Launch} {e : Env} {R : Room} {s : State} {m : MethodId} {args : Array Value} {below : List Frame} {meth : Method} {c : Code} {G : xG} {Y : xY} {sz : Nat} {b : Nat} {p1 : Int64}  (hc : xC p s m args meth c G 5 c_D_write y_D_write.cls (some .int)) (hR : xRm R 2) (hb : xDk Y b) {M' : xMem} {r : Int32} : ∀ (n : Nat) (v3 : Int32) (v4 : Int32) (M : xMem), f_D_write_55 b p1 n v3 v4 M = some (.inl r, M') → xW p l e R s m args below meth c G 5 (MQ below (xQc G (some (.int r)) (xo G Y M') sz) args s 0 0 (xA G)) (xo G Y M) sz 0 0 55 [some (.ref b), some (.long (p1)), none, some (.int v3), some (.int v4)] [] := by
  intro n
  induction n with
  | zero => intro v3 v4 M hf; simp only [f_D_write_55] at hf; cases hf
  | succ n ih =>
    intro v3 v4 M hf
    simp only [f_D_write_55] at hf
    refine x_iload hc (xd dk_D_write 28 rfl) rfl ?_
    refine x_iload_n hc (xd dk_D_write 29 rfl) rfl rfl ?_
    refine x_icmp_ge hc (tgt := 81) (xd dk_D_write 30 rfl) rfl (fun q9 => ?_) (fun q9 => ?_)
    · rw [if_pos q9] at hf
      refine x_aload_n hc (xd dk_D_write 40 rfl) rfl rfl ?_
      refine x_get hc (ci := 0) (k := 0) fi_D (c_D hb _) rfl (by decide) rfl xw688 rfl (xd dk_D_write 41 rfl) ?_
      refine x_getN hc (ci := 1) (k := 1) fi_L (c_L hb.w _) rfl (by decide) rfl xn42 rfl (xd dk_D_write 42 rfl) ?_
      cases hf
      exact x_ireturn hc (xd dk_D_write 43 rfl)
    · rw [if_neg q9] at hf
      refine x_aload_n hc (xd dk_D_write 31 rfl) rfl rfl ?_
      refine x_get hc (ci := 0) (k := 0) fi_D (c_D hb _) rfl (by decide) rfl xw688 rfl (xd dk_D_write 32 rfl) ?_
      refine x_lload_n hc (xd dk_D_write 33 rfl) rfl rfl ?_
      refine x_iload hc (xd dk_D_write 34 rfl) rfl ?_
      obtain ⟨r10, M, e11, hf⟩ := xbind_some hf
      refine x_callS hc (As := [.long (p1), .int v4]) (n := 2) (s_D_octet e11) (hR.call (by decide) (by decide)) ⟨by decide, by decide, by decide⟩ rfl rfl xw812 xw1 xw810 xw811 (Nat.le_of_ble_eq_true rfl) ⟨Nat.zero_le _, Nat.zero_le _⟩ (xd dk_D_write 35 rfl) ?_
      refine x_i2c hc (xd dk_D_write 36 rfl) rfl ?_
      obtain ⟨r12, M, e13, hf⟩ := xbind_some hf
      refine x_callV hc (As := [.int ((r10.toUInt32 % 65536).toInt32)]) (n := 1) (s_L_add hb.w e13) (c_L hb.w _) rfl (hR.call (by decide) (by decide)) ⟨by decide, by decide, by decide⟩ rfl rfl xw788 xw2 xw899 xw786 xw787 (Nat.le_of_ble_eq_true rfl) ⟨Nat.zero_le _, Nat.zero_le _⟩ (xd dk_D_write 37 rfl) ?_
      refine x_iinc hc (xd dk_D_write 38 rfl) rfl (by decide) rfl ?_
      refine x_goto hc (tgt := 55) (xd dk_D_write 39 rfl) rfl ?_
      exact ih v3 (v4 + Int32.ofInt 1) M hf
set_option maxRecDepth 100000 in
set_option maxHeartbeats 400000 in
theorem s_D_write {l : Launch} {G : xG} {Y : xY} {sz : Nat} {b : Nat} {p1 : Int64}  (hb : xDk Y b) {M M' : xMem} {r : Int32} (hf : f_D_write b p1 M = some (.inl r, M')) : xM l G y_D_write c_D_write 5 (some .int) 2 0 0 [.ref b, .long (p1)] (xo G Y M) sz (some (.int r)) (xo G Y M') sz := by
  unfold f_D_write at hf
  refine xM.of (k := 2) (L0 := [some (.ref b), some (.long (p1)), none, none, none]) (by decide) (Nat.le_of_ble_eq_true rfl) rfl ?_
  intro p e s m args below meth c hc hnm
  have hR : xRm { frames := 2, cells := 0, slots := 0, locals := 48 * 2 } 2 := ⟨Nat.le_refl _, Nat.le_refl _⟩
  refine x_lload_n hc (xd dk_D_write 0 rfl) rfl rfl ?_
  obtain ⟨r14, M, e15, hf⟩ := xbind_some hf
  refine x_callS hc (As := [.long (p1)]) (n := 1) (s_D_octetsIn e15) (hR.call (by decide) (by decide)) ⟨by decide, by decide, by decide⟩ rfl rfl xw809 xw1 xw807 xw808 (Nat.le_of_ble_eq_true rfl) ⟨Nat.zero_le _, Nat.zero_le _⟩ (xd dk_D_write 1 rfl) ?_
  refine x_istore_n hc (xd dk_D_write 2 rfl) (by decide) rfl ?_
  refine x_iload_n hc (xd dk_D_write 3 rfl) rfl rfl ?_
  refine x_if_eq hc (tgt := 17) (xd dk_D_write 4 rfl) rfl (fun q16 => ?_) (fun q16 => ?_)
  · rw [if_pos q16] at hf
    exact s_D_write_17 hc hR hb r14 M hf
  · rw [if_neg q16] at hf
    refine x_lload_n hc (xd dk_D_write 5 rfl) rfl rfl ?_
    refine x_iload_n hc (xd dk_D_write 6 rfl) rfl rfl ?_
    obtain ⟨r17, M, e18, hf⟩ := xbind_some hf
    refine x_callS hc (As := [.long (p1), .int r14]) (n := 2) (s_D_areLetters e18) (hR.call (by decide) (by decide)) ⟨by decide, by decide, by decide⟩ rfl rfl xw815 xw1 xw813 xw814 (Nat.le_of_ble_eq_true rfl) ⟨Nat.zero_le _, Nat.zero_le _⟩ (xd dk_D_write 7 rfl) ?_
    refine x_if_ne hc (tgt := 27) (xd dk_D_write 8 rfl) rfl (fun q19 => ?_) (fun q19 => ?_)
    · rw [if_neg q19] at hf
      refine x_aload_n hc (xd dk_D_write 14 rfl) rfl rfl ?_
      refine x_get hc (ci := 0) (k := 0) fi_D (c_D hb _) rfl (by decide) rfl xw688 rfl (xd dk_D_write 15 rfl) ?_
      refine x_getN hc (ci := 1) (k := 1) fi_L (c_L hb.w _) rfl (by decide) rfl xn42 rfl (xd dk_D_write 16 rfl) ?_
      refine x_iload_n hc (xd dk_D_write 17 rfl) rfl rfl ?_
      refine x_iadd hc (xd dk_D_write 18 rfl) ?_
      refine x_sipush hc (v := 160) (xd dk_D_write 19 rfl) (by decide) ?_
      refine x_icmp_le hc (tgt := 52) (xd dk_D_write 20 rfl) rfl (fun q20 => ?_) (fun q20 => ?_)
      · rw [if_pos q20] at hf
        refine x_iconst hc (v := 0) (xd dk_D_write 26 rfl) (by decide) ?_
        refine x_istore hc (xd dk_D_write 27 rfl) (by decide) rfl ?_
        exact s_D_write_55 hc hR hb xFuel r14 0 M hf
      · rw [if_neg q20] at hf
        cases hf
    · rw [if_pos q19] at hf
      exact s_D_write_17 hc hR hb r14 M hf
def f_D_read (b : Nat) (M : xMem) : Option ((Int32 ⊕ Nat) × xMem) :=
  (xsrc b (M.2.2.2 1) fun z17 => xbind (f_L_clear z17 M) fun r18 M => xsrc b (M.2.2.2 1) fun z20 => xval (M.1 (b + 1) 1) fun x21 => xbind (f_L_addPart z20 (b + 1) 0 x21 M) fun r22 M => xbind (f_L_clear (b + 1) M) fun r24 M => xsrc b (M.2.2.2 1) fun z26 => xbind (f_R_study z26 M) fun r27 M => xlet (wI M b 4 r27) fun M => if M.1 b 4 < 0 then (xbind (f_D_takeSpare b M) fun r30 M => xsrc b (M.2.2.2 0) fun z32 => xbind (f_G_findingsIn (b + 3) z32 M) fun r33 M => some (.inl r33, M)) else (some (.inr 0, M)))
set_option maxRecDepth 100000 in
set_option maxHeartbeats 400000 in
theorem s_D_read {l : Launch} {G : xG} {Y : xY} {sz : Nat} {b : Nat}  (hb : xDk Y b) {M M' : xMem} {r : Int32} (hf : f_D_read b M = some (.inl r, M')) : xM l G y_D_read c_D_read 1 (some .int) 161 0 0 [.ref b] (xo G Y M) sz (some (.int r)) (xo G Y M') sz := by
  unfold f_D_read at hf
  refine xM.of (k := 0) (L0 := [some (.ref b)]) (by decide) (Nat.le_of_ble_eq_true rfl) rfl ?_
  intro p e s m args below meth c hc hnm
  have hR : xRm { frames := 161, cells := 0, slots := 0, locals := 48 * 161 } 161 := ⟨Nat.le_refl _, Nat.le_refl _⟩
  refine x_aload_n hc (xd dk_D_read 0 rfl) rfl rfl ?_
  refine x_get hc (ci := 0) (k := 3) fi_D (c_D hb _) rfl (by decide) rfl xw691 rfl (xd dk_D_read 1 rfl) ?_
  obtain ⟨z17, ez17, hz17, hf⟩ := xsrc_some hf
  rw [← ez17]
  refine x_getN hc (ci := 9) (k := 0) fi_R (c_R (hb.rd hz17) _) rfl (by decide) rfl xn258 rfl (xd dk_D_read 2 rfl) ?_
  obtain ⟨r18, M, e19, hf⟩ := xbind_some hf
  refine x_callV hc (As := []) (n := 0) (s_L_clear ((hb.rd hz17).L) e19) (c_L (hb.rd hz17).L _) rfl (hR.call (by decide) (by decide)) ⟨by decide, by decide, by decide⟩ rfl rfl xw780 xw2 xw777 xw778 xw779 (Nat.le_of_ble_eq_true rfl) ⟨Nat.zero_le _, Nat.zero_le _⟩ (xd dk_D_read 3 rfl) ?_
  refine x_aload_n hc (xd dk_D_read 4 rfl) rfl rfl ?_
  refine x_get hc (ci := 0) (k := 3) fi_D (c_D hb _) rfl (by decide) rfl xw691 rfl (xd dk_D_read 5 rfl) ?_
  obtain ⟨z20, ez20, hz20, hf⟩ := xsrc_some hf
  rw [← ez20]
  refine x_getN hc (ci := 9) (k := 0) fi_R (c_R (hb.rd hz20) _) rfl (by decide) rfl xn258 rfl (xd dk_D_read 6 rfl) ?_
  refine x_aload_n hc (xd dk_D_read 7 rfl) rfl rfl ?_
  refine x_get hc (ci := 0) (k := 0) fi_D (c_D hb _) rfl (by decide) rfl xw688 rfl (xd dk_D_read 8 rfl) ?_
  refine x_iconst hc (v := 0) (xd dk_D_read 9 rfl) (by decide) ?_
  refine x_aload_n hc (xd dk_D_read 10 rfl) rfl rfl ?_
  refine x_get hc (ci := 0) (k := 0) fi_D (c_D hb _) rfl (by decide) rfl xw688 rfl (xd dk_D_read 11 rfl) ?_
  refine x_getN hc (ci := 1) (k := 1) fi_L (c_L hb.w _) rfl (by decide) rfl xn42 rfl (xd dk_D_read 12 rfl) ?_
  obtain ⟨x21, hx21, hf⟩ := xval_ex hf
  rw [← hx21]
  obtain ⟨r22, M, e23, hf⟩ := xbind_some hf
  refine x_callV hc (As := [.ref (b + 1), .int 0, .int x21]) (n := 3) (s_L_addPart ((hb.rd hz20).L) hb.w e23) (c_L (hb.rd hz20).L _) rfl (hR.call (by decide) (by decide)) ⟨by decide, by decide, by decide⟩ rfl rfl xw784 xw2 xw781 xw782 xw783 (Nat.le_of_ble_eq_true rfl) ⟨Nat.zero_le _, Nat.zero_le _⟩ (xd dk_D_read 13 rfl) ?_
  refine x_aload_n hc (xd dk_D_read 14 rfl) rfl rfl ?_
  refine x_get hc (ci := 0) (k := 0) fi_D (c_D hb _) rfl (by decide) rfl xw688 rfl (xd dk_D_read 15 rfl) ?_
  obtain ⟨r24, M, e25, hf⟩ := xbind_some hf
  refine x_callV hc (As := []) (n := 0) (s_L_clear hb.w e25) (c_L hb.w _) rfl (hR.call (by decide) (by decide)) ⟨by decide, by decide, by decide⟩ rfl rfl xw780 xw2 xw777 xw778 xw779 (Nat.le_of_ble_eq_true rfl) ⟨Nat.zero_le _, Nat.zero_le _⟩ (xd dk_D_read 16 rfl) ?_
  refine x_aload_n hc (xd dk_D_read 17 rfl) rfl rfl ?_
  refine x_aload_n hc (xd dk_D_read 18 rfl) rfl rfl ?_
  refine x_get hc (ci := 0) (k := 3) fi_D (c_D hb _) rfl (by decide) rfl xw691 rfl (xd dk_D_read 19 rfl) ?_
  obtain ⟨z26, ez26, hz26, hf⟩ := xsrc_some hf
  rw [← ez26]
  obtain ⟨r27, M, e28, hf⟩ := xbind_some hf
  refine x_callV hc (As := []) (n := 0) (s_R_study (hb.rd hz26) e28) (c_R (hb.rd hz26) _) rfl (hR.call (by decide) (by decide)) ⟨by decide, by decide, by decide⟩ rfl rfl xw289 xw10 xw286 xw287 xw288 (Nat.le_of_ble_eq_true rfl) ⟨Nat.zero_le _, Nat.zero_le _⟩ (xd dk_D_read 20 rfl) ?_
  refine x_put hc (ci := 0) (k := 4) fi_D ft_D ft_D_ok fn_D (c_D hb _) rfl (by decide) rfl xw692 rfl rfl rfl (Nat.le_of_ble_eq_true rfl) (xd dk_D_read 21 rfl) ?_
  rw [w_D_4 hb]
  replace hf := xlet_some hf
  generalize wI M b 4 r27 = M at hf ⊢
  refine x_aload_n hc (xd dk_D_read 22 rfl) rfl rfl ?_
  refine x_get hc (ci := 0) (k := 4) fi_D (c_D hb _) rfl (by decide) rfl xw692 rfl (xd dk_D_read 23 rfl) ?_
  refine x_if_lt hc (tgt := 67) (xd dk_D_read 24 rfl) rfl (fun q29 => ?_) (fun q29 => ?_)
  · rw [if_pos q29] at hf
    refine x_aload_n hc (xd dk_D_read 30 rfl) rfl rfl ?_
    obtain ⟨r30, M, e31, hf⟩ := xbind_some hf
    refine x_callV hc (As := []) (n := 0) (s_D_takeSpare hb e31) (c_D hb _) rfl (hR.call (by decide) (by decide)) ⟨by decide, by decide, by decide⟩ rfl rfl xw796 xw1 xw793 xw795 xs_D_takeSpare (Nat.le_of_ble_eq_true rfl) ⟨Nat.zero_le _, Nat.zero_le _⟩ (xd dk_D_read 31 rfl) ?_
    refine x_aload_n hc (xd dk_D_read 32 rfl) rfl rfl ?_
    refine x_get hc (ci := 0) (k := 1) fi_D (c_D hb _) rfl (by decide) rfl xw689 rfl (xd dk_D_read 33 rfl) ?_
    refine x_aload_n hc (xd dk_D_read 34 rfl) rfl rfl ?_
    refine x_get hc (ci := 0) (k := 2) fi_D (c_D hb _) rfl (by decide) rfl xw690 rfl (xd dk_D_read 35 rfl) ?_
    obtain ⟨z32, ez32, hz32, hf⟩ := xsrc_some hf
    rw [← ez32]
    obtain ⟨r33, M, e34, hf⟩ := xbind_some hf
    refine x_callV hc (As := [.ref (z32 + 30)]) (n := 1) (s_G_findingsIn hb.g (hb.rd hz32) e34) (c_G hb.g _) rfl (hR.call (by decide) (by decide)) ⟨by decide, by decide, by decide⟩ rfl rfl xw911 xw3 xw908 xw909 xw910 (Nat.le_of_ble_eq_true rfl) ⟨Nat.zero_le _, Nat.zero_le _⟩ (xd dk_D_read 36 rfl) ?_
    cases hf
    exact x_ireturn hc (xd dk_D_read 37 rfl)
  · rw [if_neg q29] at hf
    cases hf
def f_D_give_31 (b : Nat) (p1 : Int64) (v3 : Int32) (v4 : Int64) (M : xMem) : Option ((Int32 ⊕ Nat) × xMem) :=
  (some (.inr 0, M))
def f_D_give (b : Nat) (p1 : Int64) (M : xMem) : Option ((Int32 ⊕ Nat) × xMem) :=
  (xbind (f_D_octetsIn p1 M) fun r13 M => xbind (f_D_firstOctets p1 r13 M) fun r15 M => xbind (f_D_isWord p1 r13 M) fun r17 M => if r17 = 0 then (f_D_give_31 b p1 r13 r15 M) else (xbind (f_D_keywordOf r15 M) fun r20 M => if r20 < 28 then if r20 = 23 then (xbind (f_G_isGiven (b + 3) r15 M) fun r23 M => if r23 = 0 then (if M.1 (b + 3) 1 < 8 then (xbind (f_G_addGiven (b + 3) r15 M) fun r27 M => some (.inl (M.1 (b + 3) 1), M)) else (some (.inr 2, M))) else (some (.inr 1, M))) else (f_D_give_31 b p1 r13 r15 M) else none))
set_option maxRecDepth 100000 in
set_option maxHeartbeats 400000 in
theorem s_D_give_31 {p : Program} {l : Launch} {e : Env} {R : Room} {s : State} {m : MethodId} {args : Array Value} {below : List Frame} {meth : Method} {c : Code} {G : xG} {Y : xY} {sz : Nat} {b : Nat} {p1 : Int64}  (hc : xC p s m args meth c G 6 c_D_give y_D_give.cls (some .int)) (hR : xRm R 2) (hb : xDk Y b) {M' : xMem} {r : Int32} (v3 : Int32) (v4 : Int64) (M : xMem) (hf : f_D_give_31 b p1 v3 v4 M = some (.inl r, M')) : xW p l e R s m args below meth c G 6 (MQ below (xQc G (some (.int r)) (xo G Y M') sz) args s 0 0 (xA G)) (xo G Y M) sz 0 0 31 [some (.ref b), some (.long (p1)), none, some (.int v3), some (.long (v4)), none] [] := by
  unfold f_D_give_31 at hf
  cases hf
set_option maxRecDepth 100000 in
set_option maxHeartbeats 400000 in
theorem s_D_give {l : Launch} {G : xG} {Y : xY} {sz : Nat} {b : Nat} {p1 : Int64}  (hb : xDk Y b) {M M' : xMem} {r : Int32} (hf : f_D_give b p1 M = some (.inl r, M')) : xM l G y_D_give c_D_give 6 (some .int) 2 0 0 [.ref b, .long (p1)] (xo G Y M) sz (some (.int r)) (xo G Y M') sz := by
  unfold f_D_give at hf
  refine xM.of (k := 3) (L0 := [some (.ref b), some (.long (p1)), none, none, none, none]) (by decide) (Nat.le_of_ble_eq_true rfl) rfl ?_
  intro p e s m args below meth c hc hnm
  have hR : xRm { frames := 2, cells := 0, slots := 0, locals := 48 * 2 } 2 := ⟨Nat.le_refl _, Nat.le_refl _⟩
  refine x_lload_n hc (xd dk_D_give 0 rfl) rfl rfl ?_
  obtain ⟨r13, M, e14, hf⟩ := xbind_some hf
  refine x_callS hc (As := [.long (p1)]) (n := 1) (s_D_octetsIn e14) (hR.call (by decide) (by decide)) ⟨by decide, by decide, by decide⟩ rfl rfl xw809 xw1 xw807 xw808 (Nat.le_of_ble_eq_true rfl) ⟨Nat.zero_le _, Nat.zero_le _⟩ (xd dk_D_give 1 rfl) ?_
  refine x_istore_n hc (xd dk_D_give 2 rfl) (by decide) rfl ?_
  refine x_lload_n hc (xd dk_D_give 3 rfl) rfl rfl ?_
  refine x_iload_n hc (xd dk_D_give 4 rfl) rfl rfl ?_
  obtain ⟨r15, M, e16, hf⟩ := xbind_some hf
  refine x_callS hc (As := [.long (p1), .int r13]) (n := 2) (s_D_firstOctets e16) (hR.call (by decide) (by decide)) ⟨by decide, by decide, by decide⟩ rfl rfl xw944 xw1 xw942 xw943 (Nat.le_of_ble_eq_true rfl) ⟨Nat.zero_le _, Nat.zero_le _⟩ (xd dk_D_give 5 rfl) ?_
  refine x_lstore hc (xd dk_D_give 6 rfl) (by decide) rfl ?_
  refine x_lload_n hc (xd dk_D_give 7 rfl) rfl rfl ?_
  refine x_iload_n hc (xd dk_D_give 8 rfl) rfl rfl ?_
  obtain ⟨r17, M, e18, hf⟩ := xbind_some hf
  refine x_callS hc (As := [.long (p1), .int r13]) (n := 2) (s_D_isWord e18) (hR.call (by decide) (by decide)) ⟨by decide, by decide, by decide⟩ rfl rfl xw947 xw1 xw945 xw946 (Nat.le_of_ble_eq_true rfl) ⟨Nat.zero_le _, Nat.zero_le _⟩ (xd dk_D_give 9 rfl) ?_
  refine x_if_eq hc (tgt := 31) (xd dk_D_give 10 rfl) rfl (fun q19 => ?_) (fun q19 => ?_)
  · rw [if_pos q19] at hf
    exact s_D_give_31 hc hR hb r13 r15 M hf
  · rw [if_neg q19] at hf
    refine x_lload hc (xd dk_D_give 11 rfl) rfl ?_
    obtain ⟨r20, M, e21, hf⟩ := xbind_some hf
    refine x_callS hc (As := [.long (r15)]) (n := 1) (s_D_keywordOf e21) (hR.call (by decide) (by decide)) ⟨by decide, by decide, by decide⟩ rfl rfl xw333 xw1 xw950 xw332 (Nat.le_of_ble_eq_true rfl) ⟨Nat.zero_le _, Nat.zero_le _⟩ (xd dk_D_give 12 rfl) ?_
    by_cases htr20 : r20 < 28
    case neg => rw [if_neg htr20] at hf; cases hf
    rw [if_pos htr20] at hf
    refine x_getsK hc 23 (by decide) xw336 (xd dk_D_give 13 rfl) ?_
    refine x_tok_eq hc htr20 (by decide) (tgt := 41) (xd dk_D_give 14 rfl) rfl (fun q22 => ?_) (fun q22 => ?_)
    · rw [if_pos q22] at hf
      refine x_aload_n hc (xd dk_D_give 20 rfl) rfl rfl ?_
      refine x_get hc (ci := 0) (k := 1) fi_D (c_D hb _) rfl (by decide) rfl xw689 rfl (xd dk_D_give 21 rfl) ?_
      refine x_lload hc (xd dk_D_give 22 rfl) rfl ?_
      obtain ⟨r23, M, e24, hf⟩ := xbind_some hf
      refine x_callV hc (As := [.long (r15)]) (n := 1) (s_G_isGiven hb.g e24) (c_G hb.g _) rfl (hR.call (by decide) (by decide)) ⟨by decide, by decide, by decide⟩ rfl rfl xw742 xw3 xw952 xw740 xw741 (Nat.le_of_ble_eq_true rfl) ⟨Nat.zero_le _, Nat.zero_le _⟩ (xd dk_D_give 23 rfl) ?_
      refine x_if_eq hc (tgt := 63) (xd dk_D_give 24 rfl) rfl (fun q25 => ?_) (fun q25 => ?_)
      · rw [if_pos q25] at hf
        refine x_aload_n hc (xd dk_D_give 30 rfl) rfl rfl ?_
        refine x_get hc (ci := 0) (k := 1) fi_D (c_D hb _) rfl (by decide) rfl xw689 rfl (xd dk_D_give 31 rfl) ?_
        refine x_getN hc (ci := 2) (k := 1) fi_G (c_G hb.g _) rfl (by decide) rfl xn58 rfl (xd dk_D_give 32 rfl) ?_
        refine x_bipush hc (v := 8) (xd dk_D_give 33 rfl) (by decide) ?_
        refine x_icmp_lt hc (tgt := 85) (xd dk_D_give 34 rfl) rfl (fun q26 => ?_) (fun q26 => ?_)
        · rw [if_pos q26] at hf
          refine x_aload_n hc (xd dk_D_give 40 rfl) rfl rfl ?_
          refine x_get hc (ci := 0) (k := 1) fi_D (c_D hb _) rfl (by decide) rfl xw689 rfl (xd dk_D_give 41 rfl) ?_
          refine x_lload hc (xd dk_D_give 42 rfl) rfl ?_
          obtain ⟨r27, M, e28, hf⟩ := xbind_some hf
          refine x_callV hc (As := [.long (r15)]) (n := 1) (s_G_addGiven hb.g e28) (c_G hb.g _) rfl (hR.call (by decide) (by decide)) ⟨by decide, by decide, by decide⟩ rfl rfl xw973 xw3 xw970 xw971 xw972 (Nat.le_of_ble_eq_true rfl) ⟨Nat.zero_le _, Nat.zero_le _⟩ (xd dk_D_give 43 rfl) ?_
          refine x_aload_n hc (xd dk_D_give 44 rfl) rfl rfl ?_
          refine x_get hc (ci := 0) (k := 1) fi_D (c_D hb _) rfl (by decide) rfl xw689 rfl (xd dk_D_give 45 rfl) ?_
          refine x_getN hc (ci := 2) (k := 1) fi_G (c_G hb.g _) rfl (by decide) rfl xn58 rfl (xd dk_D_give 46 rfl) ?_
          cases hf
          exact x_ireturn hc (xd dk_D_give 47 rfl)
        · rw [if_neg q26] at hf
          cases hf
      · rw [if_neg q25] at hf
        cases hf
    · rw [if_neg q22] at hf
      exact s_D_give_31 hc hR hb r13 r15 M hf
