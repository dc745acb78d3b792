/-! the desk: its methods where they throw (printed by gen/run5.py) -/
def xEn : Nat → String
  | 0 => xIA
  | 1 => xIS
  | _ => xIX
def xMs (k : Nat) : String := ((xMsg.find? (fun q => q.1 == k)).map (fun q => q.2)).getD ""
set_option maxRecDepth 100000 in
theorem xt22 : (Jvm.Cond.initialized "java/lang/IllegalArgumentException") ∈ xWs := xWs_of (lw_T (i := 22) rfl) rfl
set_option maxRecDepth 100000 in
theorem xt23 : (Jvm.Cond.initialized "java/lang/IndexOutOfBoundsException") ∈ xWs := xWs_of (lw_T (i := 23) rfl) rfl
set_option maxRecDepth 100000 in
theorem xt25 : (Jvm.Cond.initialized "java/lang/IllegalStateException") ∈ xWs := xWs_of (lw_T (i := 25) rfl) rfl
set_option maxRecDepth 100000 in
theorem xt816 : (Jvm.Cond.classLink "LintDesk" (52 : Nat) "java/lang/IllegalArgumentException") ∈ xWs := xWs_of (lw_T (i := 816) rfl) rfl
set_option maxRecDepth 100000 in
theorem xt817 : (Jvm.Cond.instantiable "java/lang/IllegalArgumentException" (6 : Nat)) ∈ xWs := xWs_of (lw_T (i := 817) rfl) rfl
set_option maxRecDepth 100000 in
theorem xt883 : (Jvm.Cond.classLink "LintDesk" (62 : Nat) "java/lang/IndexOutOfBoundsException") ∈ xWs := xWs_of (lw_T (i := 883) rfl) rfl
set_option maxRecDepth 100000 in
theorem xt884 : (Jvm.Cond.instantiable "java/lang/IndexOutOfBoundsException" (6 : Nat)) ∈ xWs := xWs_of (lw_T (i := 884) rfl) rfl
set_option maxRecDepth 100000 in
theorem xt953 : (Jvm.Cond.classLink "LintDesk" (127 : Nat) "java/lang/IllegalStateException") ∈ xWs := xWs_of (lw_T (i := 953) rfl) rfl
set_option maxRecDepth 100000 in
theorem xt954 : (Jvm.Cond.instantiable "java/lang/IllegalStateException" (6 : Nat)) ∈ xWs := xWs_of (lw_T (i := 954) rfl) rfl
set_option maxRecDepth 100000 in
set_option maxHeartbeats 400000 in
theorem t_D_letter_18 {p : Program} {l : Launch} {e : Env} {R : Room} {s : State} {m : MethodId} {args : Array Value} {below : List Frame} {meth : Method} {c : Code} {G : xG} {Y : xY} {sz : Nat} {b : Nat} {p1 : Int32}  (hc : xC p s m args meth c G 2 c_D_letter y_D_letter.cls (some .int)) (hR : xRm R 6) (hT : xT G s) (hl : xNT l) (htab : c.exceptionTable.isEmpty = true) (hC : 1 ≤ R.cells ∧ 6 ≤ R.slots) (hb : xDk Y b) {M' : xMem} {er : Nat} (M : xMem) (hf : f_D_letter_18 b p1 M = some (.inr er, M')) : xW p l e R s m args below meth c G 2 (XQ below G (xEn er) (xo G Y M') (sz + 1) 1 6 args s) (xo G Y M) sz 0 0 18 [some (.ref b), some (.int p1)] [] := by
  unfold f_D_letter_18 at hf
  cases hf
  exact x_throw hc hT hl htab (im := 169) (tx := xMs 169) xOwn_IX (by decide) xt883 xt884 xt23 (by decide +kernel) ⟨Nat.le_trans (by decide) hR.1, Nat.le_trans (by decide) hR.2⟩ hC (xd dk_D_letter 8 rfl) (xd dk_D_letter 9 rfl) (xd dk_D_letter 10 rfl) (xd dk_D_letter 11 rfl) (xd dk_D_letter 12 rfl)
set_option maxRecDepth 100000 in
set_option maxHeartbeats 400000 in
theorem t_D_letter {l : Launch} {G : xG} {Y : xY} {sz : Nat} {b : Nat} {p1 : Int32}  (hb : xDk Y b) (hl : xNT l) {M M' : xMem} {er : Nat} (hf : f_D_letter b p1 M = some (.inr er, M')) : xX l G y_D_letter c_D_letter 2 (some .int) 6 1 6 [.ref b, .int p1] (xo G Y M) sz (xEn er) (xo G Y M') (sz + 1) := by
  unfold f_D_letter at hf
  refine xX.of (k := 0) (L0 := [some (.ref b), some (.int p1)]) (by decide) (Nat.le_of_ble_eq_true rfl) rfl ?_
  intro p e s m args below meth c hc hT htab
  have hR : xRm { frames := 6, cells := 1, slots := 6, locals := 48 * 6 } 6 := ⟨Nat.le_refl _, Nat.le_refl _⟩
  have hC : 1 ≤ ({ frames := 6, cells := 1, slots := 6, locals := 48 * 6 } : Room).cells ∧ 6 ≤ ({ frames := 6, cells := 1, slots := 6, locals := 48 * 6 } : Room).slots := ⟨Nat.le_refl _, Nat.le_refl _⟩
  refine x_iload_n hc (xd dk_D_letter 0 rfl) rfl rfl ?_
  refine x_if_lt hc (tgt := 18) (xd dk_D_letter 1 rfl) rfl (fun q5 => ?_) (fun q5 => ?_)
  · rw [if_pos q5] at hf
    exact t_D_letter_18 hc hR hT hl htab hC hb M hf
  · rw [if_neg q5] at hf
    refine x_iload_n hc (xd dk_D_letter 2 rfl) rfl rfl ?_
    refine x_aload_n hc (xd dk_D_letter 3 rfl) rfl rfl ?_
    refine x_get hc (ci := 0) (k := 2) fi_D (c_D hb _) rfl (by decide) rfl xw690 rfl (xd dk_D_letter 4 rfl) ?_
    obtain ⟨z6, ez6, hz6, hf⟩ := xsrc_some hf
    rw [← ez6]
    refine x_getN hc (ci := 9) (k := 0) fi_R (c_R (hb.rd hz6) _) rfl (by decide) rfl xn258 rfl (xd dk_D_letter 5 rfl) ?_
    refine x_getN hc (ci := 1) (k := 1) fi_L (c_L (hb.rd hz6).L _) rfl (by decide) rfl xn42 rfl (xd dk_D_letter 6 rfl) ?_
    refine x_icmp_lt hc (tgt := 28) (xd dk_D_letter 7 rfl) rfl (fun q7 => ?_) (fun q7 => ?_)
    · rw [if_pos q7] at hf
      refine x_aload_n hc (xd dk_D_letter 13 rfl) rfl rfl ?_
      refine x_get hc (ci := 0) (k := 2) fi_D (c_D hb _) rfl (by decide) rfl xw690 rfl (xd dk_D_letter 14 rfl) ?_
      obtain ⟨z8, ez8, hz8, hf⟩ := xsrc_some hf
      rw [← ez8]
      refine x_getN hc (ci := 9) (k := 0) fi_R (c_R (hb.rd hz8) _) rfl (by decide) rfl xn258 rfl (xd dk_D_letter 15 rfl) ?_
      refine x_iload_n hc (xd dk_D_letter 16 rfl) rfl rfl ?_
      obtain ⟨r9, M, e10, hf⟩ := xbind_some hf
      refine x_callV hc (As := [.int p1]) (n := 1) (s_L_at ((hb.rd hz8).L) e10) (c_L (hb.rd hz8).L _) rfl (hR.call (by decide) (by decide)) ⟨by decide, by decide, by decide⟩ rfl rfl xw301 xw2 xw1001 xw299 xw300 (Nat.le_of_ble_eq_true rfl) ⟨Nat.zero_le _, Nat.zero_le _⟩ (xd dk_D_letter 17 rfl) ?_
      cases hf
    · rw [if_neg q7] at hf
      exact t_D_letter_18 hc hR hT hl htab hC hb M hf
set_option maxRecDepth 100000 in
set_option maxHeartbeats 400000 in
theorem t_D_found {l : Launch} {G : xG} {Y : xY} {sz : Nat} {b : Nat} {p1 : Int32}  (hb : xDk Y b) (hl : xNT l) {M M' : xMem} {er : Nat} (hf : f_D_found b p1 M = some (.inr er, M')) : xX l G y_D_found c_D_found 3 (some .int) 6 1 6 [.ref b, .int p1] (xo G Y M) sz (xEn er) (xo G Y M') (sz + 1) := by
  unfold f_D_found at hf
  refine xX.of (k := 1) (L0 := [some (.ref b), some (.int p1), none]) (by decide) (Nat.le_of_ble_eq_true rfl) rfl ?_
  intro p e s m args below meth c hc hT htab
  have hR : xRm { frames := 6, cells := 1, slots := 6, locals := 48 * 6 } 6 := ⟨Nat.le_refl _, Nat.le_refl _⟩
  have hC : 1 ≤ ({ frames := 6, cells := 1, slots := 6, locals := 48 * 6 } : Room).cells ∧ 6 ≤ ({ frames := 6, cells := 1, slots := 6, locals := 48 * 6 } : Room).slots := ⟨Nat.le_refl _, Nat.le_refl _⟩
  refine x_aload_n hc (xd dk_D_found 0 rfl) rfl rfl ?_
  refine x_get hc (ci := 0) (k := 1) fi_D (c_D hb _) rfl (by decide) rfl xw689 rfl (xd dk_D_found 1 rfl) ?_
  refine x_aload_n hc (xd dk_D_found 2 rfl) rfl rfl ?_
  refine x_get hc (ci := 0) (k := 2) fi_D (c_D hb _) rfl (by decide) rfl xw690 rfl (xd dk_D_found 3 rfl) ?_
  obtain ⟨z4, ez4, hz4, hf⟩ := xsrc_some hf
  rw [← ez4]
  refine x_iload_n hc (xd dk_D_found 4 rfl) rfl rfl ?_
  obtain ⟨r5, M, e6, hf⟩ := xbind_some hf
  refine x_callV hc (As := [.ref (z4 + 30), .int p1]) (n := 2) (s_G_findingOf hb.g (hb.rd hz4) e6) (c_G hb.g _) rfl (hR.call (by decide) (by decide)) ⟨by decide, by decide, by decide⟩ rfl rfl xw984 xw3 xw981 xw982 xw983 (Nat.le_of_ble_eq_true rfl) ⟨Nat.zero_le _, Nat.zero_le _⟩ (xd dk_D_found 5 rfl) ?_
  refine x_istore_n hc (xd dk_D_found 6 rfl) (by decide) rfl ?_
  refine x_iload_n hc (xd dk_D_found 7 rfl) rfl rfl ?_
  refine x_if_ge hc (tgt := 27) (xd dk_D_found 8 rfl) rfl (fun q7 => ?_) (fun q7 => ?_)
  · rw [if_pos q7] at hf
    refine x_iload_n hc (xd dk_D_found 14 rfl) rfl rfl ?_
    refine x_bipush hc (v := 10) (xd dk_D_found 15 rfl) (by decide) ?_
    refine x_irem hc (xd dk_D_found 16 rfl) (by decide) ?_
    cases hf
  · rw [if_neg q7] at hf
    cases hf
    exact x_throw hc hT hl htab (im := 145) (tx := xMs 145) xOwn_IX (by decide) xt883 xt884 xt23 (by decide +kernel) ⟨Nat.le_trans (by decide) hR.1, Nat.le_trans (by decide) hR.2⟩ hC (xd dk_D_found 9 rfl) (xd dk_D_found 10 rfl) (xd dk_D_found 11 rfl) (xd dk_D_found 12 rfl) (xd dk_D_found 13 rfl)
set_option maxRecDepth 100000 in
set_option maxHeartbeats 400000 in
theorem t_D_place {l : Launch} {G : xG} {Y : xY} {sz : Nat} {b : Nat} {p1 : Int32}  (hb : xDk Y b) (hl : xNT l) {M M' : xMem} {er : Nat} (hf : f_D_place b p1 M = some (.inr er, M')) : xX l G y_D_place c_D_place 3 (some .int) 6 1 6 [.ref b, .int p1] (xo G Y M) sz (xEn er) (xo G Y M') (sz + 1) := by
  unfold f_D_place at hf
  refine xX.of (k := 1) (L0 := [some (.ref b), some (.int p1), none]) (by decide) (Nat.le_of_ble_eq_true rfl) rfl ?_
  intro p e s m args below meth c hc hT htab
  have hR : xRm { frames := 6, cells := 1, slots := 6, locals := 48 * 6 } 6 := ⟨Nat.le_refl _, Nat.le_refl _⟩
  have hC : 1 ≤ ({ frames := 6, cells := 1, slots := 6, locals := 48 * 6 } : Room).cells ∧ 6 ≤ ({ frames := 6, cells := 1, slots := 6, locals := 48 * 6 } : Room).slots := ⟨Nat.le_refl _, Nat.le_refl _⟩
  refine x_aload_n hc (xd dk_D_place 0 rfl) rfl rfl ?_
  refine x_get hc (ci := 0) (k := 1) fi_D (c_D hb _) rfl (by decide) rfl xw689 rfl (xd dk_D_place 1 rfl) ?_
  refine x_aload_n hc (xd dk_D_place 2 rfl) rfl rfl ?_
  refine x_get hc (ci := 0) (k := 2) fi_D (c_D hb _) rfl (by decide) rfl xw690 rfl (xd dk_D_place 3 rfl) ?_
  obtain ⟨z7, ez7, hz7, hf⟩ := xsrc_some hf
  rw [← ez7]
  refine x_iload_n hc (xd dk_D_place 4 rfl) rfl rfl ?_
  obtain ⟨r8, M, e9, hf⟩ := xbind_some hf
  refine x_callV hc (As := [.ref (z7 + 30), .int p1]) (n := 2) (s_G_findingOf hb.g (hb.rd hz7) e9) (c_G hb.g _) rfl (hR.call (by decide) (by decide)) ⟨by decide, by decide, by decide⟩ rfl rfl xw984 xw3 xw981 xw982 xw983 (Nat.le_of_ble_eq_true rfl) ⟨Nat.zero_le _, Nat.zero_le _⟩ (xd dk_D_place 5 rfl) ?_
  refine x_istore_n hc (xd dk_D_place 6 rfl) (by decide) rfl ?_
  refine x_iload_n hc (xd dk_D_place 7 rfl) rfl rfl ?_
  refine x_if_ge hc (tgt := 27) (xd dk_D_place 8 rfl) rfl (fun q10 => ?_) (fun q10 => ?_)
  · rw [if_pos q10] at hf
    refine x_aload_n hc (xd dk_D_place 14 rfl) rfl rfl ?_
    refine x_get hc (ci := 0) (k := 2) fi_D (c_D hb _) rfl (by decide) rfl xw690 rfl (xd dk_D_place 15 rfl) ?_
    obtain ⟨z11, ez11, hz11, hf⟩ := xsrc_some hf
    rw [← ez11]
    refine x_getN hc (ci := 9) (k := 1) fi_R (c_R (hb.rd hz11) _) rfl (by decide) rfl xn261 rfl (xd dk_D_place 16 rfl) ?_
    refine x_iload_n hc (xd dk_D_place 17 rfl) rfl rfl ?_
    refine x_bipush hc (v := 10) (xd dk_D_place 18 rfl) (by decide) ?_
    refine x_idiv hc (xd dk_D_place 19 rfl) (by decide) ?_
    obtain ⟨r12, M, e13, hf⟩ := xbind_some hf
    refine x_callV hc (As := [.int ((r8 / 10))]) (n := 1) (s_T_startOf (hb.rd hz11) e13) (c_T (hb.rd hz11) _) rfl (hR.call (by decide) (by decide)) ⟨by decide, by decide, by decide⟩ rfl rfl xw625 xw4 xw772 xw623 xw624 (Nat.le_of_ble_eq_true rfl) ⟨Nat.zero_le _, Nat.zero_le _⟩ (xd dk_D_place 20 rfl) ?_
    cases hf
  · rw [if_neg q10] at hf
    cases hf
    exact x_throw hc hT hl htab (im := 145) (tx := xMs 145) xOwn_IX (by decide) xt883 xt884 xt23 (by decide +kernel) ⟨Nat.le_trans (by decide) hR.1, Nat.le_trans (by decide) hR.2⟩ hC (xd dk_D_place 9 rfl) (xd dk_D_place 10 rfl) (xd dk_D_place 11 rfl) (xd dk_D_place 12 rfl) (xd dk_D_place 13 rfl)
set_option maxRecDepth 100000 in
set_option maxHeartbeats 400000 in
theorem t_D_rule_10 {p : Program} {l : Launch} {e : Env} {R : Room} {s : State} {m : MethodId} {args : Array Value} {below : List Frame} {meth : Method} {c : Code} {G : xG} {Y : xY} {sz : Nat} {b : Nat} {p1 : Int32} {p2 : Int32}  (hc : xC p s m args meth c G 4 c_D_rule y_D_rule.cls (some .boolean)) (hR : xRm R 6) (hT : xT G s) (hl : xNT l) (htab : c.exceptionTable.isEmpty = true) (hC : 1 ≤ R.cells ∧ 6 ≤ R.slots) (hb : xDk Y b) {M' : xMem} {er : Nat} (M : xMem) (hf : f_D_rule_10 b p1 p2 M = some (.inr er, M')) : xW p l e R s m args below meth c G 4 (XQ below G (xEn er) (xo G Y M') (sz + 1) 1 6 args s) (xo G Y M) sz 0 0 10 [some (.ref b), some (.int p1), some (.int p2), none] [] := by
  unfold f_D_rule_10 at hf
  cases hf
  exact x_throw hc hT hl htab (im := 94) (tx := xMs 94) xOwn_IA (by decide) xt816 xt817 xt22 (by decide +kernel) ⟨Nat.le_trans (by decide) hR.1, Nat.le_trans (by decide) hR.2⟩ hC (xd dk_D_rule 5 rfl) (xd dk_D_rule 6 rfl) (xd dk_D_rule 7 rfl) (xd dk_D_rule 8 rfl) (xd dk_D_rule 9 rfl)
set_option maxRecDepth 100000 in
set_option maxHeartbeats 400000 in
theorem t_D_rule {l : Launch} {G : xG} {Y : xY} {sz : Nat} {b : Nat} {p1 : Int32} {p2 : Int32}  (hb : xDk Y b) (hl : xNT l) {M M' : xMem} {er : Nat} (hf : f_D_rule b p1 p2 M = some (.inr er, M')) : xX l G y_D_rule c_D_rule 4 (some .boolean) 6 1 6 [.ref b, .int p1, .int p2] (xo G Y M) sz (xEn er) (xo G Y M') (sz + 1) := by
  unfold f_D_rule at hf
  refine xX.of (k := 1) (L0 := [some (.ref b), some (.int p1), some (.int p2), none]) (by decide) (Nat.le_of_ble_eq_true rfl) rfl ?_
  intro p e s m args below meth c hc hT htab
  have hR : xRm { frames := 6, cells := 1, slots := 6, locals := 48 * 6 } 6 := ⟨Nat.le_refl _, Nat.le_refl _⟩
  have hC : 1 ≤ ({ frames := 6, cells := 1, slots := 6, locals := 48 * 6 } : Room).cells ∧ 6 ≤ ({ frames := 6, cells := 1, slots := 6, locals := 48 * 6 } : Room).slots := ⟨Nat.le_refl _, Nat.le_refl _⟩
  refine x_iload_n hc (xd dk_D_rule 0 rfl) rfl rfl ?_
  refine x_if_lt hc (tgt := 10) (xd dk_D_rule 1 rfl) rfl (fun q6 => ?_) (fun q6 => ?_)
  · rw [if_pos q6] at hf
    exact t_D_rule_10 hc hR hT hl htab hC hb M hf
  · rw [if_neg q6] at hf
    refine x_iload_n hc (xd dk_D_rule 2 rfl) rfl rfl ?_
    refine x_bipush hc (v := 10) (xd dk_D_rule 3 rfl) (by decide) ?_
    refine x_icmp_lt hc (tgt := 20) (xd dk_D_rule 4 rfl) rfl (fun q7 => ?_) (fun q7 => ?_)
    · rw [if_pos q7] at hf
      refine x_aload_n hc (xd dk_D_rule 10 rfl) rfl rfl ?_
      refine x_get hc (ci := 0) (k := 1) fi_D (c_D hb _) rfl (by decide) rfl xw689 rfl (xd dk_D_rule 11 rfl) ?_
      refine x_iload_n hc (xd dk_D_rule 12 rfl) rfl rfl ?_
      obtain ⟨r8, M, e9, hf⟩ := xbind_some hf
      refine x_callV hc (As := [.int p1]) (n := 1) (s_G_isOn hb.g e9) (c_G hb.g _) rfl (hR.call (by decide) (by decide)) ⟨by decide, by decide, by decide⟩ rfl rfl xw929 xw3 xw926 xw927 xw928 (Nat.le_of_ble_eq_true rfl) ⟨Nat.zero_le _, Nat.zero_le _⟩ (xd dk_D_rule 13 rfl) ?_
      refine x_istore_n hc (xd dk_D_rule 14 rfl) (by decide) rfl ?_
      refine x_aload_n hc (xd dk_D_rule 15 rfl) rfl rfl ?_
      refine x_get hc (ci := 0) (k := 1) fi_D (c_D hb _) rfl (by decide) rfl xw689 rfl (xd dk_D_rule 16 rfl) ?_
      refine x_iload_n hc (xd dk_D_rule 17 rfl) rfl rfl ?_
      refine x_iload_n hc (xd dk_D_rule 18 rfl) rfl rfl ?_
      obtain ⟨r10, M, e11, hf⟩ := xbind_some hf
      refine x_callV hc (As := [.int p1, .int p2]) (n := 2) (s_G_turn hb.g e11) (c_G hb.g _) rfl (hR.call (by decide) (by decide)) ⟨by decide, by decide, by decide⟩ rfl rfl xw933 xw3 xw930 xw931 xw932 (Nat.le_of_ble_eq_true rfl) ⟨Nat.zero_le _, Nat.zero_le _⟩ (xd dk_D_rule 19 rfl) ?_
      refine x_iload_n hc (xd dk_D_rule 20 rfl) rfl rfl ?_
      by_cases q12 : xnar .boolean r8 = true
      case neg => rw [if_neg q12] at hf; cases hf
      rw [if_pos q12] at hf
      cases hf
    · rw [if_neg q7] at hf
      exact t_D_rule_10 hc hR hT hl htab hC hb M hf
set_option maxRecDepth 100000 in
set_option maxHeartbeats 400000 in
theorem t_D_count {l : Launch} {G : xG} {Y : xY} {sz : Nat} {b : Nat} {p1 : Int32}  (hb : xDk Y b) (hl : xNT l) {M M' : xMem} {er : Nat} (hf : f_D_count b p1 M = some (.inr er, M')) : xX l G y_D_count c_D_count 2 (some .int) 6 1 6 [.ref b, .int p1] (xo G Y M) sz (xEn er) (xo G Y M') (sz + 1) := by
  unfold f_D_count at hf
  refine xX.of (k := 0) (L0 := [some (.ref b), some (.int p1)]) (by decide) (Nat.le_of_ble_eq_true rfl) rfl ?_
  intro p e s m args below meth c hc hT htab
  have hR : xRm { frames := 6, cells := 1, slots := 6, locals := 48 * 6 } 6 := ⟨Nat.le_refl _, Nat.le_refl _⟩
  have hC : 1 ≤ ({ frames := 6, cells := 1, slots := 6, locals := 48 * 6 } : Room).cells ∧ 6 ≤ ({ frames := 6, cells := 1, slots := 6, locals := 48 * 6 } : Room).slots := ⟨Nat.le_refl _, Nat.le_refl _⟩
  refine x_iload_n hc (xd dk_D_count 0 rfl) rfl rfl ?_
  by_cases q12 : p1 = 0
  case pos =>
    rw [if_pos q12] at hf
    refine x_tableIn hc (off := 55) (tgt := 56) (xd dk_D_count 1 rfl) (by rw [q12]; decide) (by rw [q12]; decide) (by rw [q12]; rfl) rfl ?_
    refine x_aload_n hc (xd dk_D_count 2 rfl) rfl rfl ?_
    refine x_get hc (ci := 0) (k := 2) fi_D (c_D hb _) rfl (by decide) rfl xw690 rfl (xd dk_D_count 3 rfl) ?_
    obtain ⟨z13, ez13, hz13, hf⟩ := xsrc_some hf
    rw [← ez13]
    refine x_getN hc (ci := 9) (k := 0) fi_R (c_R (hb.rd hz13) _) rfl (by decide) rfl xn258 rfl (xd dk_D_count 4 rfl) ?_
    refine x_getN hc (ci := 1) (k := 1) fi_L (c_L (hb.rd hz13).L _) rfl (by decide) rfl xn42 rfl (xd dk_D_count 5 rfl) ?_
    cases hf
  rw [if_neg q12] at hf
  by_cases q14 : p1 = 1
  case pos =>
    rw [if_pos q14] at hf
    refine x_tableIn hc (off := 66) (tgt := 67) (xd dk_D_count 1 rfl) (by rw [q14]; decide) (by rw [q14]; decide) (by rw [q14]; rfl) rfl ?_
    refine x_aload_n hc (xd dk_D_count 7 rfl) rfl rfl ?_
    refine x_get hc (ci := 0) (k := 2) fi_D (c_D hb _) rfl (by decide) rfl xw690 rfl (xd dk_D_count 8 rfl) ?_
    obtain ⟨z15, ez15, hz15, hf⟩ := xsrc_some hf
    rw [← ez15]
    refine x_getN hc (ci := 9) (k := 1) fi_R (c_R (hb.rd hz15) _) rfl (by decide) rfl xn261 rfl (xd dk_D_count 9 rfl) ?_
    refine x_getN hc (ci := 3) (k := 6) fi_T (c_T (hb.rd hz15) _) rfl (by decide) rfl xn87 rfl (xd dk_D_count 10 rfl) ?_
    cases hf
  rw [if_neg q14] at hf
  by_cases q16 : p1 = 2
  case pos =>
    rw [if_pos q16] at hf
    refine x_tableIn hc (off := 77) (tgt := 78) (xd dk_D_count 1 rfl) (by rw [q16]; decide) (by rw [q16]; decide) (by rw [q16]; rfl) rfl ?_
    refine x_aload_n hc (xd dk_D_count 12 rfl) rfl rfl ?_
    refine x_get hc (ci := 0) (k := 1) fi_D (c_D hb _) rfl (by decide) rfl xw689 rfl (xd dk_D_count 13 rfl) ?_
    refine x_aload_n hc (xd dk_D_count 14 rfl) rfl rfl ?_
    refine x_get hc (ci := 0) (k := 2) fi_D (c_D hb _) rfl (by decide) rfl xw690 rfl (xd dk_D_count 15 rfl) ?_
    obtain ⟨z17, ez17, hz17, hf⟩ := xsrc_some hf
    rw [← ez17]
    obtain ⟨r18, M, e19, hf⟩ := xbind_some hf
    refine x_callV hc (As := [.ref (z17 + 30)]) (n := 1) (s_G_findingsIn hb.g (hb.rd hz17) e19) (c_G hb.g _) rfl (hR.call (by decide) (by decide)) ⟨by decide, by decide, by decide⟩ rfl rfl xw911 xw3 xw908 xw909 xw910 (Nat.le_of_ble_eq_true rfl) ⟨Nat.zero_le _, Nat.zero_le _⟩ (xd dk_D_count 16 rfl) ?_
    cases hf
  rw [if_neg q16] at hf
  by_cases q20 : p1 = 3
  case pos =>
    rw [if_pos q20] at hf
    refine x_tableIn hc (off := 89) (tgt := 90) (xd dk_D_count 1 rfl) (by rw [q20]; decide) (by rw [q20]; decide) (by rw [q20]; rfl) rfl ?_
    refine x_aload_n hc (xd dk_D_count 18 rfl) rfl rfl ?_
    refine x_get hc (ci := 0) (k := 2) fi_D (c_D hb _) rfl (by decide) rfl xw690 rfl (xd dk_D_count 19 rfl) ?_
    obtain ⟨z21, ez21, hz21, hf⟩ := xsrc_some hf
    rw [← ez21]
    refine x_getN hc (ci := 9) (k := 3) fi_R (c_R (hb.rd hz21) _) rfl (by decide) rfl xn265 rfl (xd dk_D_count 20 rfl) ?_
    refine x_getN hc (ci := 5) (k := 8) fi_H (c_H (hb.rd hz21) _) rfl (by decide) rfl xn154 rfl (xd dk_D_count 21 rfl) ?_
    cases hf
  rw [if_neg q20] at hf
  by_cases q22 : p1 = 4
  case pos =>
    rw [if_pos q22] at hf
    refine x_tableIn hc (off := 100) (tgt := 101) (xd dk_D_count 1 rfl) (by rw [q22]; decide) (by rw [q22]; decide) (by rw [q22]; rfl) rfl ?_
    refine x_aload_n hc (xd dk_D_count 23 rfl) rfl rfl ?_
    refine x_get hc (ci := 0) (k := 2) fi_D (c_D hb _) rfl (by decide) rfl xw690 rfl (xd dk_D_count 24 rfl) ?_
    obtain ⟨z23, ez23, hz23, hf⟩ := xsrc_some hf
    rw [← ez23]
    refine x_getN hc (ci := 9) (k := 2) fi_R (c_R (hb.rd hz23) _) rfl (by decide) rfl xn263 rfl (xd dk_D_count 25 rfl) ?_
    refine x_getN hc (ci := 4) (k := 3) fi_S (c_S (hb.rd hz23) _) rfl (by decide) rfl xn114 rfl (xd dk_D_count 26 rfl) ?_
    cases hf
  rw [if_neg q22] at hf
  by_cases q24 : p1 = 5
  case pos =>
    rw [if_pos q24] at hf
    refine x_tableIn hc (off := 111) (tgt := 112) (xd dk_D_count 1 rfl) (by rw [q24]; decide) (by rw [q24]; decide) (by rw [q24]; rfl) rfl ?_
    refine x_aload_n hc (xd dk_D_count 28 rfl) rfl rfl ?_
    refine x_get hc (ci := 0) (k := 2) fi_D (c_D hb _) rfl (by decide) rfl xw690 rfl (xd dk_D_count 29 rfl) ?_
    obtain ⟨z25, ez25, hz25, hf⟩ := xsrc_some hf
    rw [← ez25]
    refine x_getN hc (ci := 9) (k := 5) fi_R (c_R (hb.rd hz25) _) rfl (by decide) rfl xn269 rfl (xd dk_D_count 30 rfl) ?_
    refine x_getN hc (ci := 7) (k := 8) fi_B (c_B (hb.rd hz25) _) rfl (by decide) rfl xn206 rfl (xd dk_D_count 31 rfl) ?_
    cases hf
  rw [if_neg q24] at hf
  by_cases q26 : p1 = 6
  case pos =>
    rw [if_pos q26] at hf
    refine x_tableIn hc (off := 122) (tgt := 123) (xd dk_D_count 1 rfl) (by rw [q26]; decide) (by rw [q26]; decide) (by rw [q26]; rfl) rfl ?_
    refine x_aload_n hc (xd dk_D_count 33 rfl) rfl rfl ?_
    refine x_get hc (ci := 0) (k := 5) fi_D (c_D hb _) rfl (by decide) rfl xw693 rfl (xd dk_D_count 34 rfl) ?_
    cases hf
  rw [if_neg q26] at hf
  by_cases q27 : p1 = 7
  case pos =>
    rw [if_pos q27] at hf
    refine x_tableIn hc (off := 127) (tgt := 128) (xd dk_D_count 1 rfl) (by rw [q27]; decide) (by rw [q27]; decide) (by rw [q27]; rfl) rfl ?_
    refine x_aload_n hc (xd dk_D_count 36 rfl) rfl rfl ?_
    refine x_get hc (ci := 0) (k := 1) fi_D (c_D hb _) rfl (by decide) rfl xw689 rfl (xd dk_D_count 37 rfl) ?_
    refine x_getN hc (ci := 2) (k := 1) fi_G (c_G hb.g _) rfl (by decide) rfl xn58 rfl (xd dk_D_count 38 rfl) ?_
    cases hf
  rw [if_neg q27] at hf
  by_cases q28 : p1 = 8
  case pos =>
    rw [if_pos q28] at hf
    refine x_tableIn hc (off := 135) (tgt := 136) (xd dk_D_count 1 rfl) (by rw [q28]; decide) (by rw [q28]; decide) (by rw [q28]; rfl) rfl ?_
    refine x_aload_n hc (xd dk_D_count 40 rfl) rfl rfl ?_
    refine x_get hc (ci := 0) (k := 0) fi_D (c_D hb _) rfl (by decide) rfl xw688 rfl (xd dk_D_count 41 rfl) ?_
    refine x_getN hc (ci := 1) (k := 1) fi_L (c_L hb.w _) rfl (by decide) rfl xn42 rfl (xd dk_D_count 42 rfl) ?_
    cases hf
  rw [if_neg q28] at hf
  by_cases q29 : p1 = 9
  case pos =>
    rw [if_pos q29] at hf
    refine x_tableIn hc (off := 143) (tgt := 144) (xd dk_D_count 1 rfl) (by rw [q29]; decide) (by rw [q29]; decide) (by rw [q29]; rfl) rfl ?_
    refine x_aload_n hc (xd dk_D_count 44 rfl) rfl rfl ?_
    refine x_get hc (ci := 0) (k := 1) fi_D (c_D hb _) rfl (by decide) rfl xw689 rfl (xd dk_D_count 45 rfl) ?_
    refine x_aload_n hc (xd dk_D_count 46 rfl) rfl rfl ?_
    refine x_get hc (ci := 0) (k := 2) fi_D (c_D hb _) rfl (by decide) rfl xw690 rfl (xd dk_D_count 47 rfl) ?_
    obtain ⟨z30, ez30, hz30, hf⟩ := xsrc_some hf
    rw [← ez30]
    obtain ⟨r31, M, e32, hf⟩ := xbind_some hf
    refine x_callV hc (As := [.ref (z30 + 30)]) (n := 1) (s_G_excusedIn hb.g (hb.rd hz30) e32) (c_G hb.g _) rfl (hR.call (by decide) (by decide)) ⟨by decide, by decide, by decide⟩ rfl rfl xw1022 xw3 xw1019 xw1020 xw1021 (Nat.le_of_ble_eq_true rfl) ⟨Nat.zero_le _, Nat.zero_le _⟩ (xd dk_D_count 48 rfl) ?_
    cases hf
  rw [if_neg q29] at hf
  refine x_tableOut hc (tgt := 156) (xd dk_D_count 1 rfl) (by have q12n := xne (v := 0) q12 (by decide); have q14n := xne (v := 1) q14 (by decide); have q16n := xne (v := 2) q16 (by decide); have q20n := xne (v := 3) q20 (by decide); have q22n := xne (v := 4) q22 (by decide); have q24n := xne (v := 5) q24 (by decide); have q26n := xne (v := 6) q26 (by decide); have q27n := xne (v := 7) q27 (by decide); have q28n := xne (v := 8) q28 (by decide); have q29n := xne (v := 9) q29 (by decide); omega) rfl ?_
  cases hf
  exact x_throw hc hT hl htab (im := 227) (tx := xMs 227) xOwn_IA (by decide) xt816 xt817 xt22 (by decide +kernel) ⟨Nat.le_trans (by decide) hR.1, Nat.le_trans (by decide) hR.2⟩ hC (xd dk_D_count 50 rfl) (xd dk_D_count 51 rfl) (xd dk_D_count 52 rfl) (xd dk_D_count 53 rfl) (xd dk_D_count 54 rfl)
set_option maxRecDepth 100000 in
set_option maxHeartbeats 400000 in
theorem t_D_declared_20 {p : Program} {l : Launch} {e : Env} {R : Room} {s : State} {m : MethodId} {args : Array Value} {below : List Frame} {meth : Method} {c : Code} {G : xG} {Y : xY} {sz : Nat} {b : Nat} {p1 : Int32} {p2 : Int32}  (hc : xC p s m args meth c G 4 c_D_declared y_D_declared.cls (some .int)) (hR : xRm R 6) (hT : xT G s) (hl : xNT l) (htab : c.exceptionTable.isEmpty = true) (hC : 1 ≤ R.cells ∧ 6 ≤ R.slots) (hb : xDk Y b) {M' : xMem} {er : Nat} (v3 : Nat) (M : xMem) (hf : f_D_declared_20 b p1 p2 v3 M = some (.inr er, M')) : xW p l e R s m args below meth c G 4 (XQ below G (xEn er) (xo G Y M') (sz + 1) 1 6 args s) (xo G Y M) sz 0 0 20 [some (.ref b), some (.int p1), some (.int p2), some (.ref (v3 + 12))] [] := by
  unfold f_D_declared_20 at hf
  by_cases hv3 : (v3 = b + 5 ∨ v3 = b + 36)
  case neg => rw [if_neg hv3] at hf; cases hf
  rw [if_pos hv3] at hf
  cases hf
  exact x_throw hc hT hl htab (im := 182) (tx := xMs 182) xOwn_IX (by decide) xt883 xt884 xt23 (by decide +kernel) ⟨Nat.le_trans (by decide) hR.1, Nat.le_trans (by decide) hR.2⟩ hC (xd dk_D_declared 10 rfl) (xd dk_D_declared 11 rfl) (xd dk_D_declared 12 rfl) (xd dk_D_declared 13 rfl) (xd dk_D_declared 14 rfl)
set_option maxRecDepth 100000 in
set_option maxHeartbeats 400000 in
theorem t_D_declared {l : Launch} {G : xG} {Y : xY} {sz : Nat} {b : Nat} {p1 : Int32} {p2 : Int32}  (hb : xDk Y b) (hl : xNT l) {M M' : xMem} {er : Nat} (hf : f_D_declared b p1 p2 M = some (.inr er, M')) : xX l G y_D_declared c_D_declared 4 (some .int) 6 1 6 [.ref b, .int p1, .int p2] (xo G Y M) sz (xEn er) (xo G Y M') (sz + 1) := by
  unfold f_D_declared at hf
  refine xX.of (k := 1) (L0 := [some (.ref b), some (.int p1), some (.int p2), none]) (by decide) (Nat.le_of_ble_eq_true rfl) rfl ?_
  intro p e s m args below meth c hc hT htab
  have hR : xRm { frames := 6, cells := 1, slots := 6, locals := 48 * 6 } 6 := ⟨Nat.le_refl _, Nat.le_refl _⟩
  have hC : 1 ≤ ({ frames := 6, cells := 1, slots := 6, locals := 48 * 6 } : Room).cells ∧ 6 ≤ ({ frames := 6, cells := 1, slots := 6, locals := 48 * 6 } : Room).slots := ⟨Nat.le_refl _, Nat.le_refl _⟩
  refine x_aload_n hc (xd dk_D_declared 0 rfl) rfl rfl ?_
  refine x_get hc (ci := 0) (k := 2) fi_D (c_D hb _) rfl (by decide) rfl xw690 rfl (xd dk_D_declared 1 rfl) ?_
  obtain ⟨z14, ez14, hz14, hf⟩ := xsrc_some hf
  rw [← ez14]
  refine x_getN hc (ci := 9) (k := 3) fi_R (c_R (hb.rd hz14) _) rfl (by decide) rfl xn265 rfl (xd dk_D_declared 2 rfl) ?_
  refine x_astore_n hc (xd dk_D_declared 3 rfl) (by decide) rfl ?_
  refine x_iload_n hc (xd dk_D_declared 4 rfl) rfl rfl ?_
  refine x_if_lt hc (tgt := 20) (xd dk_D_declared 5 rfl) rfl (fun q15 => ?_) (fun q15 => ?_)
  · rw [if_pos q15] at hf
    exact t_D_declared_20 hc hR hT hl htab hC hb z14 M hf
  · rw [if_neg q15] at hf
    refine x_iload_n hc (xd dk_D_declared 6 rfl) rfl rfl ?_
    refine x_aload_n hc (xd dk_D_declared 7 rfl) rfl rfl ?_
    refine x_getN hc (ci := 5) (k := 8) fi_H (c_H (hb.rd hz14) _) rfl (by decide) rfl xn154 rfl (xd dk_D_declared 8 rfl) ?_
    refine x_icmp_lt hc (tgt := 30) (xd dk_D_declared 9 rfl) rfl (fun q16 => ?_) (fun q16 => ?_)
    · rw [if_pos q16] at hf
      refine x_iload_n hc (xd dk_D_declared 15 rfl) rfl rfl ?_
      by_cases q17 : p2 = 0
      case pos =>
        rw [if_pos q17] at hf
        refine x_tableIn hc (off := 37) (tgt := 68) (xd dk_D_declared 16 rfl) (by rw [q17]; decide) (by rw [q17]; decide) (by rw [q17]; rfl) rfl ?_
        refine x_aload_n hc (xd dk_D_declared 17 rfl) rfl rfl ?_
        refine x_get hc (ci := 0) (k := 2) fi_D (c_D hb _) rfl (by decide) rfl xw690 rfl (xd dk_D_declared 18 rfl) ?_
        obtain ⟨z18, ez18, hz18, hf⟩ := xsrc_some hf
        rw [← ez18]
        refine x_getN hc (ci := 9) (k := 1) fi_R (c_R (hb.rd hz18) _) rfl (by decide) rfl xn261 rfl (xd dk_D_declared 19 rfl) ?_
        refine x_aload_n hc (xd dk_D_declared 20 rfl) rfl rfl ?_
        refine x_getN hc (ci := 5) (k := 0) fi_H (c_H (hb.rd hz14) _) rfl (by decide) rfl xn132 rfl (xd dk_D_declared 21 rfl) ?_
        refine x_iload_n hc (xd dk_D_declared 22 rfl) rfl rfl ?_
        by_cases q19 : xin p1 60 = true
        case neg => rw [if_neg q19] at hf; cases hf
        rw [if_pos q19] at hf
        refine x_iald hc (cA (xRd.ar (hb.rd hz14) 13 (by decide) rfl)) (xin_in q19) (xd dk_D_declared 23 rfl) ?_
        obtain ⟨x20, hx20, hf⟩ := xval_ex hf
        rw [← hx20]
        obtain ⟨r21, M, e22, hf⟩ := xbind_some hf
        refine x_callV hc (As := [.int x20]) (n := 1) (s_T_startOf (hb.rd hz18) e22) (c_T (hb.rd hz18) _) rfl (hR.call (by decide) (by decide)) ⟨by decide, by decide, by decide⟩ rfl rfl xw625 xw4 xw772 xw623 xw624 (Nat.le_of_ble_eq_true rfl) ⟨Nat.zero_le _, Nat.zero_le _⟩ (xd dk_D_declared 24 rfl) ?_
        cases hf
      rw [if_neg q17] at hf
      by_cases q23 : p2 = 1
      case pos =>
        rw [if_pos q23] at hf
        refine x_tableIn hc (off := 54) (tgt := 85) (xd dk_D_declared 16 rfl) (by rw [q23]; decide) (by rw [q23]; decide) (by rw [q23]; rfl) rfl ?_
        refine x_aload_n hc (xd dk_D_declared 26 rfl) rfl rfl ?_
        refine x_getN hc (ci := 5) (k := 2) fi_H (c_H (hb.rd hz14) _) rfl (by decide) rfl xn137 rfl (xd dk_D_declared 27 rfl) ?_
        refine x_iload_n hc (xd dk_D_declared 28 rfl) rfl rfl ?_
        by_cases q24 : xin p1 60 = true
        case neg => rw [if_neg q24] at hf; cases hf
        rw [if_pos q24] at hf
        refine x_iald hc (cA (xRd.ar (hb.rd hz14) 15 (by decide) rfl)) (xin_in q24) (xd dk_D_declared 29 rfl) ?_
        cases hf
      rw [if_neg q23] at hf
      by_cases q25 : p2 = 2
      case pos =>
        rw [if_pos q25] at hf
        refine x_tableIn hc (off := 61) (tgt := 92) (xd dk_D_declared 16 rfl) (by rw [q25]; decide) (by rw [q25]; decide) (by rw [q25]; rfl) rfl ?_
        refine x_aload_n hc (xd dk_D_declared 31 rfl) rfl rfl ?_
        refine x_getN hc (ci := 5) (k := 4) fi_H (c_H (hb.rd hz14) _) rfl (by decide) rfl xn143 rfl (xd dk_D_declared 32 rfl) ?_
        refine x_iload_n hc (xd dk_D_declared 33 rfl) rfl rfl ?_
        by_cases q26 : xin p1 60 = true
        case neg => rw [if_neg q26] at hf; cases hf
        rw [if_pos q26] at hf
        refine x_iald hc (cA (xRd.ar (hb.rd hz14) 17 (by decide) rfl)) (xin_in q26) (xd dk_D_declared 34 rfl) ?_
        cases hf
      rw [if_neg q25] at hf
      by_cases q27 : p2 = 3
      case pos =>
        rw [if_pos q27] at hf
        refine x_tableIn hc (off := 68) (tgt := 99) (xd dk_D_declared 16 rfl) (by rw [q27]; decide) (by rw [q27]; decide) (by rw [q27]; rfl) rfl ?_
        refine x_aload_n hc (xd dk_D_declared 36 rfl) rfl rfl ?_
        refine x_getN hc (ci := 5) (k := 5) fi_H (c_H (hb.rd hz14) _) rfl (by decide) rfl xn146 rfl (xd dk_D_declared 37 rfl) ?_
        refine x_iload_n hc (xd dk_D_declared 38 rfl) rfl rfl ?_
        by_cases q28 : xin p1 60 = true
        case neg => rw [if_neg q28] at hf; cases hf
        rw [if_pos q28] at hf
        refine x_iald hc (cA (xRd.ar (hb.rd hz14) 18 (by decide) rfl)) (xin_in q28) (xd dk_D_declared 39 rfl) ?_
        cases hf
      rw [if_neg q27] at hf
      by_cases q29 : p2 = 4
      case pos =>
        rw [if_pos q29] at hf
        refine x_tableIn hc (off := 75) (tgt := 106) (xd dk_D_declared 16 rfl) (by rw [q29]; decide) (by rw [q29]; decide) (by rw [q29]; rfl) rfl ?_
        refine x_aload_n hc (xd dk_D_declared 41 rfl) rfl rfl ?_
        refine x_getN hc (ci := 5) (k := 6) fi_H (c_H (hb.rd hz14) _) rfl (by decide) rfl xn149 rfl (xd dk_D_declared 42 rfl) ?_
        refine x_iload_n hc (xd dk_D_declared 43 rfl) rfl rfl ?_
        by_cases q30 : xin p1 60 = true
        case neg => rw [if_neg q30] at hf; cases hf
        rw [if_pos q30] at hf
        refine x_iald hc (cA (xRd.ar (hb.rd hz14) 19 (by decide) rfl)) (xin_in q30) (xd dk_D_declared 44 rfl) ?_
        cases hf
      rw [if_neg q29] at hf
      by_cases q31 : p2 = 5
      case pos =>
        rw [if_pos q31] at hf
        refine x_tableIn hc (off := 82) (tgt := 113) (xd dk_D_declared 16 rfl) (by rw [q31]; decide) (by rw [q31]; decide) (by rw [q31]; rfl) rfl ?_
        refine x_aload_n hc (xd dk_D_declared 46 rfl) rfl rfl ?_
        refine x_get hc (ci := 0) (k := 2) fi_D (c_D hb _) rfl (by decide) rfl xw690 rfl (xd dk_D_declared 47 rfl) ?_
        obtain ⟨z32, ez32, hz32, hf⟩ := xsrc_some hf
        rw [← ez32]
        refine x_getN hc (ci := 9) (k := 2) fi_R (c_R (hb.rd hz32) _) rfl (by decide) rfl xn263 rfl (xd dk_D_declared 48 rfl) ?_
        refine x_aload_n hc (xd dk_D_declared 49 rfl) rfl rfl ?_
        refine x_getN hc (ci := 5) (k := 3) fi_H (c_H (hb.rd hz14) _) rfl (by decide) rfl xn140 rfl (xd dk_D_declared 50 rfl) ?_
        refine x_iload_n hc (xd dk_D_declared 51 rfl) rfl rfl ?_
        by_cases q33 : xin p1 60 = true
        case neg => rw [if_neg q33] at hf; cases hf
        rw [if_pos q33] at hf
        refine x_iald hc (cA (xRd.ar (hb.rd hz14) 16 (by decide) rfl)) (xin_in q33) (xd dk_D_declared 52 rfl) ?_
        obtain ⟨x34, hx34, hf⟩ := xval_ex hf
        rw [← hx34]
        obtain ⟨r35, M, e36, hf⟩ := xbind_some hf
        refine x_callV hc (As := [.int x34]) (n := 1) (s_S_levelOf (hb.rd hz32) e36) (c_S (hb.rd hz32) _) rfl (hR.call (by decide) (by decide)) ⟨by decide, by decide, by decide⟩ rfl rfl xw652 xw5 xw1010 xw650 xw651 (Nat.le_of_ble_eq_true rfl) ⟨Nat.zero_le _, Nat.zero_le _⟩ (xd dk_D_declared 53 rfl) ?_
        cases hf
      rw [if_neg q31] at hf
      refine x_tableOut hc (tgt := 130) (xd dk_D_declared 16 rfl) (by have q17n := xne (v := 0) q17 (by decide); have q23n := xne (v := 1) q23 (by decide); have q25n := xne (v := 2) q25 (by decide); have q27n := xne (v := 3) q27 (by decide); have q29n := xne (v := 4) q29 (by decide); have q31n := xne (v := 5) q31 (by decide); omega) rfl ?_
      cases hf
      exact x_throw hc hT hl htab (im := 211) (tx := xMs 211) xOwn_IA (by decide) xt816 xt817 xt22 (by decide +kernel) ⟨Nat.le_trans (by decide) hR.1, Nat.le_trans (by decide) hR.2⟩ hC (xd dk_D_declared 55 rfl) (xd dk_D_declared 56 rfl) (xd dk_D_declared 57 rfl) (xd dk_D_declared 58 rfl) (xd dk_D_declared 59 rfl)
    · rw [if_neg q16] at hf
      exact t_D_declared_20 hc hR hT hl htab hC hb z14 M hf
set_option maxRecDepth 100000 in
set_option maxHeartbeats 400000 in
theorem t_D_write_17 {p : Program} {l : Launch} {e : Env} {R : Room} {s : State} {m : MethodId} {args : Array Value} {below : List Frame} {meth : Method} {c : Code} {G : xG} {Y : xY} {sz : Nat} {b : Nat} {p1 : Int64}  (hc : xC p s m args meth c G 5 c_D_write y_D_write.cls (some .int)) (hR : xRm R 6) (hT : xT G s) (hl : xNT l) (htab : c.exceptionTable.isEmpty = true) (hC : 1 ≤ R.cells ∧ 6 ≤ R.slots) (hb : xDk Y b) {M' : xMem} {er : Nat} (v3 : Int32) (M : xMem) (hf : f_D_write_17 b p1 v3 M = some (.inr er, M')) : xW p l e R s m args below meth c G 5 (XQ below G (xEn er) (xo G Y M') (sz + 1) 1 6 args s) (xo G Y M) sz 0 0 17 [some (.ref b), some (.long (p1)), none, some (.int v3), none] [] := by
  unfold f_D_write_17 at hf
  cases hf
  exact x_throw hc hT hl htab (im := 54) (tx := xMs 54) xOwn_IA (by decide) xt816 xt817 xt22 (by decide +kernel) ⟨Nat.le_trans (by decide) hR.1, Nat.le_trans (by decide) hR.2⟩ hC (xd dk_D_write 9 rfl) (xd dk_D_write 10 rfl) (xd dk_D_write 11 rfl) (xd dk_D_write 12 rfl) (xd dk_D_write 13 rfl)
set_option maxRecDepth 100000 in
set_option maxHeartbeats 400000 in
theorem t_D_write_55 {p : Program} {l : Launch} {e : Env} {R : Room} {s : State} {m : MethodId} {args : Array Value} {below : List Frame} {meth : Method} {c : Code} {G : xG} {Y : xY} {sz : Nat} {b : Nat} {p1 : Int64}  (hc : xC p s m args meth c G 5 c_D_write y_D_write.cls (some .int)) (hR : xRm R 6) (hT : xT G s) (hl : xNT l) (htab : c.exceptionTable.isEmpty = true) (hC : 1 ≤ R.cells ∧ 6 ≤ R.slots) (hb : xDk Y b) {M' : xMem} {er : Nat} : ∀ (n : Nat) (v3 : Int32) (v4 : Int32) (M : xMem), f_D_write_55 b p1 n v3 v4 M = some (.inr er, M') → xW p l e R s m args below meth c G 5 (XQ below G (xEn er) (xo G Y M') (sz + 1) 1 6 args s) (xo G Y M) sz 0 0 55 [some (.ref b), some (.long (p1)), none, some (.int v3), some (.int v4)] [] := by
  intro n
  induction n with
  | zero => intro v3 v4 M hf; simp only [f_D_write_55] at hf; cases hf
  | succ n ih =>
    intro v3 v4 M hf
    simp only [f_D_write_55] at hf
    refine x_iload hc (xd dk_D_write 28 rfl) rfl ?_
    refine x_iload_n hc (xd dk_D_write 29 rfl) rfl rfl ?_
    refine x_icmp_ge hc (tgt := 81) (xd dk_D_write 30 rfl) rfl (fun q9 => ?_) (fun q9 => ?_)
    · rw [if_pos q9] at hf
      refine x_aload_n hc (xd dk_D_write 40 rfl) rfl rfl ?_
      refine x_get hc (ci := 0) (k := 0) fi_D (c_D hb _) rfl (by decide) rfl xw688 rfl (xd dk_D_write 41 rfl) ?_
      refine x_getN hc (ci := 1) (k := 1) fi_L (c_L hb.w _) rfl (by decide) rfl xn42 rfl (xd dk_D_write 42 rfl) ?_
      cases hf
    · rw [if_neg q9] at hf
      refine x_aload_n hc (xd dk_D_write 31 rfl) rfl rfl ?_
      refine x_get hc (ci := 0) (k := 0) fi_D (c_D hb _) rfl (by decide) rfl xw688 rfl (xd dk_D_write 32 rfl) ?_
      refine x_lload_n hc (xd dk_D_write 33 rfl) rfl rfl ?_
      refine x_iload hc (xd dk_D_write 34 rfl) rfl ?_
      obtain ⟨r10, M, e11, hf⟩ := xbind_some hf
      refine x_callS hc (As := [.long (p1), .int v4]) (n := 2) (s_D_octet e11) (hR.call (by decide) (by decide)) ⟨by decide, by decide, by decide⟩ rfl rfl xw812 xw1 xw810 xw811 (Nat.le_of_ble_eq_true rfl) ⟨Nat.zero_le _, Nat.zero_le _⟩ (xd dk_D_write 35 rfl) ?_
      refine x_i2c hc (xd dk_D_write 36 rfl) rfl ?_
      obtain ⟨r12, M, e13, hf⟩ := xbind_some hf
      refine x_callV hc (As := [.int ((r10.toUInt32 % 65536).toInt32)]) (n := 1) (s_L_add hb.w e13) (c_L hb.w _) rfl (hR.call (by decide) (by decide)) ⟨by decide, by decide, by decide⟩ rfl rfl xw788 xw2 xw899 xw786 xw787 (Nat.le_of_ble_eq_true rfl) ⟨Nat.zero_le _, Nat.zero_le _⟩ (xd dk_D_write 37 rfl) ?_
      refine x_iinc hc (xd dk_D_write 38 rfl) rfl (by decide) rfl ?_
      refine x_goto hc (tgt := 55) (xd dk_D_write 39 rfl) rfl ?_
      exact ih v3 (v4 + Int32.ofInt 1) M hf
set_option maxRecDepth 100000 in
set_option maxHeartbeats 400000 in
theorem t_D_write {l : Launch} {G : xG} {Y : xY} {sz : Nat} {b : Nat} {p1 : Int64}  (hb : xDk Y b) (hl : xNT l) {M M' : xMem} {er : Nat} (hf : f_D_write b p1 M = some (.inr er, M')) : xX l G y_D_write c_D_write 5 (some .int) 6 1 6 [.ref b, .long (p1)] (xo G Y M) sz (xEn er) (xo G Y M') (sz + 1) := by
  unfold f_D_write at hf
  refine xX.of (k := 2) (L0 := [some (.ref b), some (.long (p1)), none, none, none]) (by decide) (Nat.le_of_ble_eq_true rfl) rfl ?_
  intro p e s m args below meth c hc hT htab
  have hR : xRm { frames := 6, cells := 1, slots := 6, locals := 48 * 6 } 6 := ⟨Nat.le_refl _, Nat.le_refl _⟩
  have hC : 1 ≤ ({ frames := 6, cells := 1, slots := 6, locals := 48 * 6 } : Room).cells ∧ 6 ≤ ({ frames := 6, cells := 1, slots := 6, locals := 48 * 6 } : Room).slots := ⟨Nat.le_refl _, Nat.le_refl _⟩
  refine x_lload_n hc (xd dk_D_write 0 rfl) rfl rfl ?_
  obtain ⟨r14, M, e15, hf⟩ := xbind_some hf
  refine x_callS hc (As := [.long (p1)]) (n := 1) (s_D_octetsIn e15) (hR.call (by decide) (by decide)) ⟨by decide, by decide, by decide⟩ rfl rfl xw809 xw1 xw807 xw808 (Nat.le_of_ble_eq_true rfl) ⟨Nat.zero_le _, Nat.zero_le _⟩ (xd dk_D_write 1 rfl) ?_
  refine x_istore_n hc (xd dk_D_write 2 rfl) (by decide) rfl ?_
  refine x_iload_n hc (xd dk_D_write 3 rfl) rfl rfl ?_
  refine x_if_eq hc (tgt := 17) (xd dk_D_write 4 rfl) rfl (fun q16 => ?_) (fun q16 => ?_)
  · rw [if_pos q16] at hf
    exact t_D_write_17 hc hR hT hl htab hC hb r14 M hf
  · rw [if_neg q16] at hf
    refine x_lload_n hc (xd dk_D_write 5 rfl) rfl rfl ?_
    refine x_iload_n hc (xd dk_D_write 6 rfl) rfl rfl ?_
    obtain ⟨r17, M, e18, hf⟩ := xbind_some hf
    refine x_callS hc (As := [.long (p1), .int r14]) (n := 2) (s_D_areLetters e18) (hR.call (by decide) (by decide)) ⟨by decide, by decide, by decide⟩ rfl rfl xw815 xw1 xw813 xw814 (Nat.le_of_ble_eq_true rfl) ⟨Nat.zero_le _, Nat.zero_le _⟩ (xd dk_D_write 7 rfl) ?_
    refine x_if_ne hc (tgt := 27) (xd dk_D_write 8 rfl) rfl (fun q19 => ?_) (fun q19 => ?_)
    · rw [if_neg q19] at hf
      refine x_aload_n hc (xd dk_D_write 14 rfl) rfl rfl ?_
      refine x_get hc (ci := 0) (k := 0) fi_D (c_D hb _) rfl (by decide) rfl xw688 rfl (xd dk_D_write 15 rfl) ?_
      refine x_getN hc (ci := 1) (k := 1) fi_L (c_L hb.w _) rfl (by decide) rfl xn42 rfl (xd dk_D_write 16 rfl) ?_
      refine x_iload_n hc (xd dk_D_write 17 rfl) rfl rfl ?_
      refine x_iadd hc (xd dk_D_write 18 rfl) ?_
      refine x_sipush hc (v := 160) (xd dk_D_write 19 rfl) (by decide) ?_
      refine x_icmp_le hc (tgt := 52) (xd dk_D_write 20 rfl) rfl (fun q20 => ?_) (fun q20 => ?_)
      · rw [if_pos q20] at hf
        refine x_iconst hc (v := 0) (xd dk_D_write 26 rfl) (by decide) ?_
        refine x_istore hc (xd dk_D_write 27 rfl) (by decide) rfl ?_
        exact t_D_write_55 hc hR hT hl htab hC hb xFuel r14 0 M hf
      · rw [if_neg q20] at hf
        cases hf
        exact x_throw hc hT hl htab (im := 64) (tx := xMs 64) xOwn_IX (by decide) xt883 xt884 xt23 (by decide +kernel) ⟨Nat.le_trans (by decide) hR.1, Nat.le_trans (by decide) hR.2⟩ hC (xd dk_D_write 21 rfl) (xd dk_D_write 22 rfl) (xd dk_D_write 23 rfl) (xd dk_D_write 24 rfl) (xd dk_D_write 25 rfl)
    · rw [if_pos q19] at hf
      exact t_D_write_17 hc hR hT hl htab hC hb r14 M hf
set_option maxRecDepth 100000 in
set_option maxHeartbeats 400000 in
theorem t_D_read {l : Launch} {G : xG} {Y : xY} {sz : Nat} {b : Nat}  (hb : xDk Y b) (hl : xNT l) {M M' : xMem} {er : Nat} (hf : f_D_read b M = some (.inr er, M')) : xX l G y_D_read c_D_read 1 (some .int) 161 1 6 [.ref b] (xo G Y M) sz (xEn er) (xo G Y M') (sz + 1) := by
  unfold f_D_read at hf
  refine xX.of (k := 0) (L0 := [some (.ref b)]) (by decide) (Nat.le_of_ble_eq_true rfl) rfl ?_
  intro p e s m args below meth c hc hT htab
  have hR : xRm { frames := 161, cells := 1, slots := 6, locals := 48 * 161 } 161 := ⟨Nat.le_refl _, Nat.le_refl _⟩
  have hC : 1 ≤ ({ frames := 161, cells := 1, slots := 6, locals := 48 * 161 } : Room).cells ∧ 6 ≤ ({ frames := 161, cells := 1, slots := 6, locals := 48 * 161 } : Room).slots := ⟨Nat.le_refl _, Nat.le_refl _⟩
  refine x_aload_n hc (xd dk_D_read 0 rfl) rfl rfl ?_
  refine x_get hc (ci := 0) (k := 3) fi_D (c_D hb _) rfl (by decide) rfl xw691 rfl (xd dk_D_read 1 rfl) ?_
  obtain ⟨z17, ez17, hz17, hf⟩ := xsrc_some hf
  rw [← ez17]
  refine x_getN hc (ci := 9) (k := 0) fi_R (c_R (hb.rd hz17) _) rfl (by decide) rfl xn258 rfl (xd dk_D_read 2 rfl) ?_
  obtain ⟨r18, M, e19, hf⟩ := xbind_some hf
  refine x_callV hc (As := []) (n := 0) (s_L_clear ((hb.rd hz17).L) e19) (c_L (hb.rd hz17).L _) rfl (hR.call (by decide) (by decide)) ⟨by decide, by decide, by decide⟩ rfl rfl xw780 xw2 xw777 xw778 xw779 (Nat.le_of_ble_eq_true rfl) ⟨Nat.zero_le _, Nat.zero_le _⟩ (xd dk_D_read 3 rfl) ?_
  refine x_aload_n hc (xd dk_D_read 4 rfl) rfl rfl ?_
  refine x_get hc (ci := 0) (k := 3) fi_D (c_D hb _) rfl (by decide) rfl xw691 rfl (xd dk_D_read 5 rfl) ?_
  obtain ⟨z20, ez20, hz20, hf⟩ := xsrc_some hf
  rw [← ez20]
  refine x_getN hc (ci := 9) (k := 0) fi_R (c_R (hb.rd hz20) _) rfl (by decide) rfl xn258 rfl (xd dk_D_read 6 rfl) ?_
  refine x_aload_n hc (xd dk_D_read 7 rfl) rfl rfl ?_
  refine x_get hc (ci := 0) (k := 0) fi_D (c_D hb _) rfl (by decide) rfl xw688 rfl (xd dk_D_read 8 rfl) ?_
  refine x_iconst hc (v := 0) (xd dk_D_read 9 rfl) (by decide) ?_
  refine x_aload_n hc (xd dk_D_read 10 rfl) rfl rfl ?_
  refine x_get hc (ci := 0) (k := 0) fi_D (c_D hb _) rfl (by decide) rfl xw688 rfl (xd dk_D_read 11 rfl) ?_
  refine x_getN hc (ci := 1) (k := 1) fi_L (c_L hb.w _) rfl (by decide) rfl xn42 rfl (xd dk_D_read 12 rfl) ?_
  obtain ⟨x21, hx21, hf⟩ := xval_ex hf
  rw [← hx21]
  obtain ⟨r22, M, e23, hf⟩ := xbind_some hf
  refine x_callV hc (As := [.ref (b + 1), .int 0, .int x21]) (n := 3) (s_L_addPart ((hb.rd hz20).L) hb.w e23) (c_L (hb.rd hz20).L _) rfl (hR.call (by decide) (by decide)) ⟨by decide, by decide, by decide⟩ rfl rfl xw784 xw2 xw781 xw782 xw783 (Nat.le_of_ble_eq_true rfl) ⟨Nat.zero_le _, Nat.zero_le _⟩ (xd dk_D_read 13 rfl) ?_
  refine x_aload_n hc (xd dk_D_read 14 rfl) rfl rfl ?_
  refine x_get hc (ci := 0) (k := 0) fi_D (c_D hb _) rfl (by decide) rfl xw688 rfl (xd dk_D_read 15 rfl) ?_
  obtain ⟨r24, M, e25, hf⟩ := xbind_some hf
  refine x_callV hc (As := []) (n := 0) (s_L_clear hb.w e25) (c_L hb.w _) rfl (hR.call (by decide) (by decide)) ⟨by decide, by decide, by decide⟩ rfl rfl xw780 xw2 xw777 xw778 xw779 (Nat.le_of_ble_eq_true rfl) ⟨Nat.zero_le _, Nat.zero_le _⟩ (xd dk_D_read 16 rfl) ?_
  refine x_aload_n hc (xd dk_D_read 17 rfl) rfl rfl ?_
  refine x_aload_n hc (xd dk_D_read 18 rfl) rfl rfl ?_
  refine x_get hc (ci := 0) (k := 3) fi_D (c_D hb _) rfl (by decide) rfl xw691 rfl (xd dk_D_read 19 rfl) ?_
  obtain ⟨z26, ez26, hz26, hf⟩ := xsrc_some hf
  rw [← ez26]
  obtain ⟨r27, M, e28, hf⟩ := xbind_some hf
  refine x_callV hc (As := []) (n := 0) (s_R_study (hb.rd hz26) e28) (c_R (hb.rd hz26) _) rfl (hR.call (by decide) (by decide)) ⟨by decide, by decide, by decide⟩ rfl rfl xw289 xw10 xw286 xw287 xw288 (Nat.le_of_ble_eq_true rfl) ⟨Nat.zero_le _, Nat.zero_le _⟩ (xd dk_D_read 20 rfl) ?_
  refine x_put hc (ci := 0) (k := 4) fi_D ft_D ft_D_ok fn_D (c_D hb _) rfl (by decide) rfl xw692 rfl rfl rfl (Nat.le_of_ble_eq_true rfl) (xd dk_D_read 21 rfl) ?_
  rw [w_D_4 hb]
  replace hf := xlet_some hf
  generalize wI M b 4 r27 = M at hf ⊢
  refine x_aload_n hc (xd dk_D_read 22 rfl) rfl rfl ?_
  refine x_get hc (ci := 0) (k := 4) fi_D (c_D hb _) rfl (by decide) rfl xw692 rfl (xd dk_D_read 23 rfl) ?_
  refine x_if_lt hc (tgt := 67) (xd dk_D_read 24 rfl) rfl (fun q29 => ?_) (fun q29 => ?_)
  · rw [if_pos q29] at hf
    refine x_aload_n hc (xd dk_D_read 30 rfl) rfl rfl ?_
    obtain ⟨r30, M, e31, hf⟩ := xbind_some hf
    refine x_callV hc (As := []) (n := 0) (s_D_takeSpare hb e31) (c_D hb _) rfl (hR.call (by decide) (by decide)) ⟨by decide, by decide, by decide⟩ rfl rfl xw796 xw1 xw793 xw795 xs_D_takeSpare (Nat.le_of_ble_eq_true rfl) ⟨Nat.zero_le _, Nat.zero_le _⟩ (xd dk_D_read 31 rfl) ?_
    refine x_aload_n hc (xd dk_D_read 32 rfl) rfl rfl ?_
    refine x_get hc (ci := 0) (k := 1) fi_D (c_D hb _) rfl (by decide) rfl xw689 rfl (xd dk_D_read 33 rfl) ?_
    refine x_aload_n hc (xd dk_D_read 34 rfl) rfl rfl ?_
    refine x_get hc (ci := 0) (k := 2) fi_D (c_D hb _) rfl (by decide) rfl xw690 rfl (xd dk_D_read 35 rfl) ?_
    obtain ⟨z32, ez32, hz32, hf⟩ := xsrc_some hf
    rw [← ez32]
    obtain ⟨r33, M, e34, hf⟩ := xbind_some hf
    refine x_callV hc (As := [.ref (z32 + 30)]) (n := 1) (s_G_findingsIn hb.g (hb.rd hz32) e34) (c_G hb.g _) rfl (hR.call (by decide) (by decide)) ⟨by decide, by decide, by decide⟩ rfl rfl xw911 xw3 xw908 xw909 xw910 (Nat.le_of_ble_eq_true rfl) ⟨Nat.zero_le _, Nat.zero_le _⟩ (xd dk_D_read 36 rfl) ?_
    cases hf
  · rw [if_neg q29] at hf
    cases hf
    exact x_throw hc hT hl htab (im := 85) (tx := xMs 85) xOwn_IA (by decide) xt816 xt817 xt22 (by decide +kernel) ⟨Nat.le_trans (by decide) hR.1, Nat.le_trans (by decide) hR.2⟩ hC (xd dk_D_read 25 rfl) (xd dk_D_read 26 rfl) (xd dk_D_read 27 rfl) (xd dk_D_read 28 rfl) (xd dk_D_read 29 rfl)
set_option maxRecDepth 100000 in
set_option maxHeartbeats 400000 in
theorem t_D_give_31 {p : Program} {l : Launch} {e : Env} {R : Room} {s : State} {m : MethodId} {args : Array Value} {below : List Frame} {meth : Method} {c : Code} {G : xG} {Y : xY} {sz : Nat} {b : Nat} {p1 : Int64}  (hc : xC p s m args meth c G 6 c_D_give y_D_give.cls (some .int)) (hR : xRm R 6) (hT : xT G s) (hl : xNT l) (htab : c.exceptionTable.isEmpty = true) (hC : 1 ≤ R.cells ∧ 6 ≤ R.slots) (hb : xDk Y b) {M' : xMem} {er : Nat} (v3 : Int32) (v4 : Int64) (M : xMem) (hf : f_D_give_31 b p1 v3 v4 M = some (.inr er, M')) : xW p l e R s m args below meth c G 6 (XQ below G (xEn er) (xo G Y M') (sz + 1) 1 6 args s) (xo G Y M) sz 0 0 31 [some (.ref b), some (.long (p1)), none, some (.int v3), some (.long (v4)), none] [] := by
  unfold f_D_give_31 at hf
  cases hf
  exact x_throw hc hT hl htab (im := 121) (tx := xMs 121) xOwn_IA (by decide) xt816 xt817 xt22 (by decide +kernel) ⟨Nat.le_trans (by decide) hR.1, Nat.le_trans (by decide) hR.2⟩ hC (xd dk_D_give 15 rfl) (xd dk_D_give 16 rfl) (xd dk_D_give 17 rfl) (xd dk_D_give 18 rfl) (xd dk_D_give 19 rfl)
set_option maxRecDepth 100000 in
set_option maxHeartbeats 400000 in
theorem t_D_give {l : Launch} {G : xG} {Y : xY} {sz : Nat} {b : Nat} {p1 : Int64}  (hb : xDk Y b) (hl : xNT l) {M M' : xMem} {er : Nat} (hf : f_D_give b p1 M = some (.inr er, M')) : xX l G y_D_give c_D_give 6 (some .int) 6 1 6 [.ref b, .long (p1)] (xo G Y M) sz (xEn er) (xo G Y M') (sz + 1) := by
  unfold f_D_give at hf
  refine xX.of (k := 3) (L0 := [some (.ref b), some (.long (p1)), none, none, none, none]) (by decide) (Nat.le_of_ble_eq_true rfl) rfl ?_
  intro p e s m args below meth c hc hT htab
  have hR : xRm { frames := 6, cells := 1, slots := 6, locals := 48 * 6 } 6 := ⟨Nat.le_refl _, Nat.le_refl _⟩
  have hC : 1 ≤ ({ frames := 6, cells := 1, slots := 6, locals := 48 * 6 } : Room).cells ∧ 6 ≤ ({ frames := 6, cells := 1, slots := 6, locals := 48 * 6 } : Room).slots := ⟨Nat.le_refl _, Nat.le_refl _⟩
  refine x_lload_n hc (xd dk_D_give 0 rfl) rfl rfl ?_
  obtain ⟨r13, M, e14, hf⟩ := xbind_some hf
  refine x_callS hc (As := [.long (p1)]) (n := 1) (s_D_octetsIn e14) (hR.call (by decide) (by decide)) ⟨by decide, by decide, by decide⟩ rfl rfl xw809 xw1 xw807 xw808 (Nat.le_of_ble_eq_true rfl) ⟨Nat.zero_le _, Nat.zero_le _⟩ (xd dk_D_give 1 rfl) ?_
  refine x_istore_n hc (xd dk_D_give 2 rfl) (by decide) rfl ?_
  refine x_lload_n hc (xd dk_D_give 3 rfl) rfl rfl ?_
  refine x_iload_n hc (xd dk_D_give 4 rfl) rfl rfl ?_
  obtain ⟨r15, M, e16, hf⟩ := xbind_some hf
  refine x_callS hc (As := [.long (p1), .int r13]) (n := 2) (s_D_firstOctets e16) (hR.call (by decide) (by decide)) ⟨by decide, by decide, by decide⟩ rfl rfl xw944 xw1 xw942 xw943 (Nat.le_of_ble_eq_true rfl) ⟨Nat.zero_le _, Nat.zero_le _⟩ (xd dk_D_give 5 rfl) ?_
  refine x_lstore hc (xd dk_D_give 6 rfl) (by decide) rfl ?_
  refine x_lload_n hc (xd dk_D_give 7 rfl) rfl rfl ?_
  refine x_iload_n hc (xd dk_D_give 8 rfl) rfl rfl ?_
  obtain ⟨r17, M, e18, hf⟩ := xbind_some hf
  refine x_callS hc (As := [.long (p1), .int r13]) (n := 2) (s_D_isWord e18) (hR.call (by decide) (by decide)) ⟨by decide, by decide, by decide⟩ rfl rfl xw947 xw1 xw945 xw946 (Nat.le_of_ble_eq_true rfl) ⟨Nat.zero_le _, Nat.zero_le _⟩ (xd dk_D_give 9 rfl) ?_
  refine x_if_eq hc (tgt := 31) (xd dk_D_give 10 rfl) rfl (fun q19 => ?_) (fun q19 => ?_)
  · rw [if_pos q19] at hf
    exact t_D_give_31 hc hR hT hl htab hC hb r13 r15 M hf
  · rw [if_neg q19] at hf
    refine x_lload hc (xd dk_D_give 11 rfl) rfl ?_
    obtain ⟨r20, M, e21, hf⟩ := xbind_some hf
    refine x_callS hc (As := [.long (r15)]) (n := 1) (s_D_keywordOf e21) (hR.call (by decide) (by decide)) ⟨by decide, by decide, by decide⟩ rfl rfl xw333 xw1 xw950 xw332 (Nat.le_of_ble_eq_true rfl) ⟨Nat.zero_le _, Nat.zero_le _⟩ (xd dk_D_give 12 rfl) ?_
    by_cases htr20 : r20 < 28
    case neg => rw [if_neg htr20] at hf; cases hf
    rw [if_pos htr20] at hf
    refine x_getsK hc 23 (by decide) xw336 (xd dk_D_give 13 rfl) ?_
    refine x_tok_eq hc htr20 (by decide) (tgt := 41) (xd dk_D_give 14 rfl) rfl (fun q22 => ?_) (fun q22 => ?_)
    · rw [if_pos q22] at hf
      refine x_aload_n hc (xd dk_D_give 20 rfl) rfl rfl ?_
      refine x_get hc (ci := 0) (k := 1) fi_D (c_D hb _) rfl (by decide) rfl xw689 rfl (xd dk_D_give 21 rfl) ?_
      refine x_lload hc (xd dk_D_give 22 rfl) rfl ?_
      obtain ⟨r23, M, e24, hf⟩ := xbind_some hf
      refine x_callV hc (As := [.long (r15)]) (n := 1) (s_G_isGiven hb.g e24) (c_G hb.g _) rfl (hR.call (by decide) (by decide)) ⟨by decide, by decide, by decide⟩ rfl rfl xw742 xw3 xw952 xw740 xw741 (Nat.le_of_ble_eq_true rfl) ⟨Nat.zero_le _, Nat.zero_le _⟩ (xd dk_D_give 23 rfl) ?_
      refine x_if_eq hc (tgt := 63) (xd dk_D_give 24 rfl) rfl (fun q25 => ?_) (fun q25 => ?_)
      · rw [if_pos q25] at hf
        refine x_aload_n hc (xd dk_D_give 30 rfl) rfl rfl ?_
        refine x_get hc (ci := 0) (k := 1) fi_D (c_D hb _) rfl (by decide) rfl xw689 rfl (xd dk_D_give 31 rfl) ?_
        refine x_getN hc (ci := 2) (k := 1) fi_G (c_G hb.g _) rfl (by decide) rfl xn58 rfl (xd dk_D_give 32 rfl) ?_
        refine x_bipush hc (v := 8) (xd dk_D_give 33 rfl) (by decide) ?_
        refine x_icmp_lt hc (tgt := 85) (xd dk_D_give 34 rfl) rfl (fun q26 => ?_) (fun q26 => ?_)
        · rw [if_pos q26] at hf
          refine x_aload_n hc (xd dk_D_give 40 rfl) rfl rfl ?_
          refine x_get hc (ci := 0) (k := 1) fi_D (c_D hb _) rfl (by decide) rfl xw689 rfl (xd dk_D_give 41 rfl) ?_
          refine x_lload hc (xd dk_D_give 42 rfl) rfl ?_
          obtain ⟨r27, M, e28, hf⟩ := xbind_some hf
          refine x_callV hc (As := [.long (r15)]) (n := 1) (s_G_addGiven hb.g e28) (c_G hb.g _) rfl (hR.call (by decide) (by decide)) ⟨by decide, by decide, by decide⟩ rfl rfl xw973 xw3 xw970 xw971 xw972 (Nat.le_of_ble_eq_true rfl) ⟨Nat.zero_le _, Nat.zero_le _⟩ (xd dk_D_give 43 rfl) ?_
          refine x_aload_n hc (xd dk_D_give 44 rfl) rfl rfl ?_
          refine x_get hc (ci := 0) (k := 1) fi_D (c_D hb _) rfl (by decide) rfl xw689 rfl (xd dk_D_give 45 rfl) ?_
          refine x_getN hc (ci := 2) (k := 1) fi_G (c_G hb.g _) rfl (by decide) rfl xn58 rfl (xd dk_D_give 46 rfl) ?_
          cases hf
        · rw [if_neg q26] at hf
          cases hf
          exact x_throw hc hT hl htab (im := 135) (tx := xMs 135) xOwn_IX (by decide) xt883 xt884 xt23 (by decide +kernel) ⟨Nat.le_trans (by decide) hR.1, Nat.le_trans (by decide) hR.2⟩ hC (xd dk_D_give 35 rfl) (xd dk_D_give 36 rfl) (xd dk_D_give 37 rfl) (xd dk_D_give 38 rfl) (xd dk_D_give 39 rfl)
      · rw [if_neg q25] at hf
        cases hf
        exact x_throw hc hT hl htab (im := 129) (tx := xMs 129) xOwn_IS (by decide) xt953 xt954 xt25 (by decide +kernel) ⟨Nat.le_trans (by decide) hR.1, Nat.le_trans (by decide) hR.2⟩ hC (xd dk_D_give 25 rfl) (xd dk_D_give 26 rfl) (xd dk_D_give 27 rfl) (xd dk_D_give 28 rfl) (xd dk_D_give 29 rfl)
    · rw [if_neg q22] at hf
      exact t_D_give_31 hc hR hT hl htab hC hb r13 r15 M hf
