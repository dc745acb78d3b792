/-! the class, second part (printed by gen/gen.py) -/
def f_T_put (b : Nat) (p1 : Nat) (p2 : Int32) (p3 : Int32) (M : xMem) : Option (Unit × xMem) :=
  if p1 < 28 then (if 60 < M.1 (b + 2) 6 then (some ((), M)) else (xval (M.1 (b + 2) 6) fun x7 => if xin x7 61 = true then xlet (wT M (b + 3) x7.toNatClampNeg p1) fun M => xval (M.1 (b + 2) 6) fun x9 => if xin x9 61 = true then xlet (wI M (b + 4) x9.toNatClampNeg p2) fun M => xval (M.1 (b + 2) 6) fun x11 => if xin x11 61 = true then xlet (wI M (b + 5) x11.toNatClampNeg p3) fun M => xval (M.1 (b + 2) 6) fun x13 => if xin x13 61 = true then xlet (wJ M (b + 6) x13.toNatClampNeg 0) fun M => xval (M.1 (b + 2) 6) fun x15 => if xin x15 61 = true then xlet (wI M (b + 7) x15.toNatClampNeg x15) fun M => some ((), M) else none else none else none else none else none)) else none
set_option maxRecDepth 100000 in
set_option maxHeartbeats 400000 in
theorem s_T_put {l : Launch} {G : xG} {Y : xY} {sz : Nat} {b : Nat} {p1 : Nat} {p2 : Int32} {p3 : Int32}  (hb : xRd Y b) {M M' : xMem} {r : Unit} (hf : f_T_put b p1 p2 p3 M = some (r, M')) : xM l G y_T_put c_T_put 4 none 0 0 0 [.ref (b + 2), .ref (gE G p1), .int p2, .int p3] (xo G Y M) sz none (xo G Y M') sz := by
  unfold f_T_put at hf
  by_cases htp1 : p1 < 28
  case neg => rw [if_neg htp1] at hf; cases hf
  rw [if_pos htp1] at hf
  refine xM.of (k := 0) (L0 := [some (.ref (b + 2)), some (.ref (gE G p1)), some (.int p2), some (.int p3)]) (by decide) (Nat.le_of_ble_eq_true rfl) rfl ?_
  intro p e s m args below meth c hc hnm
  have hR : xRm { frames := 0, cells := 0, slots := 0, locals := 48 * 0 } 0 := ⟨Nat.le_refl _, Nat.le_refl _⟩
  refine x_aload_n hc (xd dk_T_put 0 rfl) rfl rfl ?_
  refine x_get hc (ci := 3) (k := 6) fi_T (c_T hb _) rfl (by decide) rfl xw85 rfl (xd dk_T_put 1 rfl) ?_
  refine x_bipush hc (v := 60) (xd dk_T_put 2 rfl) (by decide) ?_
  refine x_icmp_gt hc (tgt := 62) (xd dk_T_put 3 rfl) rfl (fun q6 => ?_) (fun q6 => ?_)
  · rw [if_pos q6] at hf
    cases hf
    exact x_return hc (xd dk_T_put 35 rfl)
  · rw [if_neg q6] at hf
    refine x_aload_n hc (xd dk_T_put 4 rfl) rfl rfl ?_
    refine x_get hc (ci := 3) (k := 1) fi_T (c_T hb _) rfl (by decide) rfl xw80 rfl (xd dk_T_put 5 rfl) ?_
    refine x_aload_n hc (xd dk_T_put 6 rfl) rfl rfl ?_
    refine x_get hc (ci := 3) (k := 6) fi_T (c_T hb _) rfl (by decide) rfl xw85 rfl (xd dk_T_put 7 rfl) ?_
    refine x_aload_n hc (xd dk_T_put 8 rfl) rfl rfl ?_
    obtain ⟨x7, hx7, hf⟩ := xval_ex hf
    rw [← hx7]
    by_cases q8 : xin x7 61 = true
    case neg => rw [if_neg q8] at hf; cases hf
    rw [if_pos q8] at hf
    refine x_kast hc (hb.k 3 (by decide)) htp1 (xin_in q8) (xd dk_T_put 9 rfl) ?_
    replace hf := xlet_some hf
    generalize wT M (b + 3) x7.toNatClampNeg p1 = M at hf ⊢
    refine x_aload_n hc (xd dk_T_put 10 rfl) rfl rfl ?_
    refine x_get hc (ci := 3) (k := 2) fi_T (c_T hb _) rfl (by decide) rfl xw81 rfl (xd dk_T_put 11 rfl) ?_
    refine x_aload_n hc (xd dk_T_put 12 rfl) rfl rfl ?_
    refine x_get hc (ci := 3) (k := 6) fi_T (c_T hb _) rfl (by decide) rfl xw85 rfl (xd dk_T_put 13 rfl) ?_
    refine x_iload_n hc (xd dk_T_put 14 rfl) rfl rfl ?_
    obtain ⟨x9, hx9, hf⟩ := xval_ex hf
    rw [← hx9]
    by_cases q10 : xin x9 61 = true
    case neg => rw [if_neg q10] at hf; cases hf
    rw [if_pos q10] at hf
    refine x_iast hc (cA (xRd.ar hb 4 (by decide) rfl)) (xin_in q10) (xd dk_T_put 15 rfl) ?_
    rw [wA (xRd.ar hb 4 (by decide) rfl)]
    replace hf := xlet_some hf
    generalize wI M (b + 4) x9.toNatClampNeg p2 = M at hf ⊢
    refine x_aload_n hc (xd dk_T_put 16 rfl) rfl rfl ?_
    refine x_get hc (ci := 3) (k := 3) fi_T (c_T hb _) rfl (by decide) rfl xw82 rfl (xd dk_T_put 17 rfl) ?_
    refine x_aload_n hc (xd dk_T_put 18 rfl) rfl rfl ?_
    refine x_get hc (ci := 3) (k := 6) fi_T (c_T hb _) rfl (by decide) rfl xw85 rfl (xd dk_T_put 19 rfl) ?_
    refine x_iload_n hc (xd dk_T_put 20 rfl) rfl rfl ?_
    obtain ⟨x11, hx11, hf⟩ := xval_ex hf
    rw [← hx11]
    by_cases q12 : xin x11 61 = true
    case neg => rw [if_neg q12] at hf; cases hf
    rw [if_pos q12] at hf
    refine x_iast hc (cA (xRd.ar hb 5 (by decide) rfl)) (xin_in q12) (xd dk_T_put 21 rfl) ?_
    rw [wA (xRd.ar hb 5 (by decide) rfl)]
    replace hf := xlet_some hf
    generalize wI M (b + 5) x11.toNatClampNeg p3 = M at hf ⊢
    refine x_aload_n hc (xd dk_T_put 22 rfl) rfl rfl ?_
    refine x_get hc (ci := 3) (k := 4) fi_T (c_T hb _) rfl (by decide) rfl xw83 rfl (xd dk_T_put 23 rfl) ?_
    refine x_aload_n hc (xd dk_T_put 24 rfl) rfl rfl ?_
    refine x_get hc (ci := 3) (k := 6) fi_T (c_T hb _) rfl (by decide) rfl xw85 rfl (xd dk_T_put 25 rfl) ?_
    refine x_lconst hc (v := 0) (xd dk_T_put 26 rfl) (by decide) ?_
    obtain ⟨x13, hx13, hf⟩ := xval_ex hf
    rw [← hx13]
    by_cases q14 : xin x13 61 = true
    case neg => rw [if_neg q14] at hf; cases hf
    rw [if_pos q14] at hf
    refine x_last hc (cJ (xRd.al hb 6 (by decide) rfl rfl).1 (xRd.al hb 6 (by decide) rfl rfl).2) (xin_in q14) (xd dk_T_put 27 rfl) ?_
    rw [wAJ (xRd.al hb 6 (by decide) rfl rfl).1 (xRd.al hb 6 (by decide) rfl rfl).2]
    replace hf := xlet_some hf
    generalize wJ M (b + 6) x13.toNatClampNeg 0 = M at hf ⊢
    refine x_aload_n hc (xd dk_T_put 28 rfl) rfl rfl ?_
    refine x_get hc (ci := 3) (k := 5) fi_T (c_T hb _) rfl (by decide) rfl xw84 rfl (xd dk_T_put 29 rfl) ?_
    refine x_aload_n hc (xd dk_T_put 30 rfl) rfl rfl ?_
    refine x_get hc (ci := 3) (k := 6) fi_T (c_T hb _) rfl (by decide) rfl xw85 rfl (xd dk_T_put 31 rfl) ?_
    refine x_aload_n hc (xd dk_T_put 32 rfl) rfl rfl ?_
    refine x_get hc (ci := 3) (k := 6) fi_T (c_T hb _) rfl (by decide) rfl xw85 rfl (xd dk_T_put 33 rfl) ?_
    obtain ⟨x15, hx15, hf⟩ := xval_ex hf
    rw [← hx15]
    by_cases q16 : xin x15 61 = true
    case neg => rw [if_neg q16] at hf; cases hf
    rw [if_pos q16] at hf
    refine x_iast hc (cA (xRd.ar hb 7 (by decide) rfl)) (xin_in q16) (xd dk_T_put 34 rfl) ?_
    rw [wA (xRd.ar hb 7 (by decide) rfl)]
    replace hf := xlet_some hf
    generalize wI M (b + 7) x15.toNatClampNeg x15 = M at hf ⊢
    cases hf
    exact x_return hc (xd dk_T_put 35 rfl)
def f_D_keywordOf_40 (p0 : Int64) (k2 : Int32 → xMem → Option (Nat × xMem)) (v2 : Int32) (M : xMem) : Option (Nat × xMem) :=
  (k2 (v2 + Int32.ofInt 1) M)
def f_D_keywordOf_2 (p0 : Int64) : Nat → Int32 → xMem → Option (Nat × xMem)
  | 0, _, _ => none
  | n + 1, v2, M =>
    (if 28 ≤ v2 then (some (23, M)) else (if xin v2 28 = true then xval (v2.toNatClampNeg) fun o8 => if o8 < 28 then if xTokKw.getD o8 0 = 0 then (f_D_keywordOf_40 p0 (f_D_keywordOf_2 p0 n) v2 M) else (if xin v2 28 = true then xval (v2.toNatClampNeg) fun o11 => if o11 < 28 then if (lg_cmp (xTokOc.getD o11 0) p0) = 0 then (if xin v2 28 = true then xval (v2.toNatClampNeg) fun o14 => if o14 < 28 then some (o14, M) else none else none) else (f_D_keywordOf_40 p0 (f_D_keywordOf_2 p0 n) v2 M) else none else none) else none else none))
def f_D_keywordOf (p0 : Int64) (M : xMem) : Option (Nat × xMem) :=
  (f_D_keywordOf_2 p0 xFuel 0 M)
set_option maxRecDepth 100000 in
set_option maxHeartbeats 400000 in
theorem s_D_keywordOf_40 {p : Program} {l : Launch} {e : Env} {R : Room} {s : State} {m : MethodId} {args : Array Value} {below : List Frame} {meth : Method} {c : Code} {G : xG} {Y : xY} {sz : Nat} {p0 : Int64}  (hc : xC p s m args meth c G 3 c_D_keywordOf y_D_keywordOf.cls (some (.object "LintDesk$Token"))) (hR : xRm R 0)  {k2 : Int32 → xMem → Option (Nat × xMem)} {M' : xMem} {r : Nat} (hk2 : ∀ (v2 : Int32) (M : xMem), k2 v2 M = some (r, M') → xW p l e R s m args below meth c G 3 (MQ below (xQc G (some (.ref (gE G r))) (xo G Y M') sz) args s 0 0 (xA G)) (xo G Y M) sz 0 0 2 [some (.long (p0)), none, some (.int v2)] []) (v2 : Int32) (M : xMem) (hf : f_D_keywordOf_40 p0 k2 v2 M = some (r, M')) : xW p l e R s m args below meth c G 3 (MQ below (xQc G (some (.ref (gE G r))) (xo G Y M') sz) args s 0 0 (xA G)) (xo G Y M) sz 0 0 40 [some (.long (p0)), none, some (.int v2)] [] := by
  unfold f_D_keywordOf_40 at hf
  refine x_iinc hc (xd dk_D_keywordOf 22 rfl) rfl (by decide) rfl ?_
  refine x_goto hc (tgt := 2) (xd dk_D_keywordOf 23 rfl) rfl ?_
  exact hk2 (v2 + Int32.ofInt 1) M hf
set_option maxRecDepth 100000 in
set_option maxHeartbeats 400000 in
theorem s_D_keywordOf_2 {p : Program} {l : Launch} {e : Env} {R : Room} {s : State} {m : MethodId} {args : Array Value} {below : List Frame} {meth : Method} {c : Code} {G : xG} {Y : xY} {sz : Nat} {p0 : Int64}  (hc : xC p s m args meth c G 3 c_D_keywordOf y_D_keywordOf.cls (some (.object "LintDesk$Token"))) (hR : xRm R 0)  {M' : xMem} {r : Nat} : ∀ (n : Nat) (v2 : Int32) (M : xMem), f_D_keywordOf_2 p0 n v2 M = some (r, M') → xW p l e R s m args below meth c G 3 (MQ below (xQc G (some (.ref (gE G r))) (xo G Y M') sz) args s 0 0 (xA G)) (xo G Y M) sz 0 0 2 [some (.long (p0)), none, some (.int v2)] [] := by
  intro n
  induction n with
  | zero => intro v2 M hf; simp only [f_D_keywordOf_2] at hf; cases hf
  | succ n ih =>
    intro v2 M hf
    simp only [f_D_keywordOf_2] at hf
    refine x_iload_n hc (xd dk_D_keywordOf 2 rfl) rfl rfl ?_
    refine x_getsT hc xw334 (xd dk_D_keywordOf 3 rfl) ?_
    refine x_tlen hc (xd dk_D_keywordOf 4 rfl) ?_
    refine x_icmp_ge hc (tgt := 46) (xd dk_D_keywordOf 5 rfl) rfl (fun q7 => ?_) (fun q7 => ?_)
    · rw [if_pos q7] at hf
      refine x_getsK hc 23 (by decide) xw336 (xd dk_D_keywordOf 24 rfl) ?_
      cases hf
      exact x_areturn hc (xd dk_D_keywordOf 25 rfl)
    · rw [if_neg q7] at hf
      refine x_getsT hc xw334 (xd dk_D_keywordOf 6 rfl) ?_
      refine x_iload_n hc (xd dk_D_keywordOf 7 rfl) rfl rfl ?_
      by_cases q9 : xin v2 28 = true
      case neg => rw [if_neg q9] at hf; cases hf
      rw [if_pos q9] at hf
      refine x_taald hc (xin_in q9) (xd dk_D_keywordOf 8 rfl) ?_
      obtain ⟨o8, ho8, hf⟩ := xval_ex hf
      rw [← ho8]
      by_cases hto8 : o8 < 28
      case neg => rw [if_neg hto8] at hf; cases hf
      rw [if_pos hto8] at hf
      refine x_getON hc ((hc.tk hto8).2.2.2.2.1) xn1436 (xd dk_D_keywordOf 9 rfl) ?_
      refine x_if_eq hc (tgt := 40) (xd dk_D_keywordOf 10 rfl) rfl (fun q10 => ?_) (fun q10 => ?_)
      · rw [if_pos q10] at hf
        exact s_D_keywordOf_40 hc hR ih v2 M hf
      · rw [if_neg q10] at hf
        refine x_getsT hc xw334 (xd dk_D_keywordOf 11 rfl) ?_
        refine x_iload_n hc (xd dk_D_keywordOf 12 rfl) rfl rfl ?_
        by_cases q12 : xin v2 28 = true
        case neg => rw [if_neg q12] at hf; cases hf
        rw [if_pos q12] at hf
        refine x_taald hc (xin_in q12) (xd dk_D_keywordOf 13 rfl) ?_
        obtain ⟨o11, ho11, hf⟩ := xval_ex hf
        rw [← ho11]
        by_cases hto11 : o11 < 28
        case neg => rw [if_neg hto11] at hf; cases hf
        rw [if_pos hto11] at hf
        refine x_getON hc ((hc.tk hto11).2.2.2.2.2.2.1) xn1437 (xd dk_D_keywordOf 14 rfl) ?_
        refine x_lload_n hc (xd dk_D_keywordOf 15 rfl) rfl rfl ?_
        refine x_lcmp hc (xd dk_D_keywordOf 16 rfl) ?_
        refine x_if_ne hc (tgt := 40) (xd dk_D_keywordOf 17 rfl) rfl (fun q13 => ?_) (fun q13 => ?_)
        · rw [if_neg q13] at hf
          exact s_D_keywordOf_40 hc hR ih v2 M hf
        · rw [if_pos q13] at hf
          refine x_getsT hc xw334 (xd dk_D_keywordOf 18 rfl) ?_
          refine x_iload_n hc (xd dk_D_keywordOf 19 rfl) rfl rfl ?_
          by_cases q15 : xin v2 28 = true
          case neg => rw [if_neg q15] at hf; cases hf
          rw [if_pos q15] at hf
          refine x_taald hc (xin_in q15) (xd dk_D_keywordOf 20 rfl) ?_
          obtain ⟨o14, ho14, hf⟩ := xval_ex hf
          rw [← ho14]
          by_cases hto14 : o14 < 28
          case neg => rw [if_neg hto14] at hf; cases hf
          rw [if_pos hto14] at hf
          cases hf
          exact x_areturn hc (xd dk_D_keywordOf 21 rfl)
set_option maxRecDepth 100000 in
set_option maxHeartbeats 400000 in
theorem s_D_keywordOf {l : Launch} {G : xG} {Y : xY} {sz : Nat} {p0 : Int64}   {M M' : xMem} {r : Nat} (hf : f_D_keywordOf p0 M = some (r, M')) : xM l G y_D_keywordOf c_D_keywordOf 3 (some (.object "LintDesk$Token")) 0 0 0 [.long (p0)] (xo G Y M) sz (some (.ref (gE G r))) (xo G Y M') sz := by
  unfold f_D_keywordOf at hf
  refine xM.of (k := 1) (L0 := [some (.long (p0)), none, none]) (by decide) (Nat.le_of_ble_eq_true rfl) rfl ?_
  intro p e s m args below meth c hc hnm
  have hR : xRm { frames := 0, cells := 0, slots := 0, locals := 48 * 0 } 0 := ⟨Nat.le_refl _, Nat.le_refl _⟩
  refine x_iconst hc (v := 0) (xd dk_D_keywordOf 0 rfl) (by decide) ?_
  refine x_istore_n hc (xd dk_D_keywordOf 1 rfl) (by decide) rfl ?_
  exact s_D_keywordOf_2 hc hR xFuel 0 M hf
def f_T_isClosing_14 (p0 : Nat) (M : xMem) : Option (Int32 × xMem) :=
  (if p0 < 28 then some (1, M) else none)
def f_T_isClosing (p0 : Nat) (M : xMem) : Option (Int32 × xMem) :=
  if p0 < 28 then (if p0 = 26 then (f_T_isClosing_14 p0 M) else (if p0 = 27 then (f_T_isClosing_14 p0 M) else (some (0, M)))) else none
set_option maxRecDepth 100000 in
set_option maxHeartbeats 400000 in
theorem s_T_isClosing_14 {p : Program} {l : Launch} {e : Env} {R : Room} {s : State} {m : MethodId} {args : Array Value} {below : List Frame} {meth : Method} {c : Code} {G : xG} {Y : xY} {sz : Nat} {p0 : Nat}  (hc : xC p s m args meth c G 1 c_T_isClosing y_T_isClosing.cls (some .boolean)) (hR : xRm R 0)  {M' : xMem} {r : Int32} (M : xMem) (hf : f_T_isClosing_14 p0 M = some (r, M')) : xW p l e R s m args below meth c G 1 (MQ below (xQc G (some (.int r)) (xo G Y M') sz) args s 0 0 (xA G)) (xo G Y M) sz 0 0 14 [some (.ref (gE G p0))] [] := by
  unfold f_T_isClosing_14 at hf
  by_cases htp0 : p0 < 28
  case neg => rw [if_neg htp0] at hf; cases hf
  rw [if_pos htp0] at hf
  refine x_iconst hc (v := 1) (xd dk_T_isClosing 6 rfl) (by decide) ?_
  refine x_goto hc (tgt := 19) (xd dk_T_isClosing 7 rfl) rfl ?_
  cases hf
  exact x_zreturn hc rfl (xd dk_T_isClosing 9 rfl)
set_option maxRecDepth 100000 in
set_option maxHeartbeats 400000 in
theorem s_T_isClosing {l : Launch} {G : xG} {Y : xY} {sz : Nat} {p0 : Nat}   {M M' : xMem} {r : Int32} (hf : f_T_isClosing p0 M = some (r, M')) : xM l G y_T_isClosing c_T_isClosing 1 (some .boolean) 0 0 0 [.ref (gE G p0)] (xo G Y M) sz (some (.int r)) (xo G Y M') sz := by
  unfold f_T_isClosing at hf
  by_cases htp0 : p0 < 28
  case neg => rw [if_neg htp0] at hf; cases hf
  rw [if_pos htp0] at hf
  refine xM.of (k := 0) (L0 := [some (.ref (gE G p0))]) (by decide) (Nat.le_of_ble_eq_true rfl) rfl ?_
  intro p e s m args below meth c hc hnm
  have hR : xRm { frames := 0, cells := 0, slots := 0, locals := 48 * 0 } 0 := ⟨Nat.le_refl _, Nat.le_refl _⟩
  refine x_aload_n hc (xd dk_T_isClosing 0 rfl) rfl rfl ?_
  refine x_getsK hc 26 (by decide) xw310 (xd dk_T_isClosing 1 rfl) ?_
  refine x_tok_eq hc htp0 (by decide) (tgt := 14) (xd dk_T_isClosing 2 rfl) rfl (fun q2 => ?_) (fun q2 => ?_)
  · rw [if_pos q2] at hf
    exact s_T_isClosing_14 hc hR M hf
  · rw [if_neg q2] at hf
    refine x_aload_n hc (xd dk_T_isClosing 3 rfl) rfl rfl ?_
    refine x_getsK hc 27 (by decide) xw359 (xd dk_T_isClosing 4 rfl) ?_
    refine x_tok_ne hc htp0 (by decide) (tgt := 18) (xd dk_T_isClosing 5 rfl) rfl (fun q3 => ?_) (fun q3 => ?_)
    · rw [if_neg q3] at hf
      refine x_iconst hc (v := 0) (xd dk_T_isClosing 8 rfl) (by decide) ?_
      cases hf
      exact x_zreturn hc rfl (xd dk_T_isClosing 9 rfl)
    · rw [if_pos q3] at hf
      exact s_T_isClosing_14 hc hR M hf
def f_T_kindOf_21 (b : Nat) (p1 : Int32) (M : xMem) : Option (Nat × xMem) :=
  (some (27, M))
def f_T_kindOf (b : Nat) (p1 : Int32) (M : xMem) : Option (Nat × xMem) :=
  (if p1 < 0 then (f_T_kindOf_21 b p1 M) else (if M.1 (b + 2) 6 < p1 then (f_T_kindOf_21 b p1 M) else (if xin p1 61 = true then xtok (M.2.2.1 (b + 3) p1.toNatClampNeg) fun o5 => some (o5, M) else none)))
set_option maxRecDepth 100000 in
set_option maxHeartbeats 400000 in
theorem s_T_kindOf_21 {p : Program} {l : Launch} {e : Env} {R : Room} {s : State} {m : MethodId} {args : Array Value} {below : List Frame} {meth : Method} {c : Code} {G : xG} {Y : xY} {sz : Nat} {b : Nat} {p1 : Int32}  (hc : xC p s m args meth c G 2 c_T_kindOf y_T_kindOf.cls (some (.object "LintDesk$Token"))) (hR : xRm R 0) (hb : xRd Y b) {M' : xMem} {r : Nat} (M : xMem) (hf : f_T_kindOf_21 b p1 M = some (r, M')) : xW p l e R s m args below meth c G 2 (MQ below (xQc G (some (.ref (gE G r))) (xo G Y M') sz) args s 0 0 (xA G)) (xo G Y M) sz 0 0 21 [some (.ref (b + 2)), some (.int p1)] [] := by
  unfold f_T_kindOf_21 at hf
  refine x_getsK hc 27 (by decide) xw359 (xd dk_T_kindOf 11 rfl) ?_
  cases hf
  exact x_areturn hc (xd dk_T_kindOf 12 rfl)
set_option maxRecDepth 100000 in
set_option maxHeartbeats 400000 in
theorem s_T_kindOf {l : Launch} {G : xG} {Y : xY} {sz : Nat} {b : Nat} {p1 : Int32}  (hb : xRd Y b) {M M' : xMem} {r : Nat} (hf : f_T_kindOf b p1 M = some (r, M')) : xM l G y_T_kindOf c_T_kindOf 2 (some (.object "LintDesk$Token")) 0 0 0 [.ref (b + 2), .int p1] (xo G Y M) sz (some (.ref (gE G r))) (xo G Y M') sz := by
  unfold f_T_kindOf at hf
  refine xM.of (k := 0) (L0 := [some (.ref (b + 2)), some (.int p1)]) (by decide) (Nat.le_of_ble_eq_true rfl) rfl ?_
  intro p e s m args below meth c hc hnm
  have hR : xRm { frames := 0, cells := 0, slots := 0, locals := 48 * 0 } 0 := ⟨Nat.le_refl _, Nat.le_refl _⟩
  refine x_iload_n hc (xd dk_T_kindOf 0 rfl) rfl rfl ?_
  refine x_if_lt hc (tgt := 21) (xd dk_T_kindOf 1 rfl) rfl (fun q3 => ?_) (fun q3 => ?_)
  · rw [if_pos q3] at hf
    exact s_T_kindOf_21 hc hR hb M hf
  · rw [if_neg q3] at hf
    refine x_iload_n hc (xd dk_T_kindOf 2 rfl) rfl rfl ?_
    refine x_aload_n hc (xd dk_T_kindOf 3 rfl) rfl rfl ?_
    refine x_get hc (ci := 3) (k := 6) fi_T (c_T hb _) rfl (by decide) rfl xw85 rfl (xd dk_T_kindOf 4 rfl) ?_
    refine x_icmp_gt hc (tgt := 21) (xd dk_T_kindOf 5 rfl) rfl (fun q4 => ?_) (fun q4 => ?_)
    · rw [if_pos q4] at hf
      exact s_T_kindOf_21 hc hR hb M hf
    · rw [if_neg q4] at hf
      refine x_aload_n hc (xd dk_T_kindOf 6 rfl) rfl rfl ?_
      refine x_get hc (ci := 3) (k := 1) fi_T (c_T hb _) rfl (by decide) rfl xw80 rfl (xd dk_T_kindOf 7 rfl) ?_
      refine x_iload_n hc (xd dk_T_kindOf 8 rfl) rfl rfl ?_
      by_cases q6 : xin p1 61 = true
      case neg => rw [if_neg q6] at hf; cases hf
      rw [if_pos q6] at hf
      obtain ⟨o5, eo5, hto5, hf⟩ := xtok_some hf
      refine x_kald hc (hb.k 3 (by decide)) (xin_in q6) eo5 (xd dk_T_kindOf 9 rfl) ?_
      refine x_goto hc (tgt := 24) (xd dk_T_kindOf 10 rfl) rfl ?_
      cases hf
      exact x_areturn hc (xd dk_T_kindOf 12 rfl)
def f_T_behindExcuses_2 (b : Nat) (p1 : Int32) : Nat → Int32 → xMem → Option (Int32 × xMem)
  | 0, _, _ => none
  | n + 1, v2, M =>
    (if M.1 (b + 2) 6 ≤ v2 then (some (v2, M)) else (xbind (f_T_kindOf b v2 M) fun r6 M => if r6 < 28 then if r6 = 22 then (f_T_behindExcuses_2 b p1 n (v2 + Int32.ofInt 2) M) else (some (v2, M)) else none))
def f_T_behindExcuses (b : Nat) (p1 : Int32) (M : xMem) : Option (Int32 × xMem) :=
  (f_T_behindExcuses_2 b p1 xFuel p1 M)
set_option maxRecDepth 100000 in
set_option maxHeartbeats 400000 in
theorem s_T_behindExcuses_2 {p : Program} {l : Launch} {e : Env} {R : Room} {s : State} {m : MethodId} {args : Array Value} {below : List Frame} {meth : Method} {c : Code} {G : xG} {Y : xY} {sz : Nat} {b : Nat} {p1 : Int32}  (hc : xC p s m args meth c G 3 c_T_behindExcuses y_T_behindExcuses.cls (some .int)) (hR : xRm R 1) (hb : xRd Y b) {M' : xMem} {r : Int32} : ∀ (n : Nat) (v2 : Int32) (M : xMem), f_T_behindExcuses_2 b p1 n v2 M = some (r, M') → xW p l e R s m args below meth c G 3 (MQ below (xQc G (some (.int r)) (xo G Y M') sz) args s 0 0 (xA G)) (xo G Y M) sz 0 0 2 [some (.ref (b + 2)), some (.int p1), some (.int v2)] [] := by
  intro n
  induction n with
  | zero => intro v2 M hf; simp only [f_T_behindExcuses_2] at hf; cases hf
  | succ n ih =>
    intro v2 M hf
    simp only [f_T_behindExcuses_2] at hf
    refine x_iload_n hc (xd dk_T_behindExcuses 2 rfl) rfl rfl ?_
    refine x_aload_n hc (xd dk_T_behindExcuses 3 rfl) rfl rfl ?_
    refine x_get hc (ci := 3) (k := 6) fi_T (c_T hb _) rfl (by decide) rfl xw85 rfl (xd dk_T_behindExcuses 4 rfl) ?_
    refine x_icmp_ge hc (tgt := 27) (xd dk_T_behindExcuses 5 rfl) rfl (fun q5 => ?_) (fun q5 => ?_)
    · rw [if_pos q5] at hf
      refine x_iload_n hc (xd dk_T_behindExcuses 13 rfl) rfl rfl ?_
      cases hf
      exact x_ireturn hc (xd dk_T_behindExcuses 14 rfl)
    · rw [if_neg q5] at hf
      refine x_aload_n hc (xd dk_T_behindExcuses 6 rfl) rfl rfl ?_
      refine x_iload_n hc (xd dk_T_behindExcuses 7 rfl) rfl rfl ?_
      obtain ⟨r6, M, e7, hf⟩ := xbind_some hf
      refine x_callV hc (As := [.int v2]) (n := 1) (s_T_kindOf hb e7) (c_T hb _) rfl (hR.call (by decide) (by decide)) ⟨by decide, by decide, by decide⟩ rfl rfl xw453 xw4 xw461 xw451 xw452 (Nat.le_of_ble_eq_true rfl) ⟨Nat.zero_le _, Nat.zero_le _⟩ (xd dk_T_behindExcuses 8 rfl) ?_
      by_cases htr6 : r6 < 28
      case neg => rw [if_neg htr6] at hf; cases hf
      rw [if_pos htr6] at hf
      refine x_getsK hc 22 (by decide) xw462 (xd dk_T_behindExcuses 9 rfl) ?_
      refine x_tok_ne hc htr6 (by decide) (tgt := 27) (xd dk_T_behindExcuses 10 rfl) rfl (fun q8 => ?_) (fun q8 => ?_)
      · rw [if_neg q8] at hf
        refine x_iload_n hc (xd dk_T_behindExcuses 13 rfl) rfl rfl ?_
        cases hf
        exact x_ireturn hc (xd dk_T_behindExcuses 14 rfl)
      · rw [if_pos q8] at hf
        refine x_iinc hc (xd dk_T_behindExcuses 11 rfl) rfl (by decide) rfl ?_
        refine x_goto hc (tgt := 2) (xd dk_T_behindExcuses 12 rfl) rfl ?_
        exact ih (v2 + Int32.ofInt 2) M hf
set_option maxRecDepth 100000 in
set_option maxHeartbeats 400000 in
theorem s_T_behindExcuses {l : Launch} {G : xG} {Y : xY} {sz : Nat} {b : Nat} {p1 : Int32}  (hb : xRd Y b) {M M' : xMem} {r : Int32} (hf : f_T_behindExcuses b p1 M = some (r, M')) : xM l G y_T_behindExcuses c_T_behindExcuses 3 (some .int) 1 0 0 [.ref (b + 2), .int p1] (xo G Y M) sz (some (.int r)) (xo G Y M') sz := by
  unfold f_T_behindExcuses at hf
  refine xM.of (k := 1) (L0 := [some (.ref (b + 2)), some (.int p1), none]) (by decide) (Nat.le_of_ble_eq_true rfl) rfl ?_
  intro p e s m args below meth c hc hnm
  have hR : xRm { frames := 1, cells := 0, slots := 0, locals := 48 * 1 } 1 := ⟨Nat.le_refl _, Nat.le_refl _⟩
  refine x_iload_n hc (xd dk_T_behindExcuses 0 rfl) rfl rfl ?_
  refine x_istore_n hc (xd dk_T_behindExcuses 1 rfl) (by decide) rfl ?_
  exact s_T_behindExcuses_2 hc hR hb xFuel p1 M hf
def f_K_joinsParts_42 (b : Nat) (M : xMem) : Option (Int32 × xMem) :=
  (if b < 28 then some (1, M) else none)
def f_K_joinsParts (b : Nat) (M : xMem) : Option (Int32 × xMem) :=
  if b < 28 then (if b = 8 then (f_K_joinsParts_42 b M) else (if b = 9 then (f_K_joinsParts_42 b M) else (if b = 11 then (f_K_joinsParts_42 b M) else (if b = 12 then (f_K_joinsParts_42 b M) else (if b = 13 then (f_K_joinsParts_42 b M) else (if b = 14 then (f_K_joinsParts_42 b M) else (some (0, M)))))))) else none
set_option maxRecDepth 100000 in
set_option maxHeartbeats 400000 in
theorem s_K_joinsParts_42 {p : Program} {l : Launch} {e : Env} {R : Room} {s : State} {m : MethodId} {args : Array Value} {below : List Frame} {meth : Method} {c : Code} {G : xG} {Y : xY} {sz : Nat} {b : Nat}  (hc : xC p s m args meth c G 1 c_K_joinsParts y_K_joinsParts.cls (some .boolean)) (hR : xRm R 0)  {M' : xMem} {r : Int32} (M : xMem) (hf : f_K_joinsParts_42 b M = some (r, M')) : xW p l e R s m args below meth c G 1 (MQ below (xQc G (some (.int r)) (xo G Y M') sz) args s 0 0 (xA G)) (xo G Y M) sz 0 0 42 [some (.ref (gE G b))] [] := by
  unfold f_K_joinsParts_42 at hf
  by_cases htb : b < 28
  case neg => rw [if_neg htb] at hf; cases hf
  rw [if_pos htb] at hf
  refine x_iconst hc (v := 1) (xd dk_K_joinsParts 18 rfl) (by decide) ?_
  refine x_goto hc (tgt := 47) (xd dk_K_joinsParts 19 rfl) rfl ?_
  cases hf
  exact x_zreturn hc rfl (xd dk_K_joinsParts 21 rfl)
set_option maxRecDepth 100000 in
set_option maxHeartbeats 400000 in
theorem s_K_joinsParts {l : Launch} {G : xG} {Y : xY} {sz : Nat} {b : Nat}   {M M' : xMem} {r : Int32} (hf : f_K_joinsParts b M = some (r, M')) : xM l G y_K_joinsParts c_K_joinsParts 1 (some .boolean) 0 0 0 [.ref (gE G b)] (xo G Y M) sz (some (.int r)) (xo G Y M') sz := by
  unfold f_K_joinsParts at hf
  by_cases htb : b < 28
  case neg => rw [if_neg htb] at hf; cases hf
  rw [if_pos htb] at hf
  refine xM.of (k := 0) (L0 := [some (.ref (gE G b))]) (by decide) (Nat.le_of_ble_eq_true rfl) rfl ?_
  intro p e s m args below meth c hc hnm
  have hR : xRm { frames := 0, cells := 0, slots := 0, locals := 48 * 0 } 0 := ⟨Nat.le_refl _, Nat.le_refl _⟩
  refine x_aload_n hc (xd dk_K_joinsParts 0 rfl) rfl rfl ?_
  refine x_getsK hc 8 (by decide) xw555 (xd dk_K_joinsParts 1 rfl) ?_
  refine x_tok_eq hc htb (by decide) (tgt := 42) (xd dk_K_joinsParts 2 rfl) rfl (fun q2 => ?_) (fun q2 => ?_)
  · rw [if_pos q2] at hf
    exact s_K_joinsParts_42 hc hR M hf
  · rw [if_neg q2] at hf
    refine x_aload_n hc (xd dk_K_joinsParts 3 rfl) rfl rfl ?_
    refine x_getsK hc 9 (by decide) xw557 (xd dk_K_joinsParts 4 rfl) ?_
    refine x_tok_eq hc htb (by decide) (tgt := 42) (xd dk_K_joinsParts 5 rfl) rfl (fun q3 => ?_) (fun q3 => ?_)
    · rw [if_pos q3] at hf
      exact s_K_joinsParts_42 hc hR M hf
    · rw [if_neg q3] at hf
      refine x_aload_n hc (xd dk_K_joinsParts 6 rfl) rfl rfl ?_
      refine x_getsK hc 11 (by decide) xw559 (xd dk_K_joinsParts 7 rfl) ?_
      refine x_tok_eq hc htb (by decide) (tgt := 42) (xd dk_K_joinsParts 8 rfl) rfl (fun q4 => ?_) (fun q4 => ?_)
      · rw [if_pos q4] at hf
        exact s_K_joinsParts_42 hc hR M hf
      · rw [if_neg q4] at hf
        refine x_aload_n hc (xd dk_K_joinsParts 9 rfl) rfl rfl ?_
        refine x_getsK hc 12 (by decide) xw561 (xd dk_K_joinsParts 10 rfl) ?_
        refine x_tok_eq hc htb (by decide) (tgt := 42) (xd dk_K_joinsParts 11 rfl) rfl (fun q5 => ?_) (fun q5 => ?_)
        · rw [if_pos q5] at hf
          exact s_K_joinsParts_42 hc hR M hf
        · rw [if_neg q5] at hf
          refine x_aload_n hc (xd dk_K_joinsParts 12 rfl) rfl rfl ?_
          refine x_getsK hc 13 (by decide) xw563 (xd dk_K_joinsParts 13 rfl) ?_
          refine x_tok_eq hc htb (by decide) (tgt := 42) (xd dk_K_joinsParts 14 rfl) rfl (fun q6 => ?_) (fun q6 => ?_)
          · rw [if_pos q6] at hf
            exact s_K_joinsParts_42 hc hR M hf
          · rw [if_neg q6] at hf
            refine x_aload_n hc (xd dk_K_joinsParts 15 rfl) rfl rfl ?_
            refine x_getsK hc 14 (by decide) xw565 (xd dk_K_joinsParts 16 rfl) ?_
            refine x_tok_ne hc htb (by decide) (tgt := 46) (xd dk_K_joinsParts 17 rfl) rfl (fun q7 => ?_) (fun q7 => ?_)
            · rw [if_neg q7] at hf
              refine x_iconst hc (v := 0) (xd dk_K_joinsParts 20 rfl) (by decide) ?_
              cases hf
              exact x_zreturn hc rfl (xd dk_K_joinsParts 21 rfl)
            · rw [if_pos q7] at hf
              exact s_K_joinsParts_42 hc hR M hf
def f_T_digitOf_31 (b : Nat) (p1 : Int32) (w0 : Int32) (M : xMem) : Option (Int32 × xMem) :=
  (if w0 = 0 then (some ((-1), M)) else (xbind (f_T_startOf b p1 M) fun r12 M => xbind (f_L_at b r12 M) fun r14 M => some ((r14 - 48), M)))
def f_T_digitOf_30 (b : Nat) (p1 : Int32) (M : xMem) : Option (Int32 × xMem) :=
  (f_T_digitOf_31 b p1 0 M)
def f_T_digitOf (b : Nat) (p1 : Int32) (M : xMem) : Option (Int32 × xMem) :=
  (xbind (f_T_kindOf b p1 M) fun r16 M => if r16 < 28 then if r16 = 24 then (xbind (f_T_endOf b p1 M) fun r19 M => xbind (f_T_startOf b p1 M) fun r21 M => if (r19 - r21) = 1 then (f_T_digitOf_31 b p1 1 M) else (f_T_digitOf_30 b p1 M)) else (f_T_digitOf_30 b p1 M) else none)
set_option maxRecDepth 100000 in
set_option maxHeartbeats 400000 in
theorem s_T_digitOf_31 {p : Program} {l : Launch} {e : Env} {R : Room} {s : State} {m : MethodId} {args : Array Value} {below : List Frame} {meth : Method} {c : Code} {G : xG} {Y : xY} {sz : Nat} {b : Nat} {p1 : Int32}  (hc : xC p s m args meth c G 3 c_T_digitOf y_T_digitOf.cls (some .int)) (hR : xRm R 2) (hb : xRd Y b) {M' : xMem} {r : Int32} (w0 : Int32) (M : xMem) (hf : f_T_digitOf_31 b p1 w0 M = some (r, M')) : xW p l e R s m args below meth c G 3 (MQ below (xQc G (some (.int r)) (xo G Y M') sz) args s 0 0 (xA G)) (xo G Y M) sz 0 0 31 [some (.ref (b + 2)), some (.int p1), none] [.int w0] := by
  unfold f_T_digitOf_31 at hf
  refine x_istore_n hc (xd dk_T_digitOf 17 rfl) (by decide) rfl ?_
  refine x_iload_n hc (xd dk_T_digitOf 18 rfl) rfl rfl ?_
  refine x_if_eq hc (tgt := 54) (xd dk_T_digitOf 19 rfl) rfl (fun q11 => ?_) (fun q11 => ?_)
  · rw [if_pos q11] at hf
    refine x_iconst hc (v := (-1)) (xd dk_T_digitOf 29 rfl) (by decide) ?_
    cases hf
    exact x_ireturn hc (xd dk_T_digitOf 30 rfl)
  · rw [if_neg q11] at hf
    refine x_aload_n hc (xd dk_T_digitOf 20 rfl) rfl rfl ?_
    refine x_get hc (ci := 3) (k := 0) fi_T (c_T hb _) rfl (by decide) rfl xw79 rfl (xd dk_T_digitOf 21 rfl) ?_
    refine x_aload_n hc (xd dk_T_digitOf 22 rfl) rfl rfl ?_
    refine x_iload_n hc (xd dk_T_digitOf 23 rfl) rfl rfl ?_
    obtain ⟨r12, M, e13, hf⟩ := xbind_some hf
    refine x_callV hc (As := [.int p1]) (n := 1) (s_T_startOf hb e13) (c_T hb _) rfl (hR.call (by decide) (by decide)) ⟨by decide, by decide, by decide⟩ rfl rfl xw625 xw4 xw622 xw623 xw624 (Nat.le_of_ble_eq_true rfl) ⟨Nat.zero_le _, Nat.zero_le _⟩ (xd dk_T_digitOf 24 rfl) ?_
    obtain ⟨r14, M, e15, hf⟩ := xbind_some hf
    refine x_callV hc (As := [.int r12]) (n := 1) (s_L_at hb.L e15) (c_L hb.L _) rfl (hR.call (by decide) (by decide)) ⟨by decide, by decide, by decide⟩ rfl rfl xw301 xw2 xw309 xw299 xw300 (Nat.le_of_ble_eq_true rfl) ⟨Nat.zero_le _, Nat.zero_le _⟩ (xd dk_T_digitOf 25 rfl) ?_
    refine x_bipush hc (v := 48) (xd dk_T_digitOf 26 rfl) (by decide) ?_
    refine x_isub hc (xd dk_T_digitOf 27 rfl) ?_
    refine x_goto hc (tgt := 55) (xd dk_T_digitOf 28 rfl) rfl ?_
    cases hf
    exact x_ireturn hc (xd dk_T_digitOf 30 rfl)
set_option maxRecDepth 100000 in
set_option maxHeartbeats 400000 in
theorem s_T_digitOf_30 {p : Program} {l : Launch} {e : Env} {R : Room} {s : State} {m : MethodId} {args : Array Value} {below : List Frame} {meth : Method} {c : Code} {G : xG} {Y : xY} {sz : Nat} {b : Nat} {p1 : Int32}  (hc : xC p s m args meth c G 3 c_T_digitOf y_T_digitOf.cls (some .int)) (hR : xRm R 2) (hb : xRd Y b) {M' : xMem} {r : Int32} (M : xMem) (hf : f_T_digitOf_30 b p1 M = some (r, M')) : xW p l e R s m args below meth c G 3 (MQ below (xQc G (some (.int r)) (xo G Y M') sz) args s 0 0 (xA G)) (xo G Y M) sz 0 0 30 [some (.ref (b + 2)), some (.int p1), none] [] := by
  unfold f_T_digitOf_30 at hf
  refine x_iconst hc (v := 0) (xd dk_T_digitOf 16 rfl) (by decide) ?_
  exact s_T_digitOf_31 hc hR hb 0 M hf
set_option maxRecDepth 100000 in
set_option maxHeartbeats 400000 in
theorem s_T_digitOf {l : Launch} {G : xG} {Y : xY} {sz : Nat} {b : Nat} {p1 : Int32}  (hb : xRd Y b) {M M' : xMem} {r : Int32} (hf : f_T_digitOf b p1 M = some (r, M')) : xM l G y_T_digitOf c_T_digitOf 3 (some .int) 2 0 0 [.ref (b + 2), .int p1] (xo G Y M) sz (some (.int r)) (xo G Y M') sz := by
  unfold f_T_digitOf at hf
  refine xM.of (k := 1) (L0 := [some (.ref (b + 2)), some (.int p1), none]) (by decide) (Nat.le_of_ble_eq_true rfl) rfl ?_
  intro p e s m args below meth c hc hnm
  have hR : xRm { frames := 2, cells := 0, slots := 0, locals := 48 * 2 } 2 := ⟨Nat.le_refl _, Nat.le_refl _⟩
  refine x_aload_n hc (xd dk_T_digitOf 0 rfl) rfl rfl ?_
  refine x_iload_n hc (xd dk_T_digitOf 1 rfl) rfl rfl ?_
  obtain ⟨r16, M, e17, hf⟩ := xbind_some hf
  refine x_callV hc (As := [.int p1]) (n := 1) (s_T_kindOf hb e17) (c_T hb _) rfl (hR.call (by decide) (by decide)) ⟨by decide, by decide, by decide⟩ rfl rfl xw453 xw4 xw461 xw451 xw452 (Nat.le_of_ble_eq_true rfl) ⟨Nat.zero_le _, Nat.zero_le _⟩ (xd dk_T_digitOf 2 rfl) ?_
  by_cases htr16 : r16 < 28
  case neg => rw [if_neg htr16] at hf; cases hf
  rw [if_pos htr16] at hf
  refine x_getsK hc 24 (by decide) xw347 (xd dk_T_digitOf 3 rfl) ?_
  refine x_tok_ne hc htr16 (by decide) (tgt := 30) (xd dk_T_digitOf 4 rfl) rfl (fun q18 => ?_) (fun q18 => ?_)
  · rw [if_neg q18] at hf
    exact s_T_digitOf_30 hc hR hb M hf
  · rw [if_pos q18] at hf
    refine x_aload_n hc (xd dk_T_digitOf 5 rfl) rfl rfl ?_
    refine x_iload_n hc (xd dk_T_digitOf 6 rfl) rfl rfl ?_
    obtain ⟨r19, M, e20, hf⟩ := xbind_some hf
    refine x_callV hc (As := [.int p1]) (n := 1) (s_T_endOf hb e20) (c_T hb _) rfl (hR.call (by decide) (by decide)) ⟨by decide, by decide, by decide⟩ rfl rfl xw621 xw4 xw618 xw619 xw620 (Nat.le_of_ble_eq_true rfl) ⟨Nat.zero_le _, Nat.zero_le _⟩ (xd dk_T_digitOf 7 rfl) ?_
    refine x_aload_n hc (xd dk_T_digitOf 8 rfl) rfl rfl ?_
    refine x_iload_n hc (xd dk_T_digitOf 9 rfl) rfl rfl ?_
    obtain ⟨r21, M, e22, hf⟩ := xbind_some hf
    refine x_callV hc (As := [.int p1]) (n := 1) (s_T_startOf hb e22) (c_T hb _) rfl (hR.call (by decide) (by decide)) ⟨by decide, by decide, by decide⟩ rfl rfl xw625 xw4 xw622 xw623 xw624 (Nat.le_of_ble_eq_true rfl) ⟨Nat.zero_le _, Nat.zero_le _⟩ (xd dk_T_digitOf 10 rfl) ?_
    refine x_isub hc (xd dk_T_digitOf 11 rfl) ?_
    refine x_iconst hc (v := 1) (xd dk_T_digitOf 12 rfl) (by decide) ?_
    refine x_icmp_ne hc (tgt := 30) (xd dk_T_digitOf 13 rfl) rfl (fun q23 => ?_) (fun q23 => ?_)
    · rw [if_neg q23] at hf
      exact s_T_digitOf_30 hc hR hb M hf
    · rw [if_pos q23] at hf
      refine x_iconst hc (v := 1) (xd dk_T_digitOf 14 rfl) (by decide) ?_
      refine x_goto hc (tgt := 31) (xd dk_T_digitOf 15 rfl) rfl ?_
      exact s_T_digitOf_31 hc hR hb 1 M hf
def f_L_holds_2 (b : Nat) (p1 : Nat) (p2 : Int32) : Nat → Int32 → xMem → Option (Int32 × xMem)
  | 0, _, _ => none
  | n + 1, v3, M =>
    (if p1 < 28 then xbind (f_JS_length p1 M) fun r9 M => if r9 ≤ v3 then (some (1, M)) else (xbind (f_L_at b (p2 + v3) M) fun r12 M => xbind (f_JS_charAt p1 v3 M) fun r14 M => if r12 = r14 then (f_L_holds_2 b p1 p2 n (v3 + Int32.ofInt 1) M) else (some (0, M))) else none)
def f_L_holds (b : Nat) (p1 : Nat) (p2 : Int32) (M : xMem) : Option (Int32 × xMem) :=
  if p1 < 28 then (f_L_holds_2 b p1 p2 xFuel 0 M) else none
set_option maxRecDepth 100000 in
set_option maxHeartbeats 400000 in
theorem s_L_holds_2 {p : Program} {l : Launch} {e : Env} {R : Room} {s : State} {m : MethodId} {args : Array Value} {below : List Frame} {meth : Method} {c : Code} {G : xG} {Y : xY} {sz : Nat} {b : Nat} {p1 : Nat} {p2 : Int32}  (hc : xC p s m args meth c G 4 c_L_holds y_L_holds.cls (some .boolean)) (hR : xRm R 4) (hb : xLt Y b) {M' : xMem} {r : Int32} : ∀ (n : Nat) (v3 : Int32) (M : xMem), f_L_holds_2 b p1 p2 n v3 M = some (r, M') → xW p l e R s m args below meth c G 4 (MQ below (xQc G (some (.int r)) (xo G Y M') sz) args s 0 0 (xA G)) (xo G Y M) sz 0 0 2 [some (.ref b), some (.ref (gK G p1)), some (.int p2), some (.int v3)] [] := by
  intro n
  induction n with
  | zero => intro v3 M hf; simp only [f_L_holds_2] at hf; cases hf
  | succ n ih =>
    intro v3 M hf
    simp only [f_L_holds_2] at hf
    by_cases htp1 : p1 < 28
    case neg => rw [if_neg htp1] at hf; cases hf
    rw [if_pos htp1] at hf
    refine x_iload_n hc (xd dk_L_holds 2 rfl) rfl rfl ?_
    refine x_aload_n hc (xd dk_L_holds 3 rfl) rfl rfl ?_
    obtain ⟨r9, M, e10, hf⟩ := xbind_some hf
    refine x_callVO hc (As := []) (n := 0) (s_JS_length e10) ((hc.tk htp1).2.2.2.2.2.2.2.1) (hR.call (by decide) (by decide)) ⟨by decide, by decide, by decide⟩ rfl rfl xw373 xw13 xw370 xw371 xw372 (Nat.le_of_ble_eq_true rfl) ⟨Nat.zero_le _, Nat.zero_le _⟩ (xd dk_L_holds 4 rfl) ?_
    refine x_icmp_ge hc (tgt := 33) (xd dk_L_holds 5 rfl) rfl (fun q11 => ?_) (fun q11 => ?_)
    · rw [if_pos q11] at hf
      refine x_iconst hc (v := 1) (xd dk_L_holds 19 rfl) (by decide) ?_
      cases hf
      exact x_zreturn hc rfl (xd dk_L_holds 20 rfl)
    · rw [if_neg q11] at hf
      refine x_aload_n hc (xd dk_L_holds 6 rfl) rfl rfl ?_
      refine x_iload_n hc (xd dk_L_holds 7 rfl) rfl rfl ?_
      refine x_iload_n hc (xd dk_L_holds 8 rfl) rfl rfl ?_
      refine x_iadd hc (xd dk_L_holds 9 rfl) ?_
      obtain ⟨r12, M, e13, hf⟩ := xbind_some hf
      refine x_callV hc (As := [.int ((p2 + v3))]) (n := 1) (s_L_at hb e13) (c_L hb _) rfl (hR.call (by decide) (by decide)) ⟨by decide, by decide, by decide⟩ rfl rfl xw301 xw2 xw298 xw299 xw300 (Nat.le_of_ble_eq_true rfl) ⟨Nat.zero_le _, Nat.zero_le _⟩ (xd dk_L_holds 10 rfl) ?_
      refine x_aload_n hc (xd dk_L_holds 11 rfl) rfl rfl ?_
      refine x_iload_n hc (xd dk_L_holds 12 rfl) rfl rfl ?_
      obtain ⟨r14, M, e15, hf⟩ := xbind_some hf
      refine x_callVO hc (As := [.int v3]) (n := 1) (s_JS_charAt e15) ((hc.tk htp1).2.2.2.2.2.2.2.1) (hR.call (by decide) (by decide)) ⟨by decide, by decide, by decide⟩ rfl rfl xw383 xw13 xw380 xw381 xw382 (Nat.le_of_ble_eq_true rfl) ⟨Nat.zero_le _, Nat.zero_le _⟩ (xd dk_L_holds 13 rfl) ?_
      refine x_icmp_eq hc (tgt := 27) (xd dk_L_holds 14 rfl) rfl (fun q16 => ?_) (fun q16 => ?_)
      · rw [if_pos q16] at hf
        refine x_iinc hc (xd dk_L_holds 17 rfl) rfl (by decide) rfl ?_
        refine x_goto hc (tgt := 2) (xd dk_L_holds 18 rfl) rfl ?_
        exact ih (v3 + Int32.ofInt 1) M hf
      · rw [if_neg q16] at hf
        refine x_iconst hc (v := 0) (xd dk_L_holds 15 rfl) (by decide) ?_
        cases hf
        exact x_zreturn hc rfl (xd dk_L_holds 16 rfl)
set_option maxRecDepth 100000 in
set_option maxHeartbeats 400000 in
theorem s_L_holds {l : Launch} {G : xG} {Y : xY} {sz : Nat} {b : Nat} {p1 : Nat} {p2 : Int32}  (hb : xLt Y b) {M M' : xMem} {r : Int32} (hf : f_L_holds b p1 p2 M = some (r, M')) : xM l G y_L_holds c_L_holds 4 (some .boolean) 4 0 0 [.ref b, .ref (gK G p1), .int p2] (xo G Y M) sz (some (.int r)) (xo G Y M') sz := by
  unfold f_L_holds at hf
  by_cases htp1 : p1 < 28
  case neg => rw [if_neg htp1] at hf; cases hf
  rw [if_pos htp1] at hf
  refine xM.of (k := 1) (L0 := [some (.ref b), some (.ref (gK G p1)), some (.int p2), none]) (by decide) (Nat.le_of_ble_eq_true rfl) rfl ?_
  intro p e s m args below meth c hc hnm
  have hR : xRm { frames := 4, cells := 0, slots := 0, locals := 48 * 4 } 4 := ⟨Nat.le_refl _, Nat.le_refl _⟩
  refine x_iconst hc (v := 0) (xd dk_L_holds 0 rfl) (by decide) ?_
  refine x_istore_n hc (xd dk_L_holds 1 rfl) (by decide) rfl ?_
  exact s_L_holds_2 hc hR hb xFuel 0 M hf
def f_L_addText_2 (b : Nat) (p1 : Nat) : Nat → Int32 → xMem → Option (Unit × xMem)
  | 0, _, _ => none
  | n + 1, v2, M =>
    (if p1 < 28 then xbind (f_JS_length p1 M) fun r7 M => if r7 ≤ v2 then (some ((), M)) else (xbind (f_JS_charAt p1 v2 M) fun r10 M => xbind (f_L_add b r10 M) fun r12 M => f_L_addText_2 b p1 n (v2 + Int32.ofInt 1) M) else none)
def f_L_addText (b : Nat) (p1 : Nat) (M : xMem) : Option (Unit × xMem) :=
  if p1 < 28 then (f_L_addText_2 b p1 xFuel 0 M) else none
set_option maxRecDepth 100000 in
set_option maxHeartbeats 400000 in
theorem s_L_addText_2 {p : Program} {l : Launch} {e : Env} {R : Room} {s : State} {m : MethodId} {args : Array Value} {below : List Frame} {meth : Method} {c : Code} {G : xG} {Y : xY} {sz : Nat} {b : Nat} {p1 : Nat}  (hc : xC p s m args meth c G 3 c_L_addText y_L_addText.cls none) (hR : xRm R 4) (hb : xLt Y b) {M' : xMem} {r : Unit} : ∀ (n : Nat) (v2 : Int32) (M : xMem), f_L_addText_2 b p1 n v2 M = some (r, M') → xW p l e R s m args below meth c G 3 (MQ below (xQc G none (xo G Y M') sz) args s 0 0 (xA G)) (xo G Y M) sz 0 0 2 [some (.ref b), some (.ref (gK G p1)), some (.int v2)] [] := by
  intro n
  induction n with
  | zero => intro v2 M hf; simp only [f_L_addText_2] at hf; cases hf
  | succ n ih =>
    intro v2 M hf
    simp only [f_L_addText_2] at hf
    by_cases htp1 : p1 < 28
    case neg => rw [if_neg htp1] at hf; cases hf
    rw [if_pos htp1] at hf
    refine x_iload_n hc (xd dk_L_addText 2 rfl) rfl rfl ?_
    refine x_aload_n hc (xd dk_L_addText 3 rfl) rfl rfl ?_
    obtain ⟨r7, M, e8, hf⟩ := xbind_some hf
    refine x_callVO hc (As := []) (n := 0) (s_JS_length e8) ((hc.tk htp1).2.2.2.2.2.2.2.1) (hR.call (by decide) (by decide)) ⟨by decide, by decide, by decide⟩ rfl rfl xw373 xw13 xw370 xw371 xw372 (Nat.le_of_ble_eq_true rfl) ⟨Nat.zero_le _, Nat.zero_le _⟩ (xd dk_L_addText 4 rfl) ?_
    refine x_icmp_ge hc (tgt := 25) (xd dk_L_addText 5 rfl) rfl (fun q9 => ?_) (fun q9 => ?_)
    · rw [if_pos q9] at hf
      cases hf
      exact x_return hc (xd dk_L_addText 13 rfl)
    · rw [if_neg q9] at hf
      refine x_aload_n hc (xd dk_L_addText 6 rfl) rfl rfl ?_
      refine x_aload_n hc (xd dk_L_addText 7 rfl) rfl rfl ?_
      refine x_iload_n hc (xd dk_L_addText 8 rfl) rfl rfl ?_
      obtain ⟨r10, M, e11, hf⟩ := xbind_some hf
      refine x_callVO hc (As := [.int v2]) (n := 1) (s_JS_charAt e11) ((hc.tk htp1).2.2.2.2.2.2.2.1) (hR.call (by decide) (by decide)) ⟨by decide, by decide, by decide⟩ rfl rfl xw383 xw13 xw380 xw381 xw382 (Nat.le_of_ble_eq_true rfl) ⟨Nat.zero_le _, Nat.zero_le _⟩ (xd dk_L_addText 9 rfl) ?_
      obtain ⟨r12, M, e13, hf⟩ := xbind_some hf
      refine x_callV hc (As := [.int r10]) (n := 1) (s_L_add hb e13) (c_L hb _) rfl (hR.call (by decide) (by decide)) ⟨by decide, by decide, by decide⟩ rfl rfl xw788 xw2 xw785 xw786 xw787 (Nat.le_of_ble_eq_true rfl) ⟨Nat.zero_le _, Nat.zero_le _⟩ (xd dk_L_addText 10 rfl) ?_
      refine x_iinc hc (xd dk_L_addText 11 rfl) rfl (by decide) rfl ?_
      refine x_goto hc (tgt := 2) (xd dk_L_addText 12 rfl) rfl ?_
      exact ih (v2 + Int32.ofInt 1) M hf
set_option maxRecDepth 100000 in
set_option maxHeartbeats 400000 in
theorem s_L_addText {l : Launch} {G : xG} {Y : xY} {sz : Nat} {b : Nat} {p1 : Nat}  (hb : xLt Y b) {M M' : xMem} {r : Unit} (hf : f_L_addText b p1 M = some (r, M')) : xM l G y_L_addText c_L_addText 3 none 4 0 0 [.ref b, .ref (gK G p1)] (xo G Y M) sz none (xo G Y M') sz := by
  unfold f_L_addText at hf
  by_cases htp1 : p1 < 28
  case neg => rw [if_neg htp1] at hf; cases hf
  rw [if_pos htp1] at hf
  refine xM.of (k := 1) (L0 := [some (.ref b), some (.ref (gK G p1)), none]) (by decide) (Nat.le_of_ble_eq_true rfl) rfl ?_
  intro p e s m args below meth c hc hnm
  have hR : xRm { frames := 4, cells := 0, slots := 0, locals := 48 * 4 } 4 := ⟨Nat.le_refl _, Nat.le_refl _⟩
  refine x_iconst hc (v := 0) (xd dk_L_addText 0 rfl) (by decide) ?_
  refine x_istore_n hc (xd dk_L_addText 1 rfl) (by decide) rfl ?_
  exact s_L_addText_2 hc hR hb xFuel 0 M hf
def f_T_signAt_46 (b : Nat) (p1 : Int32) (k2 : Int32 → xMem → Option (Nat × xMem)) (v2 : Int32) (M : xMem) : Option (Nat × xMem) :=
  (k2 (v2 + Int32.ofInt 1) M)
def f_T_signAt_2 (b : Nat) (p1 : Int32) : Nat → Int32 → xMem → Option (Nat × xMem)
  | 0, _, _ => none
  | n + 1, v2, M =>
    (if 28 ≤ v2 then (some (27, M)) else (if xin v2 28 = true then xval (v2.toNatClampNeg) fun o10 => if o10 < 28 then if xTokSg.getD o10 0 = 0 then (f_T_signAt_46 b p1 (f_T_signAt_2 b p1 n) v2 M) else (if xin v2 28 = true then xval (v2.toNatClampNeg) fun o13 => if o13 < 28 then xbind (f_L_holds b o13 p1 M) fun r15 M => if r15 = 0 then (f_T_signAt_46 b p1 (f_T_signAt_2 b p1 n) v2 M) else (if xin v2 28 = true then xval (v2.toNatClampNeg) fun o18 => if o18 < 28 then some (o18, M) else none else none) else none else none) else none else none))
def f_T_signAt (b : Nat) (p1 : Int32) (M : xMem) : Option (Nat × xMem) :=
  (f_T_signAt_2 b p1 xFuel 0 M)
set_option maxRecDepth 100000 in
set_option maxHeartbeats 400000 in
theorem s_T_signAt_46 {p : Program} {l : Launch} {e : Env} {R : Room} {s : State} {m : MethodId} {args : Array Value} {below : List Frame} {meth : Method} {c : Code} {G : xG} {Y : xY} {sz : Nat} {b : Nat} {p1 : Int32}  (hc : xC p s m args meth c G 3 c_T_signAt y_T_signAt.cls (some (.object "LintDesk$Token"))) (hR : xRm R 5) (hb : xRd Y b) {k2 : Int32 → xMem → Option (Nat × xMem)} {M' : xMem} {r : Nat} (hk2 : ∀ (v2 : Int32) (M : xMem), k2 v2 M = some (r, M') → xW p l e R s m args below meth c G 3 (MQ below (xQc G (some (.ref (gE G r))) (xo G Y M') sz) args s 0 0 (xA G)) (xo G Y M) sz 0 0 2 [some (.ref (b + 2)), some (.int p1), some (.int v2)] []) (v2 : Int32) (M : xMem) (hf : f_T_signAt_46 b p1 k2 v2 M = some (r, M')) : xW p l e R s m args below meth c G 3 (MQ below (xQc G (some (.ref (gE G r))) (xo G Y M') sz) args s 0 0 (xA G)) (xo G Y M) sz 0 0 46 [some (.ref (b + 2)), some (.int p1), some (.int v2)] [] := by
  unfold f_T_signAt_46 at hf
  refine x_iinc hc (xd dk_T_signAt 24 rfl) rfl (by decide) rfl ?_
  refine x_goto hc (tgt := 2) (xd dk_T_signAt 25 rfl) rfl ?_
  exact hk2 (v2 + Int32.ofInt 1) M hf
set_option maxRecDepth 100000 in
set_option maxHeartbeats 400000 in
theorem s_T_signAt_2 {p : Program} {l : Launch} {e : Env} {R : Room} {s : State} {m : MethodId} {args : Array Value} {below : List Frame} {meth : Method} {c : Code} {G : xG} {Y : xY} {sz : Nat} {b : Nat} {p1 : Int32}  (hc : xC p s m args meth c G 3 c_T_signAt y_T_signAt.cls (some (.object "LintDesk$Token"))) (hR : xRm R 5) (hb : xRd Y b) {M' : xMem} {r : Nat} : ∀ (n : Nat) (v2 : Int32) (M : xMem), f_T_signAt_2 b p1 n v2 M = some (r, M') → xW p l e R s m args below meth c G 3 (MQ below (xQc G (some (.ref (gE G r))) (xo G Y M') sz) args s 0 0 (xA G)) (xo G Y M) sz 0 0 2 [some (.ref (b + 2)), some (.int p1), some (.int v2)] [] := by
  intro n
  induction n with
  | zero => intro v2 M hf; simp only [f_T_signAt_2] at hf; cases hf
  | succ n ih =>
    intro v2 M hf
    simp only [f_T_signAt_2] at hf
    refine x_iload_n hc (xd dk_T_signAt 2 rfl) rfl rfl ?_
    refine x_getsTN hc xn365 (xd dk_T_signAt 3 rfl) ?_
    refine x_tlen hc (xd dk_T_signAt 4 rfl) ?_
    refine x_icmp_ge hc (tgt := 52) (xd dk_T_signAt 5 rfl) rfl (fun q9 => ?_) (fun q9 => ?_)
    · rw [if_pos q9] at hf
      refine x_getsK hc 27 (by decide) xw359 (xd dk_T_signAt 26 rfl) ?_
      cases hf
      exact x_areturn hc (xd dk_T_signAt 27 rfl)
    · rw [if_neg q9] at hf
      refine x_getsTN hc xn365 (xd dk_T_signAt 6 rfl) ?_
      refine x_iload_n hc (xd dk_T_signAt 7 rfl) rfl rfl ?_
      by_cases q11 : xin v2 28 = true
      case neg => rw [if_neg q11] at hf; cases hf
      rw [if_pos q11] at hf
      refine x_taald hc (xin_in q11) (xd dk_T_signAt 8 rfl) ?_
      obtain ⟨o10, ho10, hf⟩ := xval_ex hf
      rw [← ho10]
      by_cases hto10 : o10 < 28
      case neg => rw [if_neg hto10] at hf; cases hf
      rw [if_pos hto10] at hf
      refine x_getON hc ((hc.tk hto10).2.2.2.2.2.1) xn1438 (xd dk_T_signAt 9 rfl) ?_
      refine x_if_eq hc (tgt := 46) (xd dk_T_signAt 10 rfl) rfl (fun q12 => ?_) (fun q12 => ?_)
      · rw [if_pos q12] at hf
        exact s_T_signAt_46 hc hR hb ih v2 M hf
      · rw [if_neg q12] at hf
        refine x_aload_n hc (xd dk_T_signAt 11 rfl) rfl rfl ?_
        refine x_get hc (ci := 3) (k := 0) fi_T (c_T hb _) rfl (by decide) rfl xw79 rfl (xd dk_T_signAt 12 rfl) ?_
        refine x_getsTN hc xn365 (xd dk_T_signAt 13 rfl) ?_
        refine x_iload_n hc (xd dk_T_signAt 14 rfl) rfl rfl ?_
        by_cases q14 : xin v2 28 = true
        case neg => rw [if_neg q14] at hf; cases hf
        rw [if_pos q14] at hf
        refine x_taald hc (xin_in q14) (xd dk_T_signAt 15 rfl) ?_
        obtain ⟨o13, ho13, hf⟩ := xval_ex hf
        rw [← ho13]
        by_cases hto13 : o13 < 28
        case neg => rw [if_neg hto13] at hf; cases hf
        rw [if_pos hto13] at hf
        refine x_getON hc ((hc.tk hto13).2.2.2.1) xn1439 (xd dk_T_signAt 16 rfl) ?_
        refine x_iload_n hc (xd dk_T_signAt 17 rfl) rfl rfl ?_
        obtain ⟨r15, M, e16, hf⟩ := xbind_some hf
        refine x_callV hc (As := [.ref (gK G o13), .int p1]) (n := 2) (s_L_holds hb.L e16) (c_L hb.L _) rfl (hR.call (by decide) (by decide)) ⟨by decide, by decide, by decide⟩ rfl rfl xw369 xw2 xw366 xw367 xw368 (Nat.le_of_ble_eq_true rfl) ⟨Nat.zero_le _, Nat.zero_le _⟩ (xd dk_T_signAt 18 rfl) ?_
        refine x_if_eq hc (tgt := 46) (xd dk_T_signAt 19 rfl) rfl (fun q17 => ?_) (fun q17 => ?_)
        · rw [if_pos q17] at hf
          exact s_T_signAt_46 hc hR hb ih v2 M hf
        · rw [if_neg q17] at hf
          refine x_getsTN hc xn365 (xd dk_T_signAt 20 rfl) ?_
          refine x_iload_n hc (xd dk_T_signAt 21 rfl) rfl rfl ?_
          by_cases q19 : xin v2 28 = true
          case neg => rw [if_neg q19] at hf; cases hf
          rw [if_pos q19] at hf
          refine x_taald hc (xin_in q19) (xd dk_T_signAt 22 rfl) ?_
          obtain ⟨o18, ho18, hf⟩ := xval_ex hf
          rw [← ho18]
          by_cases hto18 : o18 < 28
          case neg => rw [if_neg hto18] at hf; cases hf
          rw [if_pos hto18] at hf
          cases hf
          exact x_areturn hc (xd dk_T_signAt 23 rfl)
set_option maxRecDepth 100000 in
set_option maxHeartbeats 400000 in
theorem s_T_signAt {l : Launch} {G : xG} {Y : xY} {sz : Nat} {b : Nat} {p1 : Int32}  (hb : xRd Y b) {M M' : xMem} {r : Nat} (hf : f_T_signAt b p1 M = some (r, M')) : xM l G y_T_signAt c_T_signAt 3 (some (.object "LintDesk$Token")) 5 0 0 [.ref (b + 2), .int p1] (xo G Y M) sz (some (.ref (gE G r))) (xo G Y M') sz := by
  unfold f_T_signAt at hf
  refine xM.of (k := 1) (L0 := [some (.ref (b + 2)), some (.int p1), none]) (by decide) (Nat.le_of_ble_eq_true rfl) rfl ?_
  intro p e s m args below meth c hc hnm
  have hR : xRm { frames := 5, cells := 0, slots := 0, locals := 48 * 5 } 5 := ⟨Nat.le_refl _, Nat.le_refl _⟩
  refine x_iconst hc (v := 0) (xd dk_T_signAt 0 rfl) (by decide) ?_
  refine x_istore_n hc (xd dk_T_signAt 1 rfl) (by decide) rfl ?_
  exact s_T_signAt_2 hc hR hb xFuel 0 M hf
def f_T_scanOne_129 (b : Nat) (p1 : Int32) (v2 : Int32) (v3 : Int32) (w1 : Nat) (M : xMem) : Option (Unit × xMem) :=
  (if w1 < 28 then xbind (f_T_put b w1 p1 v3 M) fun r33 M => some ((), M) else none)
def f_T_scanOne (b : Nat) (p1 : Int32) (M : xMem) : Option (Unit × xMem) :=
  (xbind (f_L_at b p1 M) fun r35 M => if p1 < M.1 b 1 then (xbind (f_D_isSmall r35 M) fun r38 M => if r38 = 0 then (xbind (f_D_isDigit r35 M) fun r41 M => if r41 = 0 then (if r35 = 39 then (xbind (f_L_behindText b p1 M) fun r51 M => if r51 ≤ p1 then (f_T_scanOne_129 b p1 r35 r51 27 M) else (f_T_scanOne_129 b p1 r35 r51 25 M)) else (xbind (f_T_signAt b p1 M) fun r45 M => if r45 < 28 then xbind (f_JS_length r45 M) fun r47 M => xbind (f_T_put b r45 p1 (p1 + r47) M) fun r49 M => some ((), M) else none)) else (xbind (f_L_behindNumber b p1 M) fun r54 M => xbind (f_T_put b 24 p1 r54 M) fun r56 M => some ((), M))) else (xbind (f_L_behindWord b p1 M) fun r58 M => xbind (f_L_octets b p1 r58 M) fun r60 M => xbind (f_D_keywordOf r60 M) fun r62 M => if r62 < 28 then xbind (f_T_put b r62 p1 r58 M) fun r64 M => xbind (f_T_noteWord b M) fun r66 M => some ((), M) else none)) else (xbind (f_T_put b 26 p1 p1 M) fun r68 M => some ((), M)))
set_option maxRecDepth 100000 in
set_option maxHeartbeats 400000 in
theorem s_T_scanOne_129 {p : Program} {l : Launch} {e : Env} {R : Room} {s : State} {m : MethodId} {args : Array Value} {below : List Frame} {meth : Method} {c : Code} {G : xG} {Y : xY} {sz : Nat} {b : Nat} {p1 : Int32}  (hc : xC p s m args meth c G 4 c_T_scanOne y_T_scanOne.cls none) (hR : xRm R 6) (hb : xRd Y b) {M' : xMem} {r : Unit} (v2 : Int32) (v3 : Int32) (w1 : Nat) (M : xMem) (hf : f_T_scanOne_129 b p1 v2 v3 w1 M = some (r, M')) : xW p l e R s m args below meth c G 4 (MQ below (xQc G none (xo G Y M') sz) args s 0 0 (xA G)) (xo G Y M) sz 0 0 129 [some (.ref (b + 2)), some (.int p1), some (.int v2), some (.int v3)] [.ref (gE G w1), .ref (b + 2)] := by
  unfold f_T_scanOne_129 at hf
  by_cases htw1 : w1 < 28
  case neg => rw [if_neg htw1] at hf; cases hf
  rw [if_pos htw1] at hf
  refine x_iload_n hc (xd dk_T_scanOne 64 rfl) rfl rfl ?_
  refine x_iload_n hc (xd dk_T_scanOne 65 rfl) rfl rfl ?_
  obtain ⟨r33, M, e34, hf⟩ := xbind_some hf
  refine x_callV hc (As := [.ref (gE G w1), .int p1, .int v3]) (n := 3) (s_T_put hb e34) (c_T hb _) rfl (hR.call (by decide) (by decide)) ⟨by decide, by decide, by decide⟩ rfl rfl xw315 xw4 xw312 xw314 xs_T_put (Nat.le_of_ble_eq_true rfl) ⟨Nat.zero_le _, Nat.zero_le _⟩ (xd dk_T_scanOne 66 rfl) ?_
  refine x_goto hc (tgt := 158) (xd dk_T_scanOne 67 rfl) rfl ?_
  cases hf
  exact x_return hc (xd dk_T_scanOne 81 rfl)
set_option maxRecDepth 100000 in
set_option maxHeartbeats 400000 in
theorem s_T_scanOne {l : Launch} {G : xG} {Y : xY} {sz : Nat} {b : Nat} {p1 : Int32}  (hb : xRd Y b) {M M' : xMem} {r : Unit} (hf : f_T_scanOne b p1 M = some (r, M')) : xM l G y_T_scanOne c_T_scanOne 4 none 6 0 0 [.ref (b + 2), .int p1] (xo G Y M) sz none (xo G Y M') sz := by
  unfold f_T_scanOne at hf
  refine xM.of (k := 2) (L0 := [some (.ref (b + 2)), some (.int p1), none, none]) (by decide) (Nat.le_of_ble_eq_true rfl) rfl ?_
  intro p e s m args below meth c hc hnm
  have hR : xRm { frames := 6, cells := 0, slots := 0, locals := 48 * 6 } 6 := ⟨Nat.le_refl _, Nat.le_refl _⟩
  refine x_aload_n hc (xd dk_T_scanOne 0 rfl) rfl rfl ?_
  refine x_get hc (ci := 3) (k := 0) fi_T (c_T hb _) rfl (by decide) rfl xw79 rfl (xd dk_T_scanOne 1 rfl) ?_
  refine x_iload_n hc (xd dk_T_scanOne 2 rfl) rfl rfl ?_
  obtain ⟨r35, M, e36, hf⟩ := xbind_some hf
  refine x_callV hc (As := [.int p1]) (n := 1) (s_L_at hb.L e36) (c_L hb.L _) rfl (hR.call (by decide) (by decide)) ⟨by decide, by decide, by decide⟩ rfl rfl xw301 xw2 xw309 xw299 xw300 (Nat.le_of_ble_eq_true rfl) ⟨Nat.zero_le _, Nat.zero_le _⟩ (xd dk_T_scanOne 3 rfl) ?_
  refine x_istore_n hc (xd dk_T_scanOne 4 rfl) (by decide) rfl ?_
  refine x_iload_n hc (xd dk_T_scanOne 5 rfl) rfl rfl ?_
  refine x_aload_n hc (xd dk_T_scanOne 6 rfl) rfl rfl ?_
  refine x_get hc (ci := 3) (k := 0) fi_T (c_T hb _) rfl (by decide) rfl xw79 rfl (xd dk_T_scanOne 7 rfl) ?_
  refine x_getN hc (ci := 1) (k := 1) fi_L (c_L hb.L _) rfl (by decide) rfl xn43 rfl (xd dk_T_scanOne 8 rfl) ?_
  refine x_icmp_lt hc (tgt := 32) (xd dk_T_scanOne 9 rfl) rfl (fun q37 => ?_) (fun q37 => ?_)
  · rw [if_pos q37] at hf
    refine x_iload_n hc (xd dk_T_scanOne 16 rfl) rfl rfl ?_
    obtain ⟨r38, M, e39, hf⟩ := xbind_some hf
    refine x_callSN hc (As := [.int r35]) (n := 1) (s_D_isSmall e39) (hR.call (by decide) (by decide)) ⟨by decide, by decide, by decide⟩ rfl rfl xw318 xw1 xn316 xw317 (Nat.le_of_ble_eq_true rfl) ⟨Nat.zero_le _, Nat.zero_le _⟩ (xd dk_T_scanOne 17 rfl) ?_
    refine x_if_eq hc (tgt := 73) (xd dk_T_scanOne 18 rfl) rfl (fun q40 => ?_) (fun q40 => ?_)
    · rw [if_pos q40] at hf
      refine x_iload_n hc (xd dk_T_scanOne 37 rfl) rfl rfl ?_
      obtain ⟨r41, M, e42, hf⟩ := xbind_some hf
      refine x_callSN hc (As := [.int r35]) (n := 1) (s_D_isDigit e42) (hR.call (by decide) (by decide)) ⟨by decide, by decide, by decide⟩ rfl rfl xw326 xw1 xn346 xw325 (Nat.le_of_ble_eq_true rfl) ⟨Nat.zero_le _, Nat.zero_le _⟩ (xd dk_T_scanOne 38 rfl) ?_
      refine x_if_eq hc (tgt := 99) (xd dk_T_scanOne 39 rfl) rfl (fun q43 => ?_) (fun q43 => ?_)
      · rw [if_pos q43] at hf
        refine x_iload_n hc (xd dk_T_scanOne 49 rfl) rfl rfl ?_
        refine x_bipush hc (v := 39) (xd dk_T_scanOne 50 rfl) (by decide) ?_
        refine x_icmp_ne hc (tgt := 137) (xd dk_T_scanOne 51 rfl) rfl (fun q44 => ?_) (fun q44 => ?_)
        · rw [if_neg q44] at hf
          refine x_aload_n hc (xd dk_T_scanOne 68 rfl) rfl rfl ?_
          refine x_iload_n hc (xd dk_T_scanOne 69 rfl) rfl rfl ?_
          obtain ⟨r45, M, e46, hf⟩ := xbind_some hf
          refine x_callV hc (As := [.int p1]) (n := 1) (s_T_signAt hb e46) (c_T hb _) rfl (hR.call (by decide) (by decide)) ⟨by decide, by decide, by decide⟩ rfl rfl xw364 xw4 xw361 xw363 xs_T_signAt (Nat.le_of_ble_eq_true rfl) ⟨Nat.zero_le _, Nat.zero_le _⟩ (xd dk_T_scanOne 70 rfl) ?_
          by_cases htr45 : r45 < 28
          case neg => rw [if_neg htr45] at hf; cases hf
          rw [if_pos htr45] at hf
          refine x_astore_n hc (xd dk_T_scanOne 71 rfl) (by decide) rfl ?_
          refine x_aload_n hc (xd dk_T_scanOne 72 rfl) rfl rfl ?_
          refine x_aload_n hc (xd dk_T_scanOne 73 rfl) rfl rfl ?_
          refine x_iload_n hc (xd dk_T_scanOne 74 rfl) rfl rfl ?_
          refine x_iload_n hc (xd dk_T_scanOne 75 rfl) rfl rfl ?_
          refine x_aload_n hc (xd dk_T_scanOne 76 rfl) rfl rfl ?_
          refine x_getON hc ((hc.tk htr45).2.2.2.1) xn1439 (xd dk_T_scanOne 77 rfl) ?_
          obtain ⟨r47, M, e48, hf⟩ := xbind_some hf
          refine x_callVO hc (As := []) (n := 0) (s_JS_length e48) ((hc.tk htr45).2.2.2.2.2.2.2.1) (hR.call (by decide) (by decide)) ⟨by decide, by decide, by decide⟩ rfl rfl xw373 xw13 xw418 xw371 xw372 (Nat.le_of_ble_eq_true rfl) ⟨Nat.zero_le _, Nat.zero_le _⟩ (xd dk_T_scanOne 78 rfl) ?_
          refine x_iadd hc (xd dk_T_scanOne 79 rfl) ?_
          obtain ⟨r49, M, e50, hf⟩ := xbind_some hf
          refine x_callV hc (As := [.ref (gE G r45), .int p1, .int ((p1 + r47))]) (n := 3) (s_T_put hb e50) (c_T hb _) rfl (hR.call (by decide) (by decide)) ⟨by decide, by decide, by decide⟩ rfl rfl xw315 xw4 xw312 xw314 xs_T_put (Nat.le_of_ble_eq_true rfl) ⟨Nat.zero_le _, Nat.zero_le _⟩ (xd dk_T_scanOne 80 rfl) ?_
          cases hf
          exact x_return hc (xd dk_T_scanOne 81 rfl)
        · rw [if_pos q44] at hf
          refine x_aload_n hc (xd dk_T_scanOne 52 rfl) rfl rfl ?_
          refine x_get hc (ci := 3) (k := 0) fi_T (c_T hb _) rfl (by decide) rfl xw79 rfl (xd dk_T_scanOne 53 rfl) ?_
          refine x_iload_n hc (xd dk_T_scanOne 54 rfl) rfl rfl ?_
          obtain ⟨r51, M, e52, hf⟩ := xbind_some hf
          refine x_callV hc (As := [.int p1]) (n := 1) (s_L_behindText hb.L e52) (c_L hb.L _) rfl (hR.call (by decide) (by decide)) ⟨by decide, by decide, by decide⟩ rfl rfl xw356 xw2 xw353 xw354 xw355 (Nat.le_of_ble_eq_true rfl) ⟨Nat.zero_le _, Nat.zero_le _⟩ (xd dk_T_scanOne 55 rfl) ?_
          refine x_istore_n hc (xd dk_T_scanOne 56 rfl) (by decide) rfl ?_
          refine x_aload_n hc (xd dk_T_scanOne 57 rfl) rfl rfl ?_
          refine x_iload_n hc (xd dk_T_scanOne 58 rfl) rfl rfl ?_
          refine x_iload_n hc (xd dk_T_scanOne 59 rfl) rfl rfl ?_
          refine x_icmp_le hc (tgt := 126) (xd dk_T_scanOne 60 rfl) rfl (fun q53 => ?_) (fun q53 => ?_)
          · rw [if_pos q53] at hf
            refine x_getsK hc 27 (by decide) xw359 (xd dk_T_scanOne 63 rfl) ?_
            exact s_T_scanOne_129 hc hR hb r35 r51 27 M hf
          · rw [if_neg q53] at hf
            refine x_getsK hc 25 (by decide) xw357 (xd dk_T_scanOne 61 rfl) ?_
            refine x_goto hc (tgt := 129) (xd dk_T_scanOne 62 rfl) rfl ?_
            exact s_T_scanOne_129 hc hR hb r35 r51 25 M hf
      · rw [if_neg q43] at hf
        refine x_aload_n hc (xd dk_T_scanOne 40 rfl) rfl rfl ?_
        refine x_getsK hc 24 (by decide) xw347 (xd dk_T_scanOne 41 rfl) ?_
        refine x_iload_n hc (xd dk_T_scanOne 42 rfl) rfl rfl ?_
        refine x_aload_n hc (xd dk_T_scanOne 43 rfl) rfl rfl ?_
        refine x_get hc (ci := 3) (k := 0) fi_T (c_T hb _) rfl (by decide) rfl xw79 rfl (xd dk_T_scanOne 44 rfl) ?_
        refine x_iload_n hc (xd dk_T_scanOne 45 rfl) rfl rfl ?_
        obtain ⟨r54, M, e55, hf⟩ := xbind_some hf
        refine x_callV hc (As := [.int p1]) (n := 1) (s_L_behindNumber hb.L e55) (c_L hb.L _) rfl (hR.call (by decide) (by decide)) ⟨by decide, by decide, by decide⟩ rfl rfl xw352 xw2 xw349 xw350 xw351 (Nat.le_of_ble_eq_true rfl) ⟨Nat.zero_le _, Nat.zero_le _⟩ (xd dk_T_scanOne 46 rfl) ?_
        obtain ⟨r56, M, e57, hf⟩ := xbind_some hf
        refine x_callV hc (As := [.ref (gE G 24), .int p1, .int r54]) (n := 3) (s_T_put hb e57) (c_T hb _) rfl (hR.call (by decide) (by decide)) ⟨by decide, by decide, by decide⟩ rfl rfl xw315 xw4 xw312 xw314 xs_T_put (Nat.le_of_ble_eq_true rfl) ⟨Nat.zero_le _, Nat.zero_le _⟩ (xd dk_T_scanOne 47 rfl) ?_
        refine x_goto hc (tgt := 158) (xd dk_T_scanOne 48 rfl) rfl ?_
        cases hf
        exact x_return hc (xd dk_T_scanOne 81 rfl)
    · rw [if_neg q40] at hf
      refine x_aload_n hc (xd dk_T_scanOne 19 rfl) rfl rfl ?_
      refine x_get hc (ci := 3) (k := 0) fi_T (c_T hb _) rfl (by decide) rfl xw79 rfl (xd dk_T_scanOne 20 rfl) ?_
      refine x_iload_n hc (xd dk_T_scanOne 21 rfl) rfl rfl ?_
      obtain ⟨r58, M, e59, hf⟩ := xbind_some hf
      refine x_callV hc (As := [.int p1]) (n := 1) (s_L_behindWord hb.L e59) (c_L hb.L _) rfl (hR.call (by decide) (by decide)) ⟨by decide, by decide, by decide⟩ rfl rfl xw322 xw2 xw319 xw320 xw321 (Nat.le_of_ble_eq_true rfl) ⟨Nat.zero_le _, Nat.zero_le _⟩ (xd dk_T_scanOne 22 rfl) ?_
      refine x_istore_n hc (xd dk_T_scanOne 23 rfl) (by decide) rfl ?_
      refine x_aload_n hc (xd dk_T_scanOne 24 rfl) rfl rfl ?_
      refine x_aload_n hc (xd dk_T_scanOne 25 rfl) rfl rfl ?_
      refine x_get hc (ci := 3) (k := 0) fi_T (c_T hb _) rfl (by decide) rfl xw79 rfl (xd dk_T_scanOne 26 rfl) ?_
      refine x_iload_n hc (xd dk_T_scanOne 27 rfl) rfl rfl ?_
      refine x_iload_n hc (xd dk_T_scanOne 28 rfl) rfl rfl ?_
      obtain ⟨r60, M, e61, hf⟩ := xbind_some hf
      refine x_callV hc (As := [.int p1, .int r58]) (n := 2) (s_L_octets hb.L e61) (c_L hb.L _) rfl (hR.call (by decide) (by decide)) ⟨by decide, by decide, by decide⟩ rfl rfl xw330 xw2 xw327 xw328 xw329 (Nat.le_of_ble_eq_true rfl) ⟨Nat.zero_le _, Nat.zero_le _⟩ (xd dk_T_scanOne 29 rfl) ?_
      obtain ⟨r62, M, e63, hf⟩ := xbind_some hf
      refine x_callSN hc (As := [.long (r60)]) (n := 1) (s_D_keywordOf e63) (hR.call (by decide) (by decide)) ⟨by decide, by decide, by decide⟩ rfl rfl xw333 xw1 xn331 xw332 (Nat.le_of_ble_eq_true rfl) ⟨Nat.zero_le _, Nat.zero_le _⟩ (xd dk_T_scanOne 30 rfl) ?_
      by_cases htr62 : r62 < 28
      case neg => rw [if_neg htr62] at hf; cases hf
      rw [if_pos htr62] at hf
      refine x_iload_n hc (xd dk_T_scanOne 31 rfl) rfl rfl ?_
      refine x_iload_n hc (xd dk_T_scanOne 32 rfl) rfl rfl ?_
      obtain ⟨r64, M, e65, hf⟩ := xbind_some hf
      refine x_callV hc (As := [.ref (gE G r62), .int p1, .int r58]) (n := 3) (s_T_put hb e65) (c_T hb _) rfl (hR.call (by decide) (by decide)) ⟨by decide, by decide, by decide⟩ rfl rfl xw315 xw4 xw312 xw314 xs_T_put (Nat.le_of_ble_eq_true rfl) ⟨Nat.zero_le _, Nat.zero_le _⟩ (xd dk_T_scanOne 33 rfl) ?_
      refine x_aload_n hc (xd dk_T_scanOne 34 rfl) rfl rfl ?_
      obtain ⟨r66, M, e67, hf⟩ := xbind_some hf
      refine x_callV hc (As := []) (n := 0) (s_T_noteWord hb e67) (c_T hb _) rfl (hR.call (by decide) (by decide)) ⟨by decide, by decide, by decide⟩ rfl rfl xw341 xw4 xw338 xw340 xs_T_noteWord (Nat.le_of_ble_eq_true rfl) ⟨Nat.zero_le _, Nat.zero_le _⟩ (xd dk_T_scanOne 35 rfl) ?_
      refine x_goto hc (tgt := 158) (xd dk_T_scanOne 36 rfl) rfl ?_
      cases hf
      exact x_return hc (xd dk_T_scanOne 81 rfl)
  · rw [if_neg q37] at hf
    refine x_aload_n hc (xd dk_T_scanOne 10 rfl) rfl rfl ?_
    refine x_getsK hc 26 (by decide) xw310 (xd dk_T_scanOne 11 rfl) ?_
    refine x_iload_n hc (xd dk_T_scanOne 12 rfl) rfl rfl ?_
    refine x_iload_n hc (xd dk_T_scanOne 13 rfl) rfl rfl ?_
    obtain ⟨r68, M, e69, hf⟩ := xbind_some hf
    refine x_callV hc (As := [.ref (gE G 26), .int p1, .int p1]) (n := 3) (s_T_put hb e69) (c_T hb _) rfl (hR.call (by decide) (by decide)) ⟨by decide, by decide, by decide⟩ rfl rfl xw315 xw4 xw312 xw314 xs_T_put (Nat.le_of_ble_eq_true rfl) ⟨Nat.zero_le _, Nat.zero_le _⟩ (xd dk_T_scanOne 14 rfl) ?_
    refine x_goto hc (tgt := 158) (xd dk_T_scanOne 15 rfl) rfl ?_
    cases hf
    exact x_return hc (xd dk_T_scanOne 81 rfl)
def f_T_scan_97 (b : Nat) (v1 : Int32) (v2 : Int32) (w1 : Nat) (M : xMem) : Option (Unit × xMem) :=
  (if w1 < 28 then xbind (f_T_put b w1 v1 v1 M) fun r14 M => some ((), M) else none)
def f_T_scan_16 (b : Nat) : Nat → Int32 → Int32 → xMem → Option (Unit × xMem)
  | 0, _, _, _ => none
  | n + 1, v1, v2, M =>
    (if 60 ≤ v2 then (if M.1 b 1 ≤ v1 then (f_T_scan_97 b v1 v2 26 M) else (f_T_scan_97 b v1 v2 27 M)) else (xbind (f_T_scanOne b v1 M) fun r18 M => if xin (M.1 (b + 2) 6) 61 = true then xtok (M.2.2.1 (b + 3) (M.1 (b + 2) 6).toNatClampNeg) fun o20 => xbind (f_T_isClosing o20 M) fun r22 M => if r22 = 0 then (if xin (M.1 (b + 2) 6) 61 = true then xval (M.1 (b + 5) (M.1 (b + 2) 6).toNatClampNeg) fun x26 => xbind (f_L_behindBlanks b x26 M) fun r27 M => xval ((M.1 (b + 2) 6) + 1) fun x29 => xlet (wI M (b + 2) 6 x29) fun M => f_T_scan_16 b n r27 (v2 + Int32.ofInt 1) M else none) else (some ((), M)) else none))
def f_T_scan (b : Nat) (M : xMem) : Option (Unit × xMem) :=
  (xlet (wI M (b + 2) 6 0) fun M => xbind (f_L_behindBlanks b 0 M) fun r30 M => f_T_scan_16 b xFuel r30 0 M)
set_option maxRecDepth 100000 in
set_option maxHeartbeats 400000 in
theorem s_T_scan_97 {p : Program} {l : Launch} {e : Env} {R : Room} {s : State} {m : MethodId} {args : Array Value} {below : List Frame} {meth : Method} {c : Code} {G : xG} {Y : xY} {sz : Nat} {b : Nat}  (hc : xC p s m args meth c G 3 c_T_scan y_T_scan.cls none) (hR : xRm R 7) (hb : xRd Y b) {M' : xMem} {r : Unit} (v1 : Int32) (v2 : Int32) (w1 : Nat) (M : xMem) (hf : f_T_scan_97 b v1 v2 w1 M = some (r, M')) : xW p l e R s m args below meth c G 3 (MQ below (xQc G none (xo G Y M') sz) args s 0 0 (xA G)) (xo G Y M) sz 0 0 97 [some (.ref (b + 2)), some (.int v1), some (.int v2)] [.ref (gE G w1), .ref (b + 2)] := by
  unfold f_T_scan_97 at hf
  by_cases htw1 : w1 < 28
  case neg => rw [if_neg htw1] at hf; cases hf
  rw [if_pos htw1] at hf
  refine x_iload_n hc (xd dk_T_scan 50 rfl) rfl rfl ?_
  refine x_iload_n hc (xd dk_T_scan 51 rfl) rfl rfl ?_
  obtain ⟨r14, M, e15, hf⟩ := xbind_some hf
  refine x_callV hc (As := [.ref (gE G w1), .int v1, .int v1]) (n := 3) (s_T_put hb e15) (c_T hb _) rfl (hR.call (by decide) (by decide)) ⟨by decide, by decide, by decide⟩ rfl rfl xw315 xw4 xw312 xw314 xs_T_put (Nat.le_of_ble_eq_true rfl) ⟨Nat.zero_le _, Nat.zero_le _⟩ (xd dk_T_scan 52 rfl) ?_
  cases hf
  exact x_return hc (xd dk_T_scan 53 rfl)
set_option maxRecDepth 100000 in
set_option maxHeartbeats 400000 in
theorem s_T_scan_16 {p : Program} {l : Launch} {e : Env} {R : Room} {s : State} {m : MethodId} {args : Array Value} {below : List Frame} {meth : Method} {c : Code} {G : xG} {Y : xY} {sz : Nat} {b : Nat}  (hc : xC p s m args meth c G 3 c_T_scan y_T_scan.cls none) (hR : xRm R 7) (hb : xRd Y b) {M' : xMem} {r : Unit} : ∀ (n : Nat) (v1 : Int32) (v2 : Int32) (M : xMem), f_T_scan_16 b n v1 v2 M = some (r, M') → xW p l e R s m args below meth c G 3 (MQ below (xQc G none (xo G Y M') sz) args s 0 0 (xA G)) (xo G Y M) sz 0 0 16 [some (.ref (b + 2)), some (.int v1), some (.int v2)] [] := by
  intro n
  induction n with
  | zero => intro v1 v2 M hf; simp only [f_T_scan_16] at hf; cases hf
  | succ n ih =>
    intro v1 v2 M hf
    simp only [f_T_scan_16] at hf
    refine x_iload_n hc (xd dk_T_scan 10 rfl) rfl rfl ?_
    refine x_bipush hc (v := 60) (xd dk_T_scan 11 rfl) (by decide) ?_
    refine x_icmp_ge hc (tgt := 76) (xd dk_T_scan 12 rfl) rfl (fun q16 => ?_) (fun q16 => ?_)
    · rw [if_pos q16] at hf
      refine x_aload_n hc (xd dk_T_scan 41 rfl) rfl rfl ?_
      refine x_iload_n hc (xd dk_T_scan 42 rfl) rfl rfl ?_
      refine x_aload_n hc (xd dk_T_scan 43 rfl) rfl rfl ?_
      refine x_get hc (ci := 3) (k := 0) fi_T (c_T hb _) rfl (by decide) rfl xw79 rfl (xd dk_T_scan 44 rfl) ?_
      refine x_getN hc (ci := 1) (k := 1) fi_L (c_L hb.L _) rfl (by decide) rfl xn43 rfl (xd dk_T_scan 45 rfl) ?_
      refine x_icmp_ge hc (tgt := 94) (xd dk_T_scan 46 rfl) rfl (fun q17 => ?_) (fun q17 => ?_)
      · rw [if_pos q17] at hf
        refine x_getsK hc 26 (by decide) xw310 (xd dk_T_scan 49 rfl) ?_
        exact s_T_scan_97 hc hR hb v1 v2 26 M hf
      · rw [if_neg q17] at hf
        refine x_getsK hc 27 (by decide) xw359 (xd dk_T_scan 47 rfl) ?_
        refine x_goto hc (tgt := 97) (xd dk_T_scan 48 rfl) rfl ?_
        exact s_T_scan_97 hc hR hb v1 v2 27 M hf
    · rw [if_neg q16] at hf
      refine x_aload_n hc (xd dk_T_scan 13 rfl) rfl rfl ?_
      refine x_iload_n hc (xd dk_T_scan 14 rfl) rfl rfl ?_
      obtain ⟨r18, M, e19, hf⟩ := xbind_some hf
      refine x_callV hc (As := [.int v1]) (n := 1) (s_T_scanOne hb e19) (c_T hb _) rfl (hR.call (by decide) (by decide)) ⟨by decide, by decide, by decide⟩ rfl rfl xw308 xw4 xw305 xw307 xs_T_scanOne (Nat.le_of_ble_eq_true rfl) ⟨Nat.zero_le _, Nat.zero_le _⟩ (xd dk_T_scan 15 rfl) ?_
      refine x_aload_n hc (xd dk_T_scan 16 rfl) rfl rfl ?_
      refine x_get hc (ci := 3) (k := 1) fi_T (c_T hb _) rfl (by decide) rfl xw80 rfl (xd dk_T_scan 17 rfl) ?_
      refine x_aload_n hc (xd dk_T_scan 18 rfl) rfl rfl ?_
      refine x_get hc (ci := 3) (k := 6) fi_T (c_T hb _) rfl (by decide) rfl xw85 rfl (xd dk_T_scan 19 rfl) ?_
      by_cases q21 : xin (M.1 (b + 2) 6) 61 = true
      case neg => rw [if_neg q21] at hf; cases hf
      rw [if_pos q21] at hf
      obtain ⟨o20, eo20, hto20, hf⟩ := xtok_some hf
      refine x_kald hc (hb.k 3 (by decide)) (xin_in q21) eo20 (xd dk_T_scan 20 rfl) ?_
      obtain ⟨r22, M, e23, hf⟩ := xbind_some hf
      refine x_callS hc (As := [.ref (gE G o20)]) (n := 1) (s_T_isClosing e23) (hR.call (by decide) (by decide)) ⟨by decide, by decide, by decide⟩ rfl rfl xw421 xw4 xw419 xw420 (Nat.le_of_ble_eq_true rfl) ⟨Nat.zero_le _, Nat.zero_le _⟩ (xd dk_T_scan 21 rfl) ?_
      refine x_if_eq hc (tgt := 43) (xd dk_T_scan 22 rfl) rfl (fun q24 => ?_) (fun q24 => ?_)
      · rw [if_pos q24] at hf
        refine x_aload_n hc (xd dk_T_scan 24 rfl) rfl rfl ?_
        refine x_get hc (ci := 3) (k := 0) fi_T (c_T hb _) rfl (by decide) rfl xw79 rfl (xd dk_T_scan 25 rfl) ?_
        refine x_aload_n hc (xd dk_T_scan 26 rfl) rfl rfl ?_
        refine x_get hc (ci := 3) (k := 3) fi_T (c_T hb _) rfl (by decide) rfl xw82 rfl (xd dk_T_scan 27 rfl) ?_
        refine x_aload_n hc (xd dk_T_scan 28 rfl) rfl rfl ?_
        refine x_get hc (ci := 3) (k := 6) fi_T (c_T hb _) rfl (by decide) rfl xw85 rfl (xd dk_T_scan 29 rfl) ?_
        by_cases q25 : xin (M.1 (b + 2) 6) 61 = true
        case neg => rw [if_neg q25] at hf; cases hf
        rw [if_pos q25] at hf
        refine x_iald hc (cA (xRd.ar hb 5 (by decide) rfl)) (xin_in q25) (xd dk_T_scan 30 rfl) ?_
        obtain ⟨x26, hx26, hf⟩ := xval_ex hf
        rw [← hx26]
        obtain ⟨r27, M, e28, hf⟩ := xbind_some hf
        refine x_callV hc (As := [.int x26]) (n := 1) (s_L_behindBlanks hb.L e28) (c_L hb.L _) rfl (hR.call (by decide) (by decide)) ⟨by decide, by decide, by decide⟩ rfl rfl xw297 xw2 xw294 xw295 xw296 (Nat.le_of_ble_eq_true rfl) ⟨Nat.zero_le _, Nat.zero_le _⟩ (xd dk_T_scan 31 rfl) ?_
        refine x_istore_n hc (xd dk_T_scan 32 rfl) (by decide) rfl ?_
        refine x_aload_n hc (xd dk_T_scan 33 rfl) rfl rfl ?_
        refine x_dup hc (xd dk_T_scan 34 rfl) rfl ?_
        refine x_get hc (ci := 3) (k := 6) fi_T (c_T hb _) rfl (by decide) rfl xw85 rfl (xd dk_T_scan 35 rfl) ?_
        refine x_iconst hc (v := 1) (xd dk_T_scan 36 rfl) (by decide) ?_
        refine x_iadd hc (xd dk_T_scan 37 rfl) ?_
        obtain ⟨x29, hx29, hf⟩ := xval_ex hf
        rw [← hx29]
        refine x_put hc (ci := 3) (k := 6) fi_T ft_T ft_T_ok fn_T (c_T hb _) rfl (by decide) rfl xw85 rfl rfl rfl (Nat.le_of_ble_eq_true rfl) (xd dk_T_scan 38 rfl) ?_
        rw [w_T_6 hb]
        replace hf := xlet_some hf
        generalize wI M (b + 2) 6 x29 = M at hf ⊢
        refine x_iinc hc (xd dk_T_scan 39 rfl) rfl (by decide) rfl ?_
        refine x_goto hc (tgt := 16) (xd dk_T_scan 40 rfl) rfl ?_
        exact ih r27 (v2 + Int32.ofInt 1) M hf
      · rw [if_neg q24] at hf
        cases hf
        exact x_return hc (xd dk_T_scan 23 rfl)
set_option maxRecDepth 100000 in
set_option maxHeartbeats 400000 in
theorem s_T_scan {l : Launch} {G : xG} {Y : xY} {sz : Nat} {b : Nat}  (hb : xRd Y b) {M M' : xMem} {r : Unit} (hf : f_T_scan b M = some (r, M')) : xM l G y_T_scan c_T_scan 3 none 7 0 0 [.ref (b + 2)] (xo G Y M) sz none (xo G Y M') sz := by
  unfold f_T_scan at hf
  refine xM.of (k := 2) (L0 := [some (.ref (b + 2)), none, none]) (by decide) (Nat.le_of_ble_eq_true rfl) rfl ?_
  intro p e s m args below meth c hc hnm
  have hR : xRm { frames := 7, cells := 0, slots := 0, locals := 48 * 7 } 7 := ⟨Nat.le_refl _, Nat.le_refl _⟩
  refine x_aload_n hc (xd dk_T_scan 0 rfl) rfl rfl ?_
  refine x_iconst hc (v := 0) (xd dk_T_scan 1 rfl) (by decide) ?_
  refine x_put hc (ci := 3) (k := 6) fi_T ft_T ft_T_ok fn_T (c_T hb _) rfl (by decide) rfl xw85 rfl rfl rfl (Nat.le_of_ble_eq_true rfl) (xd dk_T_scan 2 rfl) ?_
  rw [w_T_6 hb]
  replace hf := xlet_some hf
  generalize wI M (b + 2) 6 0 = M at hf ⊢
  refine x_aload_n hc (xd dk_T_scan 3 rfl) rfl rfl ?_
  refine x_get hc (ci := 3) (k := 0) fi_T (c_T hb _) rfl (by decide) rfl xw79 rfl (xd dk_T_scan 4 rfl) ?_
  refine x_iconst hc (v := 0) (xd dk_T_scan 5 rfl) (by decide) ?_
  obtain ⟨r30, M, e31, hf⟩ := xbind_some hf
  refine x_callV hc (As := [.int 0]) (n := 1) (s_L_behindBlanks hb.L e31) (c_L hb.L _) rfl (hR.call (by decide) (by decide)) ⟨by decide, by decide, by decide⟩ rfl rfl xw297 xw2 xw294 xw295 xw296 (Nat.le_of_ble_eq_true rfl) ⟨Nat.zero_le _, Nat.zero_le _⟩ (xd dk_T_scan 6 rfl) ?_
  refine x_istore_n hc (xd dk_T_scan 7 rfl) (by decide) rfl ?_
  refine x_iconst hc (v := 0) (xd dk_T_scan 8 rfl) (by decide) ?_
  refine x_istore_n hc (xd dk_T_scan 9 rfl) (by decide) rfl ?_
  exact s_T_scan_16 hc hR hb xFuel r30 0 M hf
def f_G_excusedIn_4 (b : Nat) (p1 : Nat) : Nat → Int32 → Int32 → xMem → Option (Int32 × xMem)
  | 0, _, _, _ => none
  | n + 1, v2, v3, M =>
    (if M.1 (p1 + 2) 6 ≤ v3 then (some (v2, M)) else (xbind (f_G_rulesAt b p1 v3 M) fun r8 M => xbind (f_M_excusedAt p1 v3 M) fun r10 M => xbind (f_JN_bitCount (r8 &&& r10) M) fun r12 M => f_G_excusedIn_4 b p1 n (v2 + r12) (v3 + Int32.ofInt 1) M))
def f_G_excusedIn (b : Nat) (p1 : Nat) (M : xMem) : Option (Int32 × xMem) :=
  (f_G_excusedIn_4 b p1 xFuel 0 0 M)
set_option maxRecDepth 100000 in
set_option maxHeartbeats 400000 in
theorem s_G_excusedIn_4 {p : Program} {l : Launch} {e : Env} {R : Room} {s : State} {m : MethodId} {args : Array Value} {below : List Frame} {meth : Method} {c : Code} {G : xG} {Y : xY} {sz : Nat} {b : Nat} {p1 : Nat}  (hc : xC p s m args meth c G 4 c_G_excusedIn y_G_excusedIn.cls (some .int)) (hR : xRm R 3) (hb : xSg Y b) (hp1 : xRd Y p1) {M' : xMem} {r : Int32} : ∀ (n : Nat) (v2 : Int32) (v3 : Int32) (M : xMem), f_G_excusedIn_4 b p1 n v2 v3 M = some (r, M') → xW p l e R s m args below meth c G 4 (MQ below (xQc G (some (.int r)) (xo G Y M') sz) args s 0 0 (xA G)) (xo G Y M) sz 0 0 4 [some (.ref b), some (.ref (p1 + 30)), some (.int v2), some (.int v3)] [] := by
  intro n
  induction n with
  | zero => intro v2 v3 M hf; simp only [f_G_excusedIn_4] at hf; cases hf
  | succ n ih =>
    intro v2 v3 M hf
    simp only [f_G_excusedIn_4] at hf
    refine x_iload_n hc (xd dk_G_excusedIn 4 rfl) rfl rfl ?_
    refine x_aload_n hc (xd dk_G_excusedIn 5 rfl) rfl rfl ?_
    refine x_getN hc (ci := 9) (k := 1) fi_R (c_R hp1 _) rfl (by decide) rfl xn260 rfl (xd dk_G_excusedIn 6 rfl) ?_
    refine x_getN hc (ci := 3) (k := 6) fi_T (c_T hp1 _) rfl (by decide) rfl xn86 rfl (xd dk_G_excusedIn 7 rfl) ?_
    refine x_icmp_ge hc (tgt := 42) (xd dk_G_excusedIn 8 rfl) rfl (fun q7 => ?_) (fun q7 => ?_)
    · rw [if_pos q7] at hf
      refine x_iload_n hc (xd dk_G_excusedIn 24 rfl) rfl rfl ?_
      cases hf
      exact x_ireturn hc (xd dk_G_excusedIn 25 rfl)
    · rw [if_neg q7] at hf
      refine x_iload_n hc (xd dk_G_excusedIn 9 rfl) rfl rfl ?_
      refine x_aload_n hc (xd dk_G_excusedIn 10 rfl) rfl rfl ?_
      refine x_aload_n hc (xd dk_G_excusedIn 11 rfl) rfl rfl ?_
      refine x_iload_n hc (xd dk_G_excusedIn 12 rfl) rfl rfl ?_
      obtain ⟨r8, M, e9, hf⟩ := xbind_some hf
      refine x_callV hc (As := [.ref (p1 + 30), .int v3]) (n := 2) (s_G_rulesAt hb hp1 e9) (c_G hb _) rfl (hR.call (by decide) (by decide)) ⟨by decide, by decide, by decide⟩ rfl rfl xw730 xw3 xw727 xw729 xs_G_rulesAt (Nat.le_of_ble_eq_true rfl) ⟨Nat.zero_le _, Nat.zero_le _⟩ (xd dk_G_excusedIn 13 rfl) ?_
      refine x_aload_n hc (xd dk_G_excusedIn 14 rfl) rfl rfl ?_
      refine x_getN hc (ci := 9) (k := 4) fi_R (c_R hp1 _) rfl (by decide) rfl xn267 rfl (xd dk_G_excusedIn 15 rfl) ?_
      refine x_iload_n hc (xd dk_G_excusedIn 16 rfl) rfl rfl ?_
      obtain ⟨r10, M, e11, hf⟩ := xbind_some hf
      refine x_callV hc (As := [.int v3]) (n := 1) (s_M_excusedAt hp1 e11) (c_M hp1 _) rfl (hR.call (by decide) (by decide)) ⟨by decide, by decide, by decide⟩ rfl rfl xw746 xw7 xw743 xw744 xw745 (Nat.le_of_ble_eq_true rfl) ⟨Nat.zero_le _, Nat.zero_le _⟩ (xd dk_G_excusedIn 17 rfl) ?_
      refine x_iand hc (xd dk_G_excusedIn 18 rfl) ?_
      obtain ⟨r12, M, e13, hf⟩ := xbind_some hf
      refine x_callS hc (As := [.int ((r8 &&& r10))]) (n := 1) (s_JN_bitCount e13) (hR.call (by decide) (by decide)) ⟨by decide, by decide, by decide⟩ rfl rfl xw914 xw24 xw912 xw913 (Nat.le_of_ble_eq_true rfl) ⟨Nat.zero_le _, Nat.zero_le _⟩ (xd dk_G_excusedIn 19 rfl) ?_
      refine x_iadd hc (xd dk_G_excusedIn 20 rfl) ?_
      refine x_istore_n hc (xd dk_G_excusedIn 21 rfl) (by decide) rfl ?_
      refine x_iinc hc (xd dk_G_excusedIn 22 rfl) rfl (by decide) rfl ?_
      refine x_goto hc (tgt := 4) (xd dk_G_excusedIn 23 rfl) rfl ?_
      exact ih (v2 + r12) (v3 + Int32.ofInt 1) M hf
set_option maxRecDepth 100000 in
set_option maxHeartbeats 400000 in
theorem s_G_excusedIn {l : Launch} {G : xG} {Y : xY} {sz : Nat} {b : Nat} {p1 : Nat}  (hb : xSg Y b) (hp1 : xRd Y p1) {M M' : xMem} {r : Int32} (hf : f_G_excusedIn b p1 M = some (r, M')) : xM l G y_G_excusedIn c_G_excusedIn 4 (some .int) 3 0 0 [.ref b, .ref (p1 + 30)] (xo G Y M) sz (some (.int r)) (xo G Y M') sz := by
  unfold f_G_excusedIn at hf
  refine xM.of (k := 2) (L0 := [some (.ref b), some (.ref (p1 + 30)), none, none]) (by decide) (Nat.le_of_ble_eq_true rfl) rfl ?_
  intro p e s m args below meth c hc hnm
  have hR : xRm { frames := 3, cells := 0, slots := 0, locals := 48 * 3 } 3 := ⟨Nat.le_refl _, Nat.le_refl _⟩
  refine x_iconst hc (v := 0) (xd dk_G_excusedIn 0 rfl) (by decide) ?_
  refine x_istore_n hc (xd dk_G_excusedIn 1 rfl) (by decide) rfl ?_
  refine x_iconst hc (v := 0) (xd dk_G_excusedIn 2 rfl) (by decide) ?_
  refine x_istore_n hc (xd dk_G_excusedIn 3 rfl) (by decide) rfl ?_
  exact s_G_excusedIn_4 hc hR hb hp1 xFuel 0 0 M hf
def f_G_findingsIn_4 (b : Nat) (p1 : Nat) : Nat → Int32 → Int32 → xMem → Option (Int32 × xMem)
  | 0, _, _, _ => none
  | n + 1, v2, v3, M =>
    (if M.1 (p1 + 2) 6 ≤ v3 then (some (v2, M)) else (xbind (f_G_findingsAt b p1 v3 M) fun r6 M => xbind (f_JN_bitCount r6 M) fun r8 M => f_G_findingsIn_4 b p1 n (v2 + r8) (v3 + Int32.ofInt 1) M))
def f_G_findingsIn (b : Nat) (p1 : Nat) (M : xMem) : Option (Int32 × xMem) :=
  (f_G_findingsIn_4 b p1 xFuel 0 0 M)
set_option maxRecDepth 100000 in
set_option maxHeartbeats 400000 in
theorem s_G_findingsIn_4 {p : Program} {l : Launch} {e : Env} {R : Room} {s : State} {m : MethodId} {args : Array Value} {below : List Frame} {meth : Method} {c : Code} {G : xG} {Y : xY} {sz : Nat} {b : Nat} {p1 : Nat}  (hc : xC p s m args meth c G 4 c_G_findingsIn y_G_findingsIn.cls (some .int)) (hR : xRm R 4) (hb : xSg Y b) (hp1 : xRd Y p1) {M' : xMem} {r : Int32} : ∀ (n : Nat) (v2 : Int32) (v3 : Int32) (M : xMem), f_G_findingsIn_4 b p1 n v2 v3 M = some (r, M') → xW p l e R s m args below meth c G 4 (MQ below (xQc G (some (.int r)) (xo G Y M') sz) args s 0 0 (xA G)) (xo G Y M) sz 0 0 4 [some (.ref b), some (.ref (p1 + 30)), some (.int v2), some (.int v3)] [] := by
  intro n
  induction n with
  | zero => intro v2 v3 M hf; simp only [f_G_findingsIn_4] at hf; cases hf
  | succ n ih =>
    intro v2 v3 M hf
    simp only [f_G_findingsIn_4] at hf
    refine x_iload_n hc (xd dk_G_findingsIn 4 rfl) rfl rfl ?_
    refine x_aload_n hc (xd dk_G_findingsIn 5 rfl) rfl rfl ?_
    refine x_getN hc (ci := 9) (k := 1) fi_R (c_R hp1 _) rfl (by decide) rfl xn260 rfl (xd dk_G_findingsIn 6 rfl) ?_
    refine x_getN hc (ci := 3) (k := 6) fi_T (c_T hp1 _) rfl (by decide) rfl xn86 rfl (xd dk_G_findingsIn 7 rfl) ?_
    refine x_icmp_ge hc (tgt := 33) (xd dk_G_findingsIn 8 rfl) rfl (fun q5 => ?_) (fun q5 => ?_)
    · rw [if_pos q5] at hf
      refine x_iload_n hc (xd dk_G_findingsIn 19 rfl) rfl rfl ?_
      cases hf
      exact x_ireturn hc (xd dk_G_findingsIn 20 rfl)
    · rw [if_neg q5] at hf
      refine x_iload_n hc (xd dk_G_findingsIn 9 rfl) rfl rfl ?_
      refine x_aload_n hc (xd dk_G_findingsIn 10 rfl) rfl rfl ?_
      refine x_aload_n hc (xd dk_G_findingsIn 11 rfl) rfl rfl ?_
      refine x_iload_n hc (xd dk_G_findingsIn 12 rfl) rfl rfl ?_
      obtain ⟨r6, M, e7, hf⟩ := xbind_some hf
      refine x_callV hc (As := [.ref (p1 + 30), .int v3]) (n := 2) (s_G_findingsAt hb hp1 e7) (c_G hb _) rfl (hR.call (by decide) (by decide)) ⟨by decide, by decide, by decide⟩ rfl rfl xw726 xw3 xw723 xw725 xs_G_findingsAt (Nat.le_of_ble_eq_true rfl) ⟨Nat.zero_le _, Nat.zero_le _⟩ (xd dk_G_findingsIn 13 rfl) ?_
      obtain ⟨r8, M, e9, hf⟩ := xbind_some hf
      refine x_callS hc (As := [.int r6]) (n := 1) (s_JN_bitCount e9) (hR.call (by decide) (by decide)) ⟨by decide, by decide, by decide⟩ rfl rfl xw914 xw24 xw912 xw913 (Nat.le_of_ble_eq_true rfl) ⟨Nat.zero_le _, Nat.zero_le _⟩ (xd dk_G_findingsIn 14 rfl) ?_
      refine x_iadd hc (xd dk_G_findingsIn 15 rfl) ?_
      refine x_istore_n hc (xd dk_G_findingsIn 16 rfl) (by decide) rfl ?_
      refine x_iinc hc (xd dk_G_findingsIn 17 rfl) rfl (by decide) rfl ?_
      refine x_goto hc (tgt := 4) (xd dk_G_findingsIn 18 rfl) rfl ?_
      exact ih (v2 + r8) (v3 + Int32.ofInt 1) M hf
set_option maxRecDepth 100000 in
set_option maxHeartbeats 400000 in
theorem s_G_findingsIn {l : Launch} {G : xG} {Y : xY} {sz : Nat} {b : Nat} {p1 : Nat}  (hb : xSg Y b) (hp1 : xRd Y p1) {M M' : xMem} {r : Int32} (hf : f_G_findingsIn b p1 M = some (r, M')) : xM l G y_G_findingsIn c_G_findingsIn 4 (some .int) 4 0 0 [.ref b, .ref (p1 + 30)] (xo G Y M) sz (some (.int r)) (xo G Y M') sz := by
  unfold f_G_findingsIn at hf
  refine xM.of (k := 2) (L0 := [some (.ref b), some (.ref (p1 + 30)), none, none]) (by decide) (Nat.le_of_ble_eq_true rfl) rfl ?_
  intro p e s m args below meth c hc hnm
  have hR : xRm { frames := 4, cells := 0, slots := 0, locals := 48 * 4 } 4 := ⟨Nat.le_refl _, Nat.le_refl _⟩
  refine x_iconst hc (v := 0) (xd dk_G_findingsIn 0 rfl) (by decide) ?_
  refine x_istore_n hc (xd dk_G_findingsIn 1 rfl) (by decide) rfl ?_
  refine x_iconst hc (v := 0) (xd dk_G_findingsIn 2 rfl) (by decide) ?_
  refine x_istore_n hc (xd dk_G_findingsIn 3 rfl) (by decide) rfl ?_
  exact s_G_findingsIn_4 hc hR hb hp1 xFuel 0 0 M hf
def f_D_mendedText (p0 : Int32) (M : xMem) : Option (Nat × xMem) :=
  (if p0 = 6 then (some (10, M)) else (if p0 = 7 then (some (1, M)) else (some (23, M))))
set_option maxRecDepth 100000 in
set_option maxHeartbeats 400000 in
theorem s_D_mendedText {l : Launch} {G : xG} {Y : xY} {sz : Nat} {p0 : Int32}   {M M' : xMem} {r : Nat} (hf : f_D_mendedText p0 M = some (r, M')) : xM l G y_D_mendedText c_D_mendedText 1 (some (.object "java/lang/String")) 0 0 0 [.int p0] (xo G Y M) sz (some (.ref (gK G r))) (xo G Y M') sz := by
  unfold f_D_mendedText at hf
  refine xM.of (k := 0) (L0 := [some (.int p0)]) (by decide) (Nat.le_of_ble_eq_true rfl) rfl ?_
  intro p e s m args below meth c hc hnm
  have hR : xRm { frames := 0, cells := 0, slots := 0, locals := 48 * 0 } 0 := ⟨Nat.le_refl _, Nat.le_refl _⟩
  refine x_iload_n hc (xd dk_D_mendedText 0 rfl) rfl rfl ?_
  refine x_bipush hc (v := 6) (xd dk_D_mendedText 1 rfl) (by decide) ?_
  refine x_icmp_ne hc (tgt := 10) (xd dk_D_mendedText 2 rfl) rfl (fun q1 => ?_) (fun q1 => ?_)
  · rw [if_neg q1] at hf
    refine x_iload_n hc (xd dk_D_mendedText 5 rfl) rfl rfl ?_
    refine x_bipush hc (v := 7) (xd dk_D_mendedText 6 rfl) (by decide) ?_
    refine x_icmp_ne hc (tgt := 22) (xd dk_D_mendedText 7 rfl) rfl (fun q2 => ?_) (fun q2 => ?_)
    · rw [if_neg q2] at hf
      refine x_ldcwS hc hc.F.2.2.2.2.2.2.2 (xd dk_D_mendedText 10 rfl) ?_
      cases hf
      exact x_areturn hc (xd dk_D_mendedText 11 rfl)
    · rw [if_pos q2] at hf
      refine x_ldcwS hc hc.F.2.2.2.2.2.2.1 (xd dk_D_mendedText 8 rfl) ?_
      refine x_goto hc (tgt := 25) (xd dk_D_mendedText 9 rfl) rfl ?_
      cases hf
      exact x_areturn hc (xd dk_D_mendedText 11 rfl)
  · rw [if_pos q1] at hf
    refine x_ldcwS hc hc.F.2.2.2.2.2.1 (xd dk_D_mendedText 3 rfl) ?_
    cases hf
    exact x_areturn hc (xd dk_D_mendedText 4 rfl)
def f_P_next (b : Nat) (M : xMem) : Option (Nat × xMem) :=
  (xval (M.1 (b + 29) 4) fun x3 => xbind (f_T_kindOf b x3 M) fun r4 M => if r4 < 28 then some (r4, M) else none)
set_option maxRecDepth 100000 in
set_option maxHeartbeats 400000 in
theorem s_P_next {l : Launch} {G : xG} {Y : xY} {sz : Nat} {b : Nat}  (hb : xRd Y b) {M M' : xMem} {r : Nat} (hf : f_P_next b M = some (r, M')) : xM l G y_P_next c_P_next 1 (some (.object "LintDesk$Token")) 1 0 0 [.ref (b + 29)] (xo G Y M) sz (some (.ref (gE G r))) (xo G Y M') sz := by
  unfold f_P_next at hf
  refine xM.of (k := 0) (L0 := [some (.ref (b + 29))]) (by decide) (Nat.le_of_ble_eq_true rfl) rfl ?_
  intro p e s m args below meth c hc hnm
  have hR : xRm { frames := 1, cells := 0, slots := 0, locals := 48 * 1 } 1 := ⟨Nat.le_refl _, Nat.le_refl _⟩
  refine x_aload_n hc (xd dk_P_next 0 rfl) rfl rfl ?_
  refine x_get hc (ci := 8) (k := 0) fi_P (c_P hb _) rfl (by decide) rfl xw232 rfl (xd dk_P_next 1 rfl) ?_
  refine x_aload_n hc (xd dk_P_next 2 rfl) rfl rfl ?_
  refine x_get hc (ci := 8) (k := 4) fi_P (c_P hb _) rfl (by decide) rfl xw236 rfl (xd dk_P_next 3 rfl) ?_
  obtain ⟨x3, hx3, hf⟩ := xval_ex hf
  rw [← hx3]
  obtain ⟨r4, M, e5, hf⟩ := xbind_some hf
  refine x_callV hc (As := [.int x3]) (n := 1) (s_T_kindOf hb e5) (c_T hb _) rfl (hR.call (by decide) (by decide)) ⟨by decide, by decide, by decide⟩ rfl rfl xw453 xw4 xw450 xw451 xw452 (Nat.le_of_ble_eq_true rfl) ⟨Nat.zero_le _, Nat.zero_le _⟩ (xd dk_P_next 4 rfl) ?_
  by_cases htr4 : r4 < 28
  case neg => rw [if_neg htr4] at hf; cases hf
  rw [if_pos htr4] at hf
  cases hf
  exact x_areturn hc (xd dk_P_next 5 rfl)
def f_P_take (b : Nat) (p1 : Nat) (M : xMem) : Option (Int32 × xMem) :=
  if p1 < 28 then (xval (M.1 (b + 29) 4) fun x5 => xbind (f_T_kindOf b x5 M) fun r6 M => if r6 < 28 then if r6 = p1 then (xval ((M.1 (b + 29) 4) + 1) fun x9 => xlet (wI M (b + 29) 4 x9) fun M => some (1, M)) else (some (0, M)) else none) else none
set_option maxRecDepth 100000 in
set_option maxHeartbeats 400000 in
theorem s_P_take {l : Launch} {G : xG} {Y : xY} {sz : Nat} {b : Nat} {p1 : Nat}  (hb : xRd Y b) {M M' : xMem} {r : Int32} (hf : f_P_take b p1 M = some (r, M')) : xM l G y_P_take c_P_take 2 (some .boolean) 1 0 0 [.ref (b + 29), .ref (gE G p1)] (xo G Y M) sz (some (.int r)) (xo G Y M') sz := by
  unfold f_P_take at hf
  by_cases htp1 : p1 < 28
  case neg => rw [if_neg htp1] at hf; cases hf
  rw [if_pos htp1] at hf
  refine xM.of (k := 0) (L0 := [some (.ref (b + 29)), some (.ref (gE G p1))]) (by decide) (Nat.le_of_ble_eq_true rfl) rfl ?_
  intro p e s m args below meth c hc hnm
  have hR : xRm { frames := 1, cells := 0, slots := 0, locals := 48 * 1 } 1 := ⟨Nat.le_refl _, Nat.le_refl _⟩
  refine x_aload_n hc (xd dk_P_take 0 rfl) rfl rfl ?_
  refine x_get hc (ci := 8) (k := 0) fi_P (c_P hb _) rfl (by decide) rfl xw232 rfl (xd dk_P_take 1 rfl) ?_
  refine x_aload_n hc (xd dk_P_take 2 rfl) rfl rfl ?_
  refine x_get hc (ci := 8) (k := 4) fi_P (c_P hb _) rfl (by decide) rfl xw236 rfl (xd dk_P_take 3 rfl) ?_
  obtain ⟨x5, hx5, hf⟩ := xval_ex hf
  rw [← hx5]
  obtain ⟨r6, M, e7, hf⟩ := xbind_some hf
  refine x_callV hc (As := [.int x5]) (n := 1) (s_T_kindOf hb e7) (c_T hb _) rfl (hR.call (by decide) (by decide)) ⟨by decide, by decide, by decide⟩ rfl rfl xw453 xw4 xw450 xw451 xw452 (Nat.le_of_ble_eq_true rfl) ⟨Nat.zero_le _, Nat.zero_le _⟩ (xd dk_P_take 4 rfl) ?_
  by_cases htr6 : r6 < 28
  case neg => rw [if_neg htr6] at hf; cases hf
  rw [if_pos htr6] at hf
  refine x_aload_n hc (xd dk_P_take 5 rfl) rfl rfl ?_
  refine x_tok_eq hc htr6 htp1 (tgt := 17) (xd dk_P_take 6 rfl) rfl (fun q8 => ?_) (fun q8 => ?_)
  · rw [if_pos q8] at hf
    refine x_aload_n hc (xd dk_P_take 9 rfl) rfl rfl ?_
    refine x_dup hc (xd dk_P_take 10 rfl) rfl ?_
    refine x_get hc (ci := 8) (k := 4) fi_P (c_P hb _) rfl (by decide) rfl xw236 rfl (xd dk_P_take 11 rfl) ?_
    refine x_iconst hc (v := 1) (xd dk_P_take 12 rfl) (by decide) ?_
    refine x_iadd hc (xd dk_P_take 13 rfl) ?_
    obtain ⟨x9, hx9, hf⟩ := xval_ex hf
    rw [← hx9]
    refine x_put hc (ci := 8) (k := 4) fi_P ft_P ft_P_ok fn_P (c_P hb _) rfl (by decide) rfl xw236 rfl rfl rfl (Nat.le_of_ble_eq_true rfl) (xd dk_P_take 14 rfl) ?_
    rw [w_P_4 hb]
    replace hf := xlet_some hf
    generalize wI M (b + 29) 4 x9 = M at hf ⊢
    refine x_iconst hc (v := 1) (xd dk_P_take 15 rfl) (by decide) ?_
    cases hf
    exact x_zreturn hc rfl (xd dk_P_take 16 rfl)
  · rw [if_neg q8] at hf
    refine x_iconst hc (v := 0) (xd dk_P_take 7 rfl) (by decide) ?_
    cases hf
    exact x_zreturn hc rfl (xd dk_P_take 8 rfl)
def f_P_nothing_17 (b : Nat) (p1 : Int32) (M : xMem) : Option (Int32 × xMem) :=
  (xbind (f_P_take b 20 M) fun r6 M => if xnar .boolean r6 = true then some (r6, M) else none)
def f_P_nothing (b : Nat) (p1 : Int32) (M : xMem) : Option (Int32 × xMem) :=
  (if p1 = 0 then (f_P_nothing_17 b p1 M) else (xval (M.1 (b + 29) 4) fun x10 => xbind (f_M_add b x10 9 M) fun r11 M => f_P_nothing_17 b p1 M))
set_option maxRecDepth 100000 in
set_option maxHeartbeats 400000 in
theorem s_P_nothing_17 {p : Program} {l : Launch} {e : Env} {R : Room} {s : State} {m : MethodId} {args : Array Value} {below : List Frame} {meth : Method} {c : Code} {G : xG} {Y : xY} {sz : Nat} {b : Nat} {p1 : Int32}  (hc : xC p s m args meth c G 2 c_P_nothing y_P_nothing.cls (some .boolean)) (hR : xRm R 2) (hb : xRd Y b) {M' : xMem} {r : Int32} (M : xMem) (hf : f_P_nothing_17 b p1 M = some (r, M')) : xW p l e R s m args below meth c G 2 (MQ below (xQc G (some (.int r)) (xo G Y M') sz) args s 0 0 (xA G)) (xo G Y M) sz 0 0 17 [some (.ref (b + 29)), some (.int p1)] [] := by
  unfold f_P_nothing_17 at hf
  refine x_aload_n hc (xd dk_P_nothing 8 rfl) rfl rfl ?_
  refine x_getsK hc 20 (by decide) xw568 (xd dk_P_nothing 9 rfl) ?_
  obtain ⟨r6, M, e7, hf⟩ := xbind_some hf
  refine x_callV hc (As := [.ref (gE G 20)]) (n := 1) (s_P_take hb e7) (c_P hb _) rfl (hR.call (by decide) (by decide)) ⟨by decide, by decide, by decide⟩ rfl rfl xw491 xw9 xw488 xw490 xs_P_take (Nat.le_of_ble_eq_true rfl) ⟨Nat.zero_le _, Nat.zero_le _⟩ (xd dk_P_nothing 10 rfl) ?_
  by_cases q8 : xnar .boolean r6 = true
  case neg => rw [if_neg q8] at hf; cases hf
  rw [if_pos q8] at hf
  cases hf
  exact x_zreturn hc (xnar_n q8) (xd dk_P_nothing 11 rfl)
set_option maxRecDepth 100000 in
set_option maxHeartbeats 400000 in
theorem s_P_nothing {l : Launch} {G : xG} {Y : xY} {sz : Nat} {b : Nat} {p1 : Int32}  (hb : xRd Y b) {M M' : xMem} {r : Int32} (hf : f_P_nothing b p1 M = some (r, M')) : xM l G y_P_nothing c_P_nothing 2 (some .boolean) 2 0 0 [.ref (b + 29), .int p1] (xo G Y M) sz (some (.int r)) (xo G Y M') sz := by
  unfold f_P_nothing at hf
  refine xM.of (k := 0) (L0 := [some (.ref (b + 29)), some (.int p1)]) (by decide) (Nat.le_of_ble_eq_true rfl) rfl ?_
  intro p e s m args below meth c hc hnm
  have hR : xRm { frames := 2, cells := 0, slots := 0, locals := 48 * 2 } 2 := ⟨Nat.le_refl _, Nat.le_refl _⟩
  refine x_iload_n hc (xd dk_P_nothing 0 rfl) rfl rfl ?_
  refine x_if_eq hc (tgt := 17) (xd dk_P_nothing 1 rfl) rfl (fun q9 => ?_) (fun q9 => ?_)
  · rw [if_pos q9] at hf
    exact s_P_nothing_17 hc hR hb M hf
  · rw [if_neg q9] at hf
    refine x_aload_n hc (xd dk_P_nothing 2 rfl) rfl rfl ?_
    refine x_get hc (ci := 8) (k := 2) fi_P (c_P hb _) rfl (by decide) rfl xw234 rfl (xd dk_P_nothing 3 rfl) ?_
    refine x_aload_n hc (xd dk_P_nothing 4 rfl) rfl rfl ?_
    refine x_get hc (ci := 8) (k := 4) fi_P (c_P hb _) rfl (by decide) rfl xw236 rfl (xd dk_P_nothing 5 rfl) ?_
    refine x_bipush hc (v := 9) (xd dk_P_nothing 6 rfl) (by decide) ?_
    obtain ⟨x10, hx10, hf⟩ := xval_ex hf
    rw [← hx10]
    obtain ⟨r11, M, e12, hf⟩ := xbind_some hf
    refine x_callV hc (As := [.int x10, .int 9]) (n := 2) (s_M_add hb e12) (c_M hb _) rfl (hR.call (by decide) (by decide)) ⟨by decide, by decide, by decide⟩ rfl rfl xw467 xw7 xw464 xw465 xw466 (Nat.le_of_ble_eq_true rfl) ⟨Nat.zero_le _, Nat.zero_le _⟩ (xd dk_P_nothing 7 rfl) ?_
    exact s_P_nothing_17 hc hR hb M hf
def f_P_parameters_14 (b : Nat) : Nat → Int32 → xMem → Option (Int32 × xMem)
  | 0, _, _ => none
  | n + 1, v1, M =>
    (if 4 < v1 then (some (0, M)) else (xval (M.1 (b + 29) 4) fun x14 => xbind (f_P_take b 23 M) fun r15 M => if r15 = 0 then (some (0, M)) else (xval (M.1 (b + 29) 5) fun x18 => xbind (f_B_declare b x14 4 x18 0 M) fun r19 M => if v1 = 4 then (some (1, M)) else (xbind (f_P_next b M) fun r22 M => if r22 < 28 then if r22 = 21 then (xval ((M.1 (b + 29) 4) + 1) fun x25 => xlet (wI M (b + 29) 4 x25) fun M => f_P_parameters_14 b n (v1 + Int32.ofInt 1) M) else (some (1, M)) else none))))
def f_P_parameters (b : Nat) (M : xMem) : Option (Int32 × xMem) :=
  (xbind (f_P_next b M) fun r26 M => if r26 < 28 then if r26 = 17 then (some (1, M)) else (f_P_parameters_14 b xFuel 1 M) else none)
set_option maxRecDepth 100000 in
set_option maxHeartbeats 400000 in
theorem s_P_parameters_14 {p : Program} {l : Launch} {e : Env} {R : Room} {s : State} {m : MethodId} {args : Array Value} {below : List Frame} {meth : Method} {c : Code} {G : xG} {Y : xY} {sz : Nat} {b : Nat}  (hc : xC p s m args meth c G 3 c_P_parameters y_P_parameters.cls (some .boolean)) (hR : xRm R 3) (hb : xRd Y b) {M' : xMem} {r : Int32} : ∀ (n : Nat) (v1 : Int32) (M : xMem), f_P_parameters_14 b n v1 M = some (r, M') → xW p l e R s m args below meth c G 3 (MQ below (xQc G (some (.int r)) (xo G Y M') sz) args s 0 0 (xA G)) (xo G Y M) sz 0 0 14 [some (.ref (b + 29)), some (.int v1), none] [] := by
  intro n
  induction n with
  | zero => intro v1 M hf; simp only [f_P_parameters_14] at hf; cases hf
  | succ n ih =>
    intro v1 M hf
    simp only [f_P_parameters_14] at hf
    refine x_iload_n hc (xd dk_P_parameters 8 rfl) rfl rfl ?_
    refine x_iconst hc (v := 4) (xd dk_P_parameters 9 rfl) (by decide) ?_
    refine x_icmp_gt hc (tgt := 83) (xd dk_P_parameters 10 rfl) rfl (fun q13 => ?_) (fun q13 => ?_)
    · rw [if_pos q13] at hf
      refine x_iconst hc (v := 0) (xd dk_P_parameters 45 rfl) (by decide) ?_
      cases hf
      exact x_zreturn hc rfl (xd dk_P_parameters 46 rfl)
    · rw [if_neg q13] at hf
      refine x_aload_n hc (xd dk_P_parameters 11 rfl) rfl rfl ?_
      refine x_get hc (ci := 8) (k := 4) fi_P (c_P hb _) rfl (by decide) rfl xw236 rfl (xd dk_P_parameters 12 rfl) ?_
      refine x_istore_n hc (xd dk_P_parameters 13 rfl) (by decide) rfl ?_
      refine x_aload_n hc (xd dk_P_parameters 14 rfl) rfl rfl ?_
      refine x_getsK hc 23 (by decide) xw487 (xd dk_P_parameters 15 rfl) ?_
      obtain ⟨x14, hx14, hf⟩ := xval_ex hf
      rw [← hx14]
      obtain ⟨r15, M, e16, hf⟩ := xbind_some hf
      refine x_callV hc (As := [.ref (gE G 23)]) (n := 1) (s_P_take hb e16) (c_P hb _) rfl (hR.call (by decide) (by decide)) ⟨by decide, by decide, by decide⟩ rfl rfl xw491 xw9 xw488 xw490 xs_P_take (Nat.le_of_ble_eq_true rfl) ⟨Nat.zero_le _, Nat.zero_le _⟩ (xd dk_P_parameters 16 rfl) ?_
      refine x_if_ne hc (tgt := 36) (xd dk_P_parameters 17 rfl) rfl (fun q17 => ?_) (fun q17 => ?_)
      · rw [if_neg q17] at hf
        refine x_aload_n hc (xd dk_P_parameters 20 rfl) rfl rfl ?_
        refine x_get hc (ci := 8) (k := 3) fi_P (c_P hb _) rfl (by decide) rfl xw235 rfl (xd dk_P_parameters 21 rfl) ?_
        refine x_iload_n hc (xd dk_P_parameters 22 rfl) rfl rfl ?_
        refine x_iconst hc (v := 4) (xd dk_P_parameters 23 rfl) (by decide) ?_
        refine x_aload_n hc (xd dk_P_parameters 24 rfl) rfl rfl ?_
        refine x_get hc (ci := 8) (k := 5) fi_P (c_P hb _) rfl (by decide) rfl xw237 rfl (xd dk_P_parameters 25 rfl) ?_
        refine x_iconst hc (v := 0) (xd dk_P_parameters 26 rfl) (by decide) ?_
        obtain ⟨x18, hx18, hf⟩ := xval_ex hf
        rw [← hx18]
        obtain ⟨r19, M, e20, hf⟩ := xbind_some hf
        refine x_callV hc (As := [.int x14, .int 4, .int x18, .int 0]) (n := 4) (s_B_declare hb e20) (c_B hb _) rfl (hR.call (by decide) (by decide)) ⟨by decide, by decide, by decide⟩ rfl rfl xw505 xw8 xw502 xw503 xw504 (Nat.le_of_ble_eq_true rfl) ⟨Nat.zero_le _, Nat.zero_le _⟩ (xd dk_P_parameters 27 rfl) ?_
        refine x_iload_n hc (xd dk_P_parameters 28 rfl) rfl rfl ?_
        refine x_iconst hc (v := 4) (xd dk_P_parameters 29 rfl) (by decide) ?_
        refine x_icmp_eq hc (tgt := 65) (xd dk_P_parameters 30 rfl) rfl (fun q21 => ?_) (fun q21 => ?_)
        · rw [if_pos q21] at hf
          refine x_iconst hc (v := 1) (xd dk_P_parameters 35 rfl) (by decide) ?_
          cases hf
          exact x_zreturn hc rfl (xd dk_P_parameters 36 rfl)
        · rw [if_neg q21] at hf
          refine x_aload_n hc (xd dk_P_parameters 31 rfl) rfl rfl ?_
          obtain ⟨r22, M, e23, hf⟩ := xbind_some hf
          refine x_callV hc (As := []) (n := 0) (s_P_next hb e23) (c_P hb _) rfl (hR.call (by decide) (by decide)) ⟨by decide, by decide, by decide⟩ rfl rfl xw449 xw9 xw446 xw448 xs_P_next (Nat.le_of_ble_eq_true rfl) ⟨Nat.zero_le _, Nat.zero_le _⟩ (xd dk_P_parameters 32 rfl) ?_
          by_cases htr22 : r22 < 28
          case neg => rw [if_neg htr22] at hf; cases hf
          rw [if_pos htr22] at hf
          refine x_getsK hc 21 (by decide) xw549 (xd dk_P_parameters 33 rfl) ?_
          refine x_tok_eq hc htr22 (by decide) (tgt := 67) (xd dk_P_parameters 34 rfl) rfl (fun q24 => ?_) (fun q24 => ?_)
          · rw [if_pos q24] at hf
            refine x_aload_n hc (xd dk_P_parameters 37 rfl) rfl rfl ?_
            refine x_dup hc (xd dk_P_parameters 38 rfl) rfl ?_
            refine x_get hc (ci := 8) (k := 4) fi_P (c_P hb _) rfl (by decide) rfl xw236 rfl (xd dk_P_parameters 39 rfl) ?_
            refine x_iconst hc (v := 1) (xd dk_P_parameters 40 rfl) (by decide) ?_
            refine x_iadd hc (xd dk_P_parameters 41 rfl) ?_
            obtain ⟨x25, hx25, hf⟩ := xval_ex hf
            rw [← hx25]
            refine x_put hc (ci := 8) (k := 4) fi_P ft_P ft_P_ok fn_P (c_P hb _) rfl (by decide) rfl xw236 rfl rfl rfl (Nat.le_of_ble_eq_true rfl) (xd dk_P_parameters 42 rfl) ?_
            rw [w_P_4 hb]
            replace hf := xlet_some hf
            generalize wI M (b + 29) 4 x25 = M at hf ⊢
            refine x_iinc hc (xd dk_P_parameters 43 rfl) rfl (by decide) rfl ?_
            refine x_goto hc (tgt := 14) (xd dk_P_parameters 44 rfl) rfl ?_
            refine x_drop 2 ?_
            exact ih (v1 + Int32.ofInt 1) M hf
          · rw [if_neg q24] at hf
            refine x_iconst hc (v := 1) (xd dk_P_parameters 35 rfl) (by decide) ?_
            cases hf
            exact x_zreturn hc rfl (xd dk_P_parameters 36 rfl)
      · rw [if_pos q17] at hf
        refine x_iconst hc (v := 0) (xd dk_P_parameters 18 rfl) (by decide) ?_
        cases hf
        exact x_zreturn hc rfl (xd dk_P_parameters 19 rfl)
set_option maxRecDepth 100000 in
set_option maxHeartbeats 400000 in
theorem s_P_parameters {l : Launch} {G : xG} {Y : xY} {sz : Nat} {b : Nat}  (hb : xRd Y b) {M M' : xMem} {r : Int32} (hf : f_P_parameters b M = some (r, M')) : xM l G y_P_parameters c_P_parameters 3 (some .boolean) 3 0 0 [.ref (b + 29)] (xo G Y M) sz (some (.int r)) (xo G Y M') sz := by
  unfold f_P_parameters at hf
  refine xM.of (k := 2) (L0 := [some (.ref (b + 29)), none, none]) (by decide) (Nat.le_of_ble_eq_true rfl) rfl ?_
  intro p e s m args below meth c hc hnm
  have hR : xRm { frames := 3, cells := 0, slots := 0, locals := 48 * 3 } 3 := ⟨Nat.le_refl _, Nat.le_refl _⟩
  refine x_aload_n hc (xd dk_P_parameters 0 rfl) rfl rfl ?_
  obtain ⟨r26, M, e27, hf⟩ := xbind_some hf
  refine x_callV hc (As := []) (n := 0) (s_P_next hb e27) (c_P hb _) rfl (hR.call (by decide) (by decide)) ⟨by decide, by decide, by decide⟩ rfl rfl xw449 xw9 xw446 xw448 xs_P_next (Nat.le_of_ble_eq_true rfl) ⟨Nat.zero_le _, Nat.zero_le _⟩ (xd dk_P_parameters 1 rfl) ?_
  by_cases htr26 : r26 < 28
  case neg => rw [if_neg htr26] at hf; cases hf
  rw [if_pos htr26] at hf
  refine x_getsK hc 17 (by decide) xw543 (xd dk_P_parameters 2 rfl) ?_
  refine x_tok_ne hc htr26 (by decide) (tgt := 12) (xd dk_P_parameters 3 rfl) rfl (fun q28 => ?_) (fun q28 => ?_)
  · rw [if_neg q28] at hf
    refine x_iconst hc (v := 1) (xd dk_P_parameters 6 rfl) (by decide) ?_
    refine x_istore_n hc (xd dk_P_parameters 7 rfl) (by decide) rfl ?_
    exact s_P_parameters_14 hc hR hb xFuel 1 M hf
  · rw [if_pos q28] at hf
    refine x_iconst hc (v := 1) (xd dk_P_parameters 4 rfl) (by decide) ?_
    cases hf
    exact x_zreturn hc rfl (xd dk_P_parameters 5 rfl)
