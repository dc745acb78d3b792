/-! the reference, first part (printed by gen/gen.py) -/
def f_N_in (p0 : Int32) (p1 : Int32) (p2 : Int32) (M : xMem) : Option (Int32 × xMem) :=
  (if p0 < p1 then (some (0, M)) else (if p2 < p0 then (some (0, M)) else (some (1, M))))
set_option maxRecDepth 100000 in
set_option maxHeartbeats 400000 in
theorem s_N_in {l : Launch} {G : xG} {Y : xY} {sz : Nat} {p0 : Int32} {p1 : Int32} {p2 : Int32}   {M M' : xMem} {r : Int32} (hf : f_N_in p0 p1 p2 M = some (r, M')) : xM l G y_N_in c_N_in 3 (some .boolean) 0 0 0 [.int p0, .int p1, .int p2] (xo G Y M) sz (some (.int r)) (xo G Y M') sz := by
  unfold f_N_in at hf
  refine xM.of (k := 0) (L0 := [some (.int p0), some (.int p1), some (.int p2)]) (by decide) (Nat.le_of_ble_eq_true rfl) rfl ?_
  intro p e s m args below meth c hc hnm
  have hR : xRm { frames := 0, cells := 0, slots := 0, locals := 48 * 0 } 0 := ⟨Nat.le_refl _, Nat.le_refl _⟩
  refine x_iload_n hc (xd dk_N_in 0 rfl) rfl rfl ?_
  refine x_iload_n hc (xd dk_N_in 1 rfl) rfl rfl ?_
  refine x_icmp_lt hc (tgt := 14) (xd dk_N_in 2 rfl) rfl (fun q2 => ?_) (fun q2 => ?_)
  · rw [if_pos q2] at hf
    refine x_iconst hc (v := 0) (xd dk_N_in 8 rfl) (by decide) ?_
    cases hf
    exact x_zreturn hc rfl (xd dk_N_in 9 rfl)
  · rw [if_neg q2] at hf
    refine x_iload_n hc (xd dk_N_in 3 rfl) rfl rfl ?_
    refine x_iload_n hc (xd dk_N_in 4 rfl) rfl rfl ?_
    refine x_icmp_gt hc (tgt := 14) (xd dk_N_in 5 rfl) rfl (fun q3 => ?_) (fun q3 => ?_)
    · rw [if_pos q3] at hf
      refine x_iconst hc (v := 0) (xd dk_N_in 8 rfl) (by decide) ?_
      cases hf
      exact x_zreturn hc rfl (xd dk_N_in 9 rfl)
    · rw [if_neg q3] at hf
      refine x_iconst hc (v := 1) (xd dk_N_in 6 rfl) (by decide) ?_
      refine x_goto hc (tgt := 15) (xd dk_N_in 7 rfl) rfl ?_
      cases hf
      exact x_zreturn hc rfl (xd dk_N_in 9 rfl)
def f_N_c (b : Nat) (p1 : Int32) (M : xMem) : Option (Int32 × xMem) :=
  (if M.1 b 2 ≤ p1 then (some (0, M)) else (if xin p1 160 = true then some (M.1 (b + 2) p1.toNatClampNeg, M) else none))
set_option maxRecDepth 100000 in
set_option maxHeartbeats 400000 in
theorem s_N_c {l : Launch} {G : xG} {Y : xY} {sz : Nat} {b : Nat} {p1 : Int32}  (hb : xMd Y b) {M M' : xMem} {r : Int32} (hf : f_N_c b p1 M = some (r, M')) : xM l G y_N_c c_N_c 2 (some .int) 0 0 0 [.ref b, .int p1] (xo G Y M) sz (some (.int r)) (xo G Y M') sz := by
  unfold f_N_c at hf
  refine xM.of (k := 0) (L0 := [some (.ref b), some (.int p1)]) (by decide) (Nat.le_of_ble_eq_true rfl) rfl ?_
  intro p e s m args below meth c hc hnm
  have hR : xRm { frames := 0, cells := 0, slots := 0, locals := 48 * 0 } 0 := ⟨Nat.le_refl _, Nat.le_refl _⟩
  refine x_iload_n hc (xd dk_N_c 0 rfl) rfl rfl ?_
  refine x_aload_n hc (xd dk_N_c 1 rfl) rfl rfl ?_
  refine x_get hc (ci := 10) (k := 2) fi_N (c_N hb _) rfl (by decide) rfl xw1145 rfl (xd dk_N_c 2 rfl) ?_
  refine x_icmp_ge hc (tgt := 17) (xd dk_N_c 3 rfl) rfl (fun q2 => ?_) (fun q2 => ?_)
  · rw [if_pos q2] at hf
    refine x_iconst hc (v := 0) (xd dk_N_c 9 rfl) (by decide) ?_
    cases hf
    exact x_ireturn hc (xd dk_N_c 10 rfl)
  · rw [if_neg q2] at hf
    refine x_aload_n hc (xd dk_N_c 4 rfl) rfl rfl ?_
    refine x_get hc (ci := 10) (k := 11) fi_N (c_N hb _) rfl (by decide) rfl xw1154 rfl (xd dk_N_c 5 rfl) ?_
    refine x_iload_n hc (xd dk_N_c 6 rfl) rfl rfl ?_
    by_cases q3 : xin p1 160 = true
    case neg => rw [if_neg q3] at hf; cases hf
    rw [if_pos q3] at hf
    refine x_iald hc (cA (xMd.ar hb 2 (by decide) rfl)) (xin_in q3) (xd dk_N_c 7 rfl) ?_
    refine x_goto hc (tgt := 18) (xd dk_N_c 8 rfl) rfl ?_
    cases hf
    exact x_ireturn hc (xd dk_N_c 10 rfl)
def f_N_isDigit (p0 : Int32) (M : xMem) : Option (Int32 × xMem) :=
  (xbind (f_N_in p0 48 57 M) fun r4 M => if xnar .boolean r4 = true then some (r4, M) else none)
set_option maxRecDepth 100000 in
set_option maxHeartbeats 400000 in
theorem s_N_isDigit {l : Launch} {G : xG} {Y : xY} {sz : Nat} {p0 : Int32}   {M M' : xMem} {r : Int32} (hf : f_N_isDigit p0 M = some (r, M')) : xM l G y_N_isDigit c_N_isDigit 1 (some .boolean) 1 0 0 [.int p0] (xo G Y M) sz (some (.int r)) (xo G Y M') sz := by
  unfold f_N_isDigit at hf
  refine xM.of (k := 0) (L0 := [some (.int p0)]) (by decide) (Nat.le_of_ble_eq_true rfl) rfl ?_
  intro p e s m args below meth c hc hnm
  have hR : xRm { frames := 1, cells := 0, slots := 0, locals := 48 * 1 } 1 := ⟨Nat.le_refl _, Nat.le_refl _⟩
  refine x_iload_n hc (xd dk_N_isDigit 0 rfl) rfl rfl ?_
  refine x_bipush hc (v := 48) (xd dk_N_isDigit 1 rfl) (by decide) ?_
  refine x_bipush hc (v := 57) (xd dk_N_isDigit 2 rfl) (by decide) ?_
  obtain ⟨r4, M, e5, hf⟩ := xbind_some hf
  refine x_callS hc (As := [.int p0, .int 48, .int 57]) (n := 3) (s_N_in e5) (hR.call (by decide) (by decide)) ⟨by decide, by decide, by decide⟩ rfl rfl xw1043 xw18 xw1041 xw1042 (Nat.le_of_ble_eq_true rfl) ⟨Nat.zero_le _, Nat.zero_le _⟩ (xd dk_N_isDigit 3 rfl) ?_
  by_cases q6 : xnar .boolean r4 = true
  case neg => rw [if_neg q6] at hf; cases hf
  rw [if_pos q6] at hf
  cases hf
  exact x_zreturn hc (xnar_n q6) (xd dk_N_isDigit 4 rfl)
def f_N_spells_109 (b : Nat) (p1 : Int32) (p2 : Int32) (p3 : Int32) (p4 : Int32) (p5 : Int32) (p6 : Int32) (p7 : Int32) (v8 : Int32) (M : xMem) : Option (Int32 × xMem) :=
  (some (1, M))
def f_N_spells_90 (b : Nat) (p1 : Int32) (p2 : Int32) (p3 : Int32) (p4 : Int32) (p5 : Int32) (p6 : Int32) (p7 : Int32) (v8 : Int32) (M : xMem) : Option (Int32 × xMem) :=
  (if p2 < 5 then (f_N_spells_109 b p1 p2 p3 p4 p5 p6 p7 v8 M) else (if xin (v8 + 4) 160 = true then if M.1 (b + 2) (v8 + 4).toNatClampNeg = p7 then (f_N_spells_109 b p1 p2 p3 p4 p5 p6 p7 v8 M) else (some (0, M)) else none))
def f_N_spells_71 (b : Nat) (p1 : Int32) (p2 : Int32) (p3 : Int32) (p4 : Int32) (p5 : Int32) (p6 : Int32) (p7 : Int32) (v8 : Int32) (M : xMem) : Option (Int32 × xMem) :=
  (if p2 < 4 then (f_N_spells_90 b p1 p2 p3 p4 p5 p6 p7 v8 M) else (if xin (v8 + 3) 160 = true then if M.1 (b + 2) (v8 + 3).toNatClampNeg = p6 then (f_N_spells_90 b p1 p2 p3 p4 p5 p6 p7 v8 M) else (some (0, M)) else none))
def f_N_spells (b : Nat) (p1 : Int32) (p2 : Int32) (p3 : Int32) (p4 : Int32) (p5 : Int32) (p6 : Int32) (p7 : Int32) (M : xMem) : Option (Int32 × xMem) :=
  (if xin p1 64 = true then if xin p1 64 = true then if ((M.1 (b + 10) p1.toNatClampNeg) - (M.1 (b + 9) p1.toNatClampNeg)) = p2 then (if xin p1 64 = true then if xin (M.1 (b + 9) p1.toNatClampNeg) 160 = true then if M.1 (b + 2) (M.1 (b + 9) p1.toNatClampNeg).toNatClampNeg = p3 then (if xin ((M.1 (b + 9) p1.toNatClampNeg) + 1) 160 = true then if M.1 (b + 2) ((M.1 (b + 9) p1.toNatClampNeg) + 1).toNatClampNeg = p4 then (if p2 < 3 then (f_N_spells_71 b p1 p2 p3 p4 p5 p6 p7 (M.1 (b + 9) p1.toNatClampNeg) M) else (if xin ((M.1 (b + 9) p1.toNatClampNeg) + 2) 160 = true then if M.1 (b + 2) ((M.1 (b + 9) p1.toNatClampNeg) + 2).toNatClampNeg = p5 then (f_N_spells_71 b p1 p2 p3 p4 p5 p6 p7 (M.1 (b + 9) p1.toNatClampNeg) M) else (some (0, M)) else none)) else (some (0, M)) else none) else (some (0, M)) else none else none) else (some (0, M)) else none else none)
set_option maxRecDepth 100000 in
set_option maxHeartbeats 400000 in
theorem s_N_spells_109 {p : Program} {l : Launch} {e : Env} {R : Room} {s : State} {m : MethodId} {args : Array Value} {below : List Frame} {meth : Method} {c : Code} {G : xG} {Y : xY} {sz : Nat} {b : Nat} {p1 : Int32} {p2 : Int32} {p3 : Int32} {p4 : Int32} {p5 : Int32} {p6 : Int32} {p7 : Int32}  (hc : xC p s m args meth c G 9 c_N_spells y_N_spells.cls (some .boolean)) (hR : xRm R 0) (hb : xMd Y b) {M' : xMem} {r : Int32} (v8 : Int32) (M : xMem) (hf : f_N_spells_109 b p1 p2 p3 p4 p5 p6 p7 v8 M = some (r, M')) : xW p l e R s m args below meth c G 9 (MQ below (xQc G (some (.int r)) (xo G Y M') sz) args s 0 0 (xA G)) (xo G Y M) sz 0 0 109 [some (.ref b), some (.int p1), some (.int p2), some (.int p3), some (.int p4), some (.int p5), some (.int p6), some (.int p7), some (.int v8)] [] := by
  unfold f_N_spells_109 at hf
  refine x_iconst hc (v := 1) (xd dk_N_spells 65 rfl) (by decide) ?_
  refine x_goto hc (tgt := 114) (xd dk_N_spells 66 rfl) rfl ?_
  cases hf
  exact x_zreturn hc rfl (xd dk_N_spells 68 rfl)
set_option maxRecDepth 100000 in
set_option maxHeartbeats 400000 in
theorem s_N_spells_90 {p : Program} {l : Launch} {e : Env} {R : Room} {s : State} {m : MethodId} {args : Array Value} {below : List Frame} {meth : Method} {c : Code} {G : xG} {Y : xY} {sz : Nat} {b : Nat} {p1 : Int32} {p2 : Int32} {p3 : Int32} {p4 : Int32} {p5 : Int32} {p6 : Int32} {p7 : Int32}  (hc : xC p s m args meth c G 9 c_N_spells y_N_spells.cls (some .boolean)) (hR : xRm R 0) (hb : xMd Y b) {M' : xMem} {r : Int32} (v8 : Int32) (M : xMem) (hf : f_N_spells_90 b p1 p2 p3 p4 p5 p6 p7 v8 M = some (r, M')) : xW p l e R s m args below meth c G 9 (MQ below (xQc G (some (.int r)) (xo G Y M') sz) args s 0 0 (xA G)) (xo G Y M) sz 0 0 90 [some (.ref b), some (.int p1), some (.int p2), some (.int p3), some (.int p4), some (.int p5), some (.int p6), some (.int p7), some (.int v8)] [] := by
  unfold f_N_spells_90 at hf
  refine x_iload_n hc (xd dk_N_spells 54 rfl) rfl rfl ?_
  refine x_iconst hc (v := 5) (xd dk_N_spells 55 rfl) (by decide) ?_
  refine x_icmp_lt hc (tgt := 109) (xd dk_N_spells 56 rfl) rfl (fun q11 => ?_) (fun q11 => ?_)
  · rw [if_pos q11] at hf
    exact s_N_spells_109 hc hR hb v8 M hf
  · rw [if_neg q11] at hf
    refine x_aload_n hc (xd dk_N_spells 57 rfl) rfl rfl ?_
    refine x_get hc (ci := 10) (k := 11) fi_N (c_N hb _) rfl (by decide) rfl xw1154 rfl (xd dk_N_spells 58 rfl) ?_
    refine x_iload hc (xd dk_N_spells 59 rfl) rfl ?_
    refine x_iconst hc (v := 4) (xd dk_N_spells 60 rfl) (by decide) ?_
    refine x_iadd hc (xd dk_N_spells 61 rfl) ?_
    by_cases q12 : xin (v8 + 4) 160 = true
    case neg => rw [if_neg q12] at hf; cases hf
    rw [if_pos q12] at hf
    refine x_iald hc (cA (xMd.ar hb 2 (by decide) rfl)) (xin_in q12) (xd dk_N_spells 62 rfl) ?_
    refine x_iload hc (xd dk_N_spells 63 rfl) rfl ?_
    refine x_icmp_ne hc (tgt := 113) (xd dk_N_spells 64 rfl) rfl (fun q13 => ?_) (fun q13 => ?_)
    · rw [if_neg q13] at hf
      refine x_iconst hc (v := 0) (xd dk_N_spells 67 rfl) (by decide) ?_
      cases hf
      exact x_zreturn hc rfl (xd dk_N_spells 68 rfl)
    · rw [if_pos q13] at hf
      exact s_N_spells_109 hc hR hb v8 M hf
set_option maxRecDepth 100000 in
set_option maxHeartbeats 400000 in
theorem s_N_spells_71 {p : Program} {l : Launch} {e : Env} {R : Room} {s : State} {m : MethodId} {args : Array Value} {below : List Frame} {meth : Method} {c : Code} {G : xG} {Y : xY} {sz : Nat} {b : Nat} {p1 : Int32} {p2 : Int32} {p3 : Int32} {p4 : Int32} {p5 : Int32} {p6 : Int32} {p7 : Int32}  (hc : xC p s m args meth c G 9 c_N_spells y_N_spells.cls (some .boolean)) (hR : xRm R 0) (hb : xMd Y b) {M' : xMem} {r : Int32} (v8 : Int32) (M : xMem) (hf : f_N_spells_71 b p1 p2 p3 p4 p5 p6 p7 v8 M = some (r, M')) : xW p l e R s m args below meth c G 9 (MQ below (xQc G (some (.int r)) (xo G Y M') sz) args s 0 0 (xA G)) (xo G Y M) sz 0 0 71 [some (.ref b), some (.int p1), some (.int p2), some (.int p3), some (.int p4), some (.int p5), some (.int p6), some (.int p7), some (.int v8)] [] := by
  unfold f_N_spells_71 at hf
  refine x_iload_n hc (xd dk_N_spells 43 rfl) rfl rfl ?_
  refine x_iconst hc (v := 4) (xd dk_N_spells 44 rfl) (by decide) ?_
  refine x_icmp_lt hc (tgt := 90) (xd dk_N_spells 45 rfl) rfl (fun q14 => ?_) (fun q14 => ?_)
  · rw [if_pos q14] at hf
    exact s_N_spells_90 hc hR hb v8 M hf
  · rw [if_neg q14] at hf
    refine x_aload_n hc (xd dk_N_spells 46 rfl) rfl rfl ?_
    refine x_get hc (ci := 10) (k := 11) fi_N (c_N hb _) rfl (by decide) rfl xw1154 rfl (xd dk_N_spells 47 rfl) ?_
    refine x_iload hc (xd dk_N_spells 48 rfl) rfl ?_
    refine x_iconst hc (v := 3) (xd dk_N_spells 49 rfl) (by decide) ?_
    refine x_iadd hc (xd dk_N_spells 50 rfl) ?_
    by_cases q15 : xin (v8 + 3) 160 = true
    case neg => rw [if_neg q15] at hf; cases hf
    rw [if_pos q15] at hf
    refine x_iald hc (cA (xMd.ar hb 2 (by decide) rfl)) (xin_in q15) (xd dk_N_spells 51 rfl) ?_
    refine x_iload hc (xd dk_N_spells 52 rfl) rfl ?_
    refine x_icmp_ne hc (tgt := 113) (xd dk_N_spells 53 rfl) rfl (fun q16 => ?_) (fun q16 => ?_)
    · rw [if_neg q16] at hf
      refine x_iconst hc (v := 0) (xd dk_N_spells 67 rfl) (by decide) ?_
      cases hf
      exact x_zreturn hc rfl (xd dk_N_spells 68 rfl)
    · rw [if_pos q16] at hf
      exact s_N_spells_90 hc hR hb v8 M hf
set_option maxRecDepth 100000 in
set_option maxHeartbeats 400000 in
theorem s_N_spells {l : Launch} {G : xG} {Y : xY} {sz : Nat} {b : Nat} {p1 : Int32} {p2 : Int32} {p3 : Int32} {p4 : Int32} {p5 : Int32} {p6 : Int32} {p7 : Int32}  (hb : xMd Y b) {M M' : xMem} {r : Int32} (hf : f_N_spells b p1 p2 p3 p4 p5 p6 p7 M = some (r, M')) : xM l G y_N_spells c_N_spells 9 (some .boolean) 0 0 0 [.ref b, .int p1, .int p2, .int p3, .int p4, .int p5, .int p6, .int p7] (xo G Y M) sz (some (.int r)) (xo G Y M') sz := by
  unfold f_N_spells at hf
  refine xM.of (k := 1) (L0 := [some (.ref b), some (.int p1), some (.int p2), some (.int p3), some (.int p4), some (.int p5), some (.int p6), some (.int p7), none]) (by decide) (Nat.le_of_ble_eq_true rfl) rfl ?_
  intro p e s m args below meth c hc hnm
  have hR : xRm { frames := 0, cells := 0, slots := 0, locals := 48 * 0 } 0 := ⟨Nat.le_refl _, Nat.le_refl _⟩
  refine x_aload_n hc (xd dk_N_spells 0 rfl) rfl rfl ?_
  refine x_get hc (ci := 10) (k := 19) fi_N (c_N hb _) rfl (by decide) rfl xw1162 rfl (xd dk_N_spells 1 rfl) ?_
  refine x_iload_n hc (xd dk_N_spells 2 rfl) rfl rfl ?_
  by_cases q17 : xin p1 64 = true
  case neg => rw [if_neg q17] at hf; cases hf
  rw [if_pos q17] at hf
  refine x_iald hc (cA (xMd.ar hb 10 (by decide) rfl)) (xin_in q17) (xd dk_N_spells 3 rfl) ?_
  refine x_aload_n hc (xd dk_N_spells 4 rfl) rfl rfl ?_
  refine x_get hc (ci := 10) (k := 18) fi_N (c_N hb _) rfl (by decide) rfl xw1161 rfl (xd dk_N_spells 5 rfl) ?_
  refine x_iload_n hc (xd dk_N_spells 6 rfl) rfl rfl ?_
  by_cases q18 : xin p1 64 = true
  case neg => rw [if_neg q18] at hf; cases hf
  rw [if_pos q18] at hf
  refine x_iald hc (cA (xMd.ar hb 9 (by decide) rfl)) (xin_in q18) (xd dk_N_spells 7 rfl) ?_
  refine x_isub hc (xd dk_N_spells 8 rfl) ?_
  refine x_iload_n hc (xd dk_N_spells 9 rfl) rfl rfl ?_
  refine x_icmp_eq hc (tgt := 19) (xd dk_N_spells 10 rfl) rfl (fun q19 => ?_) (fun q19 => ?_)
  · rw [if_pos q19] at hf
    refine x_aload_n hc (xd dk_N_spells 13 rfl) rfl rfl ?_
    refine x_get hc (ci := 10) (k := 18) fi_N (c_N hb _) rfl (by decide) rfl xw1161 rfl (xd dk_N_spells 14 rfl) ?_
    refine x_iload_n hc (xd dk_N_spells 15 rfl) rfl rfl ?_
    by_cases q20 : xin p1 64 = true
    case neg => rw [if_neg q20] at hf; cases hf
    rw [if_pos q20] at hf
    refine x_iald hc (cA (xMd.ar hb 9 (by decide) rfl)) (xin_in q20) (xd dk_N_spells 16 rfl) ?_
    refine x_istore hc (xd dk_N_spells 17 rfl) (by decide) rfl ?_
    refine x_aload_n hc (xd dk_N_spells 18 rfl) rfl rfl ?_
    refine x_get hc (ci := 10) (k := 11) fi_N (c_N hb _) rfl (by decide) rfl xw1154 rfl (xd dk_N_spells 19 rfl) ?_
    refine x_iload hc (xd dk_N_spells 20 rfl) rfl ?_
    by_cases q21 : xin (M.1 (b + 9) p1.toNatClampNeg) 160 = true
    case neg => rw [if_neg q21] at hf; cases hf
    rw [if_pos q21] at hf
    refine x_iald hc (cA (xMd.ar hb 2 (by decide) rfl)) (xin_in q21) (xd dk_N_spells 21 rfl) ?_
    refine x_iload_n hc (xd dk_N_spells 22 rfl) rfl rfl ?_
    refine x_icmp_ne hc (tgt := 113) (xd dk_N_spells 23 rfl) rfl (fun q22 => ?_) (fun q22 => ?_)
    · rw [if_neg q22] at hf
      refine x_iconst hc (v := 0) (xd dk_N_spells 67 rfl) (by decide) ?_
      cases hf
      exact x_zreturn hc rfl (xd dk_N_spells 68 rfl)
    · rw [if_pos q22] at hf
      refine x_aload_n hc (xd dk_N_spells 24 rfl) rfl rfl ?_
      refine x_get hc (ci := 10) (k := 11) fi_N (c_N hb _) rfl (by decide) rfl xw1154 rfl (xd dk_N_spells 25 rfl) ?_
      refine x_iload hc (xd dk_N_spells 26 rfl) rfl ?_
      refine x_iconst hc (v := 1) (xd dk_N_spells 27 rfl) (by decide) ?_
      refine x_iadd hc (xd dk_N_spells 28 rfl) ?_
      by_cases q23 : xin ((M.1 (b + 9) p1.toNatClampNeg) + 1) 160 = true
      case neg => rw [if_neg q23] at hf; cases hf
      rw [if_pos q23] at hf
      refine x_iald hc (cA (xMd.ar hb 2 (by decide) rfl)) (xin_in q23) (xd dk_N_spells 29 rfl) ?_
      refine x_iload hc (xd dk_N_spells 30 rfl) rfl ?_
      refine x_icmp_ne hc (tgt := 113) (xd dk_N_spells 31 rfl) rfl (fun q24 => ?_) (fun q24 => ?_)
      · rw [if_neg q24] at hf
        refine x_iconst hc (v := 0) (xd dk_N_spells 67 rfl) (by decide) ?_
        cases hf
        exact x_zreturn hc rfl (xd dk_N_spells 68 rfl)
      · rw [if_pos q24] at hf
        refine x_iload_n hc (xd dk_N_spells 32 rfl) rfl rfl ?_
        refine x_iconst hc (v := 3) (xd dk_N_spells 33 rfl) (by decide) ?_
        refine x_icmp_lt hc (tgt := 71) (xd dk_N_spells 34 rfl) rfl (fun q25 => ?_) (fun q25 => ?_)
        · rw [if_pos q25] at hf
          exact s_N_spells_71 hc hR hb (M.1 (b + 9) p1.toNatClampNeg) M hf
        · rw [if_neg q25] at hf
          refine x_aload_n hc (xd dk_N_spells 35 rfl) rfl rfl ?_
          refine x_get hc (ci := 10) (k := 11) fi_N (c_N hb _) rfl (by decide) rfl xw1154 rfl (xd dk_N_spells 36 rfl) ?_
          refine x_iload hc (xd dk_N_spells 37 rfl) rfl ?_
          refine x_iconst hc (v := 2) (xd dk_N_spells 38 rfl) (by decide) ?_
          refine x_iadd hc (xd dk_N_spells 39 rfl) ?_
          by_cases q26 : xin ((M.1 (b + 9) p1.toNatClampNeg) + 2) 160 = true
          case neg => rw [if_neg q26] at hf; cases hf
          rw [if_pos q26] at hf
          refine x_iald hc (cA (xMd.ar hb 2 (by decide) rfl)) (xin_in q26) (xd dk_N_spells 40 rfl) ?_
          refine x_iload hc (xd dk_N_spells 41 rfl) rfl ?_
          refine x_icmp_ne hc (tgt := 113) (xd dk_N_spells 42 rfl) rfl (fun q27 => ?_) (fun q27 => ?_)
          · rw [if_neg q27] at hf
            refine x_iconst hc (v := 0) (xd dk_N_spells 67 rfl) (by decide) ?_
            cases hf
            exact x_zreturn hc rfl (xd dk_N_spells 68 rfl)
          · rw [if_pos q27] at hf
            exact s_N_spells_71 hc hR hb (M.1 (b + 9) p1.toNatClampNeg) M hf
  · rw [if_neg q19] at hf
    refine x_iconst hc (v := 0) (xd dk_N_spells 11 rfl) (by decide) ?_
    cases hf
    exact x_zreturn hc rfl (xd dk_N_spells 12 rfl)
def f_N_quoted_45 (b : Nat) (p1 : Int32) (v2 : Int32) (M : xMem) : Option (Int32 × xMem) :=
  (if xin p1 64 = true then xlet (wI M (b + 10) p1.toNatClampNeg (v2 + 1)) fun M => xbind (f_N_c b v2 M) fun r8 M => if r8 = 39 then (some (3, M)) else (some (27, M)) else none)
def f_N_quoted_9 (b : Nat) (p1 : Int32) : Nat → Int32 → xMem → Option (Int32 × xMem)
  | 0, _, _ => none
  | n + 1, v2, M =>
    (if M.1 b 2 ≤ v2 then (f_N_quoted_45 b p1 v2 M) else (if xin v2 160 = true then if M.1 (b + 2) v2.toNatClampNeg = 39 then (f_N_quoted_45 b p1 v2 M) else (if xin v2 160 = true then if M.1 (b + 2) v2.toNatClampNeg = 10 then (f_N_quoted_45 b p1 v2 M) else (f_N_quoted_9 b p1 n (v2 + Int32.ofInt 1) M) else none) else none))
def f_N_quoted (b : Nat) (p1 : Int32) (M : xMem) : Option (Int32 × xMem) :=
  (if xin p1 64 = true then f_N_quoted_9 b p1 xFuel ((M.1 (b + 9) p1.toNatClampNeg) + 1) M else none)
set_option maxRecDepth 100000 in
set_option maxHeartbeats 400000 in
theorem s_N_quoted_45 {p : Program} {l : Launch} {e : Env} {R : Room} {s : State} {m : MethodId} {args : Array Value} {below : List Frame} {meth : Method} {c : Code} {G : xG} {Y : xY} {sz : Nat} {b : Nat} {p1 : Int32}  (hc : xC p s m args meth c G 3 c_N_quoted y_N_quoted.cls (some .int)) (hR : xRm R 1) (hb : xMd Y b) {M' : xMem} {r : Int32} (v2 : Int32) (M : xMem) (hf : f_N_quoted_45 b p1 v2 M = some (r, M')) : xW p l e R s m args below meth c G 3 (MQ below (xQc G (some (.int r)) (xo G Y M') sz) args s 0 0 (xA G)) (xo G Y M) sz 0 0 45 [some (.ref b), some (.int p1), some (.int v2)] [] := by
  unfold f_N_quoted_45 at hf
  refine x_aload_n hc (xd dk_N_quoted 25 rfl) rfl rfl ?_
  refine x_get hc (ci := 10) (k := 19) fi_N (c_N hb _) rfl (by decide) rfl xw1162 rfl (xd dk_N_quoted 26 rfl) ?_
  refine x_iload_n hc (xd dk_N_quoted 27 rfl) rfl rfl ?_
  refine x_iload_n hc (xd dk_N_quoted 28 rfl) rfl rfl ?_
  refine x_iconst hc (v := 1) (xd dk_N_quoted 29 rfl) (by decide) ?_
  refine x_iadd hc (xd dk_N_quoted 30 rfl) ?_
  by_cases q7 : xin p1 64 = true
  case neg => rw [if_neg q7] at hf; cases hf
  rw [if_pos q7] at hf
  refine x_iast hc (cA (xMd.ar hb 10 (by decide) rfl)) (xin_in q7) (xd dk_N_quoted 31 rfl) ?_
  rw [wA (xMd.ar hb 10 (by decide) rfl)]
  replace hf := xlet_some hf
  generalize wI M (b + 10) p1.toNatClampNeg (v2 + 1) = M at hf ⊢
  refine x_aload_n hc (xd dk_N_quoted 32 rfl) rfl rfl ?_
  refine x_iload_n hc (xd dk_N_quoted 33 rfl) rfl rfl ?_
  obtain ⟨r8, M, e9, hf⟩ := xbind_some hf
  refine x_callV hc (As := [.int v2]) (n := 1) (s_N_c hb e9) (c_N hb _) rfl (hR.call (by decide) (by decide)) ⟨by decide, by decide, by decide⟩ rfl rfl xw1047 xw18 xw1044 xw1046 xs_N_c (Nat.le_of_ble_eq_true rfl) ⟨Nat.zero_le _, Nat.zero_le _⟩ (xd dk_N_quoted 34 rfl) ?_
  refine x_bipush hc (v := 39) (xd dk_N_quoted 35 rfl) (by decide) ?_
  refine x_icmp_ne hc (tgt := 68) (xd dk_N_quoted 36 rfl) rfl (fun q10 => ?_) (fun q10 => ?_)
  · rw [if_neg q10] at hf
    refine x_bipush hc (v := 27) (xd dk_N_quoted 39 rfl) (by decide) ?_
    cases hf
    exact x_ireturn hc (xd dk_N_quoted 40 rfl)
  · rw [if_pos q10] at hf
    refine x_iconst hc (v := 3) (xd dk_N_quoted 37 rfl) (by decide) ?_
    refine x_goto hc (tgt := 70) (xd dk_N_quoted 38 rfl) rfl ?_
    cases hf
    exact x_ireturn hc (xd dk_N_quoted 40 rfl)
set_option maxRecDepth 100000 in
set_option maxHeartbeats 400000 in
theorem s_N_quoted_9 {p : Program} {l : Launch} {e : Env} {R : Room} {s : State} {m : MethodId} {args : Array Value} {below : List Frame} {meth : Method} {c : Code} {G : xG} {Y : xY} {sz : Nat} {b : Nat} {p1 : Int32}  (hc : xC p s m args meth c G 3 c_N_quoted y_N_quoted.cls (some .int)) (hR : xRm R 1) (hb : xMd Y b) {M' : xMem} {r : Int32} : ∀ (n : Nat) (v2 : Int32) (M : xMem), f_N_quoted_9 b p1 n v2 M = some (r, M') → xW p l e R s m args below meth c G 3 (MQ below (xQc G (some (.int r)) (xo G Y M') sz) args s 0 0 (xA G)) (xo G Y M) sz 0 0 9 [some (.ref b), some (.int p1), some (.int v2)] [] := by
  intro n
  induction n with
  | zero => intro v2 M hf; simp only [f_N_quoted_9] at hf; cases hf
  | succ n ih =>
    intro v2 M hf
    simp only [f_N_quoted_9] at hf
    refine x_iload_n hc (xd dk_N_quoted 7 rfl) rfl rfl ?_
    refine x_aload_n hc (xd dk_N_quoted 8 rfl) rfl rfl ?_
    refine x_get hc (ci := 10) (k := 2) fi_N (c_N hb _) rfl (by decide) rfl xw1145 rfl (xd dk_N_quoted 9 rfl) ?_
    refine x_icmp_ge hc (tgt := 45) (xd dk_N_quoted 10 rfl) rfl (fun q11 => ?_) (fun q11 => ?_)
    · rw [if_pos q11] at hf
      exact s_N_quoted_45 hc hR hb v2 M hf
    · rw [if_neg q11] at hf
      refine x_aload_n hc (xd dk_N_quoted 11 rfl) rfl rfl ?_
      refine x_get hc (ci := 10) (k := 11) fi_N (c_N hb _) rfl (by decide) rfl xw1154 rfl (xd dk_N_quoted 12 rfl) ?_
      refine x_iload_n hc (xd dk_N_quoted 13 rfl) rfl rfl ?_
      by_cases q12 : xin v2 160 = true
      case neg => rw [if_neg q12] at hf; cases hf
      rw [if_pos q12] at hf
      refine x_iald hc (cA (xMd.ar hb 2 (by decide) rfl)) (xin_in q12) (xd dk_N_quoted 14 rfl) ?_
      refine x_bipush hc (v := 39) (xd dk_N_quoted 15 rfl) (by decide) ?_
      refine x_icmp_eq hc (tgt := 45) (xd dk_N_quoted 16 rfl) rfl (fun q13 => ?_) (fun q13 => ?_)
      · rw [if_pos q13] at hf
        exact s_N_quoted_45 hc hR hb v2 M hf
      · rw [if_neg q13] at hf
        refine x_aload_n hc (xd dk_N_quoted 17 rfl) rfl rfl ?_
        refine x_get hc (ci := 10) (k := 11) fi_N (c_N hb _) rfl (by decide) rfl xw1154 rfl (xd dk_N_quoted 18 rfl) ?_
        refine x_iload_n hc (xd dk_N_quoted 19 rfl) rfl rfl ?_
        by_cases q14 : xin v2 160 = true
        case neg => rw [if_neg q14] at hf; cases hf
        rw [if_pos q14] at hf
        refine x_iald hc (cA (xMd.ar hb 2 (by decide) rfl)) (xin_in q14) (xd dk_N_quoted 20 rfl) ?_
        refine x_bipush hc (v := 10) (xd dk_N_quoted 21 rfl) (by decide) ?_
        refine x_icmp_eq hc (tgt := 45) (xd dk_N_quoted 22 rfl) rfl (fun q15 => ?_) (fun q15 => ?_)
        · rw [if_pos q15] at hf
          exact s_N_quoted_45 hc hR hb v2 M hf
        · rw [if_neg q15] at hf
          refine x_iinc hc (xd dk_N_quoted 23 rfl) rfl (by decide) rfl ?_
          refine x_goto hc (tgt := 9) (xd dk_N_quoted 24 rfl) rfl ?_
          exact ih (v2 + Int32.ofInt 1) M hf
set_option maxRecDepth 100000 in
set_option maxHeartbeats 400000 in
theorem s_N_quoted {l : Launch} {G : xG} {Y : xY} {sz : Nat} {b : Nat} {p1 : Int32}  (hb : xMd Y b) {M M' : xMem} {r : Int32} (hf : f_N_quoted b p1 M = some (r, M')) : xM l G y_N_quoted c_N_quoted 3 (some .int) 1 0 0 [.ref b, .int p1] (xo G Y M) sz (some (.int r)) (xo G Y M') sz := by
  unfold f_N_quoted at hf
  refine xM.of (k := 1) (L0 := [some (.ref b), some (.int p1), none]) (by decide) (Nat.le_of_ble_eq_true rfl) rfl ?_
  intro p e s m args below meth c hc hnm
  have hR : xRm { frames := 1, cells := 0, slots := 0, locals := 48 * 1 } 1 := ⟨Nat.le_refl _, Nat.le_refl _⟩
  refine x_aload_n hc (xd dk_N_quoted 0 rfl) rfl rfl ?_
  refine x_get hc (ci := 10) (k := 18) fi_N (c_N hb _) rfl (by decide) rfl xw1161 rfl (xd dk_N_quoted 1 rfl) ?_
  refine x_iload_n hc (xd dk_N_quoted 2 rfl) rfl rfl ?_
  by_cases q16 : xin p1 64 = true
  case neg => rw [if_neg q16] at hf; cases hf
  rw [if_pos q16] at hf
  refine x_iald hc (cA (xMd.ar hb 9 (by decide) rfl)) (xin_in q16) (xd dk_N_quoted 3 rfl) ?_
  refine x_iconst hc (v := 1) (xd dk_N_quoted 4 rfl) (by decide) ?_
  refine x_iadd hc (xd dk_N_quoted 5 rfl) ?_
  refine x_istore_n hc (xd dk_N_quoted 6 rfl) (by decide) rfl ?_
  exact s_N_quoted_9 hc hR hb xFuel ((M.1 (b + 9) p1.toNatClampNeg) + 1) M hf
def f_N_sign_175 (b : Nat) (p1 : Int32) (v2 : Int32) (M : xMem) : Option (Int32 × xMem) :=
  (if xin p1 64 = true then if M.1 (b + 10) p1.toNatClampNeg = (v2 + 3) then (some (12, M)) else (if xin p1 64 = true then if M.1 (b + 10) p1.toNatClampNeg = (v2 + 2) then (some (13, M)) else (some (14, M)) else none) else none)
def f_N_sign_174 (b : Nat) (p1 : Int32) (v2 : Int32) (w2 : Int32) (M : xMem) : Option (Int32 × xMem) :=
  (if xin p1 64 = true then xlet (wI M (b + 10) p1.toNatClampNeg w2) fun M => f_N_sign_175 b p1 v2 M else none)
def f_N_sign (b : Nat) (p1 : Int32) (M : xMem) : Option (Int32 × xMem) :=
  (if xin p1 64 = true then xval ((M.1 (b + 9) p1.toNatClampNeg) + 1) fun x17 => xval (M.1 (b + 9) p1.toNatClampNeg) fun x18 => if xin p1 64 = true then xlet (wI M (b + 10) p1.toNatClampNeg x17) fun M => if xin x18 160 = true then if M.1 (b + 2) x18.toNatClampNeg = 33 then (some (19, M)) else if M.1 (b + 2) x18.toNatClampNeg = 40 then (some (20, M)) else if M.1 (b + 2) x18.toNatClampNeg = 41 then (some (21, M)) else if M.1 (b + 2) x18.toNatClampNeg = 42 then (some (17, M)) else if M.1 (b + 2) x18.toNatClampNeg = 43 then (some (15, M)) else if M.1 (b + 2) x18.toNatClampNeg = 44 then (some (25, M)) else if M.1 (b + 2) x18.toNatClampNeg = 45 then (some (16, M)) else if M.1 (b + 2) x18.toNatClampNeg = 59 then (some (24, M)) else if M.1 (b + 2) x18.toNatClampNeg = 60 then (some (18, M)) else if M.1 (b + 2) x18.toNatClampNeg = 61 then (xbind (f_N_c b (x18 + 1) M) fun r31 M => if r31 = 61 then (xbind (f_N_c b (x18 + 2) M) fun r34 M => if r34 = 61 then (f_N_sign_174 b p1 x18 (x18 + 3) M) else (f_N_sign_174 b p1 x18 (x18 + 2) M)) else (f_N_sign_175 b p1 x18 M)) else if M.1 (b + 2) x18.toNatClampNeg = 64 then (some (26, M)) else if M.1 (b + 2) x18.toNatClampNeg = 123 then (some (22, M)) else if M.1 (b + 2) x18.toNatClampNeg = 125 then (some (23, M)) else (some (27, M)) else none else none else none)
set_option maxRecDepth 100000 in
set_option maxHeartbeats 400000 in
theorem s_N_sign_175 {p : Program} {l : Launch} {e : Env} {R : Room} {s : State} {m : MethodId} {args : Array Value} {below : List Frame} {meth : Method} {c : Code} {G : xG} {Y : xY} {sz : Nat} {b : Nat} {p1 : Int32}  (hc : xC p s m args meth c G 3 c_N_sign y_N_sign.cls (some .int)) (hR : xRm R 1) (hb : xMd Y b) {M' : xMem} {r : Int32} (v2 : Int32) (M : xMem) (hf : f_N_sign_175 b p1 v2 M = some (r, M')) : xW p l e R s m args below meth c G 3 (MQ below (xQc G (some (.int r)) (xo G Y M') sz) args s 0 0 (xA G)) (xo G Y M) sz 0 0 175 [some (.ref b), some (.int p1), some (.int v2)] [] := by
  unfold f_N_sign_175 at hf
  refine x_aload_n hc (xd dk_N_sign 42 rfl) rfl rfl ?_
  refine x_get hc (ci := 10) (k := 19) fi_N (c_N hb _) rfl (by decide) rfl xw1162 rfl (xd dk_N_sign 43 rfl) ?_
  refine x_iload_n hc (xd dk_N_sign 44 rfl) rfl rfl ?_
  by_cases q11 : xin p1 64 = true
  case neg => rw [if_neg q11] at hf; cases hf
  rw [if_pos q11] at hf
  refine x_iald hc (cA (xMd.ar hb 10 (by decide) rfl)) (xin_in q11) (xd dk_N_sign 45 rfl) ?_
  refine x_iload_n hc (xd dk_N_sign 46 rfl) rfl rfl ?_
  refine x_iconst hc (v := 3) (xd dk_N_sign 47 rfl) (by decide) ?_
  refine x_iadd hc (xd dk_N_sign 48 rfl) ?_
  refine x_icmp_ne hc (tgt := 192) (xd dk_N_sign 49 rfl) rfl (fun q12 => ?_) (fun q12 => ?_)
  · rw [if_neg q12] at hf
    refine x_aload_n hc (xd dk_N_sign 52 rfl) rfl rfl ?_
    refine x_get hc (ci := 10) (k := 19) fi_N (c_N hb _) rfl (by decide) rfl xw1162 rfl (xd dk_N_sign 53 rfl) ?_
    refine x_iload_n hc (xd dk_N_sign 54 rfl) rfl rfl ?_
    by_cases q13 : xin p1 64 = true
    case neg => rw [if_neg q13] at hf; cases hf
    rw [if_pos q13] at hf
    refine x_iald hc (cA (xMd.ar hb 10 (by decide) rfl)) (xin_in q13) (xd dk_N_sign 55 rfl) ?_
    refine x_iload_n hc (xd dk_N_sign 56 rfl) rfl rfl ?_
    refine x_iconst hc (v := 2) (xd dk_N_sign 57 rfl) (by decide) ?_
    refine x_iadd hc (xd dk_N_sign 58 rfl) ?_
    refine x_icmp_ne hc (tgt := 209) (xd dk_N_sign 59 rfl) rfl (fun q14 => ?_) (fun q14 => ?_)
    · rw [if_neg q14] at hf
      refine x_bipush hc (v := 14) (xd dk_N_sign 62 rfl) (by decide) ?_
      cases hf
      exact x_ireturn hc (xd dk_N_sign 63 rfl)
    · rw [if_pos q14] at hf
      refine x_bipush hc (v := 13) (xd dk_N_sign 60 rfl) (by decide) ?_
      refine x_goto hc (tgt := 211) (xd dk_N_sign 61 rfl) rfl ?_
      cases hf
      exact x_ireturn hc (xd dk_N_sign 63 rfl)
  · rw [if_pos q12] at hf
    refine x_bipush hc (v := 12) (xd dk_N_sign 50 rfl) (by decide) ?_
    refine x_goto hc (tgt := 211) (xd dk_N_sign 51 rfl) rfl ?_
    cases hf
    exact x_ireturn hc (xd dk_N_sign 63 rfl)
set_option maxRecDepth 100000 in
set_option maxHeartbeats 400000 in
theorem s_N_sign_174 {p : Program} {l : Launch} {e : Env} {R : Room} {s : State} {m : MethodId} {args : Array Value} {below : List Frame} {meth : Method} {c : Code} {G : xG} {Y : xY} {sz : Nat} {b : Nat} {p1 : Int32}  (hc : xC p s m args meth c G 3 c_N_sign y_N_sign.cls (some .int)) (hR : xRm R 1) (hb : xMd Y b) {M' : xMem} {r : Int32} (v2 : Int32) (w2 : Int32) (M : xMem) (hf : f_N_sign_174 b p1 v2 w2 M = some (r, M')) : xW p l e R s m args below meth c G 3 (MQ below (xQc G (some (.int r)) (xo G Y M') sz) args s 0 0 (xA G)) (xo G Y M) sz 0 0 174 [some (.ref b), some (.int p1), some (.int v2)] [.int w2, .int p1, .ref (b + 10)] := by
  unfold f_N_sign_174 at hf
  by_cases q15 : xin p1 64 = true
  case neg => rw [if_neg q15] at hf; cases hf
  rw [if_pos q15] at hf
  refine x_iast hc (cA (xMd.ar hb 10 (by decide) rfl)) (xin_in q15) (xd dk_N_sign 41 rfl) ?_
  rw [wA (xMd.ar hb 10 (by decide) rfl)]
  replace hf := xlet_some hf
  generalize wI M (b + 10) p1.toNatClampNeg w2 = M at hf ⊢
  exact s_N_sign_175 hc hR hb v2 M hf
set_option maxRecDepth 100000 in
set_option maxHeartbeats 400000 in
theorem s_N_sign {l : Launch} {G : xG} {Y : xY} {sz : Nat} {b : Nat} {p1 : Int32}  (hb : xMd Y b) {M M' : xMem} {r : Int32} (hf : f_N_sign b p1 M = some (r, M')) : xM l G y_N_sign c_N_sign 3 (some .int) 1 0 0 [.ref b, .int p1] (xo G Y M) sz (some (.int r)) (xo G Y M') sz := by
  unfold f_N_sign at hf
  refine xM.of (k := 1) (L0 := [some (.ref b), some (.int p1), none]) (by decide) (Nat.le_of_ble_eq_true rfl) rfl ?_
  intro p e s m args below meth c hc hnm
  have hR : xRm { frames := 1, cells := 0, slots := 0, locals := 48 * 1 } 1 := ⟨Nat.le_refl _, Nat.le_refl _⟩
  refine x_aload_n hc (xd dk_N_sign 0 rfl) rfl rfl ?_
  refine x_get hc (ci := 10) (k := 18) fi_N (c_N hb _) rfl (by decide) rfl xw1161 rfl (xd dk_N_sign 1 rfl) ?_
  refine x_iload_n hc (xd dk_N_sign 2 rfl) rfl rfl ?_
  by_cases q16 : xin p1 64 = true
  case neg => rw [if_neg q16] at hf; cases hf
  rw [if_pos q16] at hf
  refine x_iald hc (cA (xMd.ar hb 9 (by decide) rfl)) (xin_in q16) (xd dk_N_sign 3 rfl) ?_
  refine x_istore_n hc (xd dk_N_sign 4 rfl) (by decide) rfl ?_
  refine x_aload_n hc (xd dk_N_sign 5 rfl) rfl rfl ?_
  refine x_get hc (ci := 10) (k := 19) fi_N (c_N hb _) rfl (by decide) rfl xw1162 rfl (xd dk_N_sign 6 rfl) ?_
  refine x_iload_n hc (xd dk_N_sign 7 rfl) rfl rfl ?_
  refine x_iload_n hc (xd dk_N_sign 8 rfl) rfl rfl ?_
  refine x_iconst hc (v := 1) (xd dk_N_sign 9 rfl) (by decide) ?_
  refine x_iadd hc (xd dk_N_sign 10 rfl) ?_
  obtain ⟨x17, hx17, hf⟩ := xval_ex hf
  rw [← hx17]
  obtain ⟨x18, hx18, hf⟩ := xval_ex hf
  rw [← hx18]
  by_cases q19 : xin p1 64 = true
  case neg => rw [if_neg q19] at hf; cases hf
  rw [if_pos q19] at hf
  refine x_iast hc (cA (xMd.ar hb 10 (by decide) rfl)) (xin_in q19) (xd dk_N_sign 11 rfl) ?_
  rw [wA (xMd.ar hb 10 (by decide) rfl)]
  replace hf := xlet_some hf
  generalize wI M (b + 10) p1.toNatClampNeg x17 = M at hf ⊢
  refine x_aload_n hc (xd dk_N_sign 12 rfl) rfl rfl ?_
  refine x_get hc (ci := 10) (k := 11) fi_N (c_N hb _) rfl (by decide) rfl xw1154 rfl (xd dk_N_sign 13 rfl) ?_
  refine x_iload_n hc (xd dk_N_sign 14 rfl) rfl rfl ?_
  by_cases q20 : xin x18 160 = true
  case neg => rw [if_neg q20] at hf; cases hf
  rw [if_pos q20] at hf
  refine x_iald hc (cA (xMd.ar hb 2 (by decide) rfl)) (xin_in q20) (xd dk_N_sign 15 rfl) ?_
  by_cases q21 : M.1 (b + 2) x18.toNatClampNeg = 33
  case pos =>
    rw [if_pos q21] at hf
    refine x_lookup hc (off := 202) (tgt := 224) (xd dk_N_sign 16 rfl) (by decide) (by rw [q21]; decide) rfl ?_
    refine x_bipush hc (v := 19) (xd dk_N_sign 72 rfl) (by decide) ?_
    cases hf
    exact x_ireturn hc (xd dk_N_sign 73 rfl)
  rw [if_neg q21] at hf
  by_cases q22 : M.1 (b + 2) x18.toNatClampNeg = 40
  case pos =>
    rw [if_pos q22] at hf
    refine x_lookup hc (off := 205) (tgt := 227) (xd dk_N_sign 16 rfl) (by decide) (by rw [q22]; decide) rfl ?_
    refine x_bipush hc (v := 20) (xd dk_N_sign 74 rfl) (by decide) ?_
    cases hf
    exact x_ireturn hc (xd dk_N_sign 75 rfl)
  rw [if_neg q22] at hf
  by_cases q23 : M.1 (b + 2) x18.toNatClampNeg = 41
  case pos =>
    rw [if_pos q23] at hf
    refine x_lookup hc (off := 208) (tgt := 230) (xd dk_N_sign 16 rfl) (by decide) (by rw [q23]; decide) rfl ?_
    refine x_bipush hc (v := 21) (xd dk_N_sign 76 rfl) (by decide) ?_
    cases hf
    exact x_ireturn hc (xd dk_N_sign 77 rfl)
  rw [if_neg q23] at hf
  by_cases q24 : M.1 (b + 2) x18.toNatClampNeg = 42
  case pos =>
    rw [if_pos q24] at hf
    refine x_lookup hc (off := 196) (tgt := 218) (xd dk_N_sign 16 rfl) (by decide) (by rw [q24]; decide) rfl ?_
    refine x_bipush hc (v := 17) (xd dk_N_sign 68 rfl) (by decide) ?_
    cases hf
    exact x_ireturn hc (xd dk_N_sign 69 rfl)
  rw [if_neg q24] at hf
  by_cases q25 : M.1 (b + 2) x18.toNatClampNeg = 43
  case pos =>
    rw [if_pos q25] at hf
    refine x_lookup hc (off := 190) (tgt := 212) (xd dk_N_sign 16 rfl) (by decide) (by rw [q25]; decide) rfl ?_
    refine x_bipush hc (v := 15) (xd dk_N_sign 64 rfl) (by decide) ?_
    cases hf
    exact x_ireturn hc (xd dk_N_sign 65 rfl)
  rw [if_neg q25] at hf
  by_cases q26 : M.1 (b + 2) x18.toNatClampNeg = 44
  case pos =>
    rw [if_pos q26] at hf
    refine x_lookup hc (off := 220) (tgt := 242) (xd dk_N_sign 16 rfl) (by decide) (by rw [q26]; decide) rfl ?_
    refine x_bipush hc (v := 25) (xd dk_N_sign 84 rfl) (by decide) ?_
    cases hf
    exact x_ireturn hc (xd dk_N_sign 85 rfl)
  rw [if_neg q26] at hf
  by_cases q27 : M.1 (b + 2) x18.toNatClampNeg = 45
  case pos =>
    rw [if_pos q27] at hf
    refine x_lookup hc (off := 193) (tgt := 215) (xd dk_N_sign 16 rfl) (by decide) (by rw [q27]; decide) rfl ?_
    refine x_bipush hc (v := 16) (xd dk_N_sign 66 rfl) (by decide) ?_
    cases hf
    exact x_ireturn hc (xd dk_N_sign 67 rfl)
  rw [if_neg q27] at hf
  by_cases q28 : M.1 (b + 2) x18.toNatClampNeg = 59
  case pos =>
    rw [if_pos q28] at hf
    refine x_lookup hc (off := 217) (tgt := 239) (xd dk_N_sign 16 rfl) (by decide) (by rw [q28]; decide) rfl ?_
    refine x_bipush hc (v := 24) (xd dk_N_sign 82 rfl) (by decide) ?_
    cases hf
    exact x_ireturn hc (xd dk_N_sign 83 rfl)
  rw [if_neg q28] at hf
  by_cases q29 : M.1 (b + 2) x18.toNatClampNeg = 60
  case pos =>
    rw [if_pos q29] at hf
    refine x_lookup hc (off := 199) (tgt := 221) (xd dk_N_sign 16 rfl) (by decide) (by rw [q29]; decide) rfl ?_
    refine x_bipush hc (v := 18) (xd dk_N_sign 70 rfl) (by decide) ?_
    cases hf
    exact x_ireturn hc (xd dk_N_sign 71 rfl)
  rw [if_neg q29] at hf
  by_cases q30 : M.1 (b + 2) x18.toNatClampNeg = 61
  case pos =>
    rw [if_pos q30] at hf
    refine x_lookup hc (off := 114) (tgt := 136) (xd dk_N_sign 16 rfl) (by decide) (by rw [q30]; decide) rfl ?_
    refine x_aload_n hc (xd dk_N_sign 17 rfl) rfl rfl ?_
    refine x_iload_n hc (xd dk_N_sign 18 rfl) rfl rfl ?_
    refine x_iconst hc (v := 1) (xd dk_N_sign 19 rfl) (by decide) ?_
    refine x_iadd hc (xd dk_N_sign 20 rfl) ?_
    obtain ⟨r31, M, e32, hf⟩ := xbind_some hf
    refine x_callV hc (As := [.int ((x18 + 1))]) (n := 1) (s_N_c hb e32) (c_N hb _) rfl (hR.call (by decide) (by decide)) ⟨by decide, by decide, by decide⟩ rfl rfl xw1047 xw18 xw1044 xw1046 xs_N_c (Nat.le_of_ble_eq_true rfl) ⟨Nat.zero_le _, Nat.zero_le _⟩ (xd dk_N_sign 21 rfl) ?_
    refine x_bipush hc (v := 61) (xd dk_N_sign 22 rfl) (by decide) ?_
    refine x_icmp_ne hc (tgt := 175) (xd dk_N_sign 23 rfl) rfl (fun q33 => ?_) (fun q33 => ?_)
    · rw [if_neg q33] at hf
      exact s_N_sign_175 hc hR hb x18 M hf
    · rw [if_pos q33] at hf
      refine x_aload_n hc (xd dk_N_sign 24 rfl) rfl rfl ?_
      refine x_get hc (ci := 10) (k := 19) fi_N (c_N hb _) rfl (by decide) rfl xw1162 rfl (xd dk_N_sign 25 rfl) ?_
      refine x_iload_n hc (xd dk_N_sign 26 rfl) rfl rfl ?_
      refine x_aload_n hc (xd dk_N_sign 27 rfl) rfl rfl ?_
      refine x_iload_n hc (xd dk_N_sign 28 rfl) rfl rfl ?_
      refine x_iconst hc (v := 2) (xd dk_N_sign 29 rfl) (by decide) ?_
      refine x_iadd hc (xd dk_N_sign 30 rfl) ?_
      obtain ⟨r34, M, e35, hf⟩ := xbind_some hf
      refine x_callV hc (As := [.int ((x18 + 2))]) (n := 1) (s_N_c hb e35) (c_N hb _) rfl (hR.call (by decide) (by decide)) ⟨by decide, by decide, by decide⟩ rfl rfl xw1047 xw18 xw1044 xw1046 xs_N_c (Nat.le_of_ble_eq_true rfl) ⟨Nat.zero_le _, Nat.zero_le _⟩ (xd dk_N_sign 31 rfl) ?_
      refine x_bipush hc (v := 61) (xd dk_N_sign 32 rfl) (by decide) ?_
      refine x_icmp_ne hc (tgt := 171) (xd dk_N_sign 33 rfl) rfl (fun q36 => ?_) (fun q36 => ?_)
      · rw [if_neg q36] at hf
        refine x_iload_n hc (xd dk_N_sign 38 rfl) rfl rfl ?_
        refine x_iconst hc (v := 2) (xd dk_N_sign 39 rfl) (by decide) ?_
        refine x_iadd hc (xd dk_N_sign 40 rfl) ?_
        exact s_N_sign_174 hc hR hb x18 (x18 + 2) M hf
      · rw [if_pos q36] at hf
        refine x_iload_n hc (xd dk_N_sign 34 rfl) rfl rfl ?_
        refine x_iconst hc (v := 3) (xd dk_N_sign 35 rfl) (by decide) ?_
        refine x_iadd hc (xd dk_N_sign 36 rfl) ?_
        refine x_goto hc (tgt := 174) (xd dk_N_sign 37 rfl) rfl ?_
        exact s_N_sign_174 hc hR hb x18 (x18 + 3) M hf
  rw [if_neg q30] at hf
  by_cases q37 : M.1 (b + 2) x18.toNatClampNeg = 64
  case pos =>
    rw [if_pos q37] at hf
    refine x_lookup hc (off := 223) (tgt := 245) (xd dk_N_sign 16 rfl) (by decide) (by rw [q37]; decide) rfl ?_
    refine x_bipush hc (v := 26) (xd dk_N_sign 86 rfl) (by decide) ?_
    cases hf
    exact x_ireturn hc (xd dk_N_sign 87 rfl)
  rw [if_neg q37] at hf
  by_cases q38 : M.1 (b + 2) x18.toNatClampNeg = 123
  case pos =>
    rw [if_pos q38] at hf
    refine x_lookup hc (off := 211) (tgt := 233) (xd dk_N_sign 16 rfl) (by decide) (by rw [q38]; decide) rfl ?_
    refine x_bipush hc (v := 22) (xd dk_N_sign 78 rfl) (by decide) ?_
    cases hf
    exact x_ireturn hc (xd dk_N_sign 79 rfl)
  rw [if_neg q38] at hf
  by_cases q39 : M.1 (b + 2) x18.toNatClampNeg = 125
  case pos =>
    rw [if_pos q39] at hf
    refine x_lookup hc (off := 214) (tgt := 236) (xd dk_N_sign 16 rfl) (by decide) (by rw [q39]; decide) rfl ?_
    refine x_bipush hc (v := 23) (xd dk_N_sign 80 rfl) (by decide) ?_
    cases hf
    exact x_ireturn hc (xd dk_N_sign 81 rfl)
  rw [if_neg q39] at hf
  refine x_lookup hc (off := 226) (tgt := 248) (xd dk_N_sign 16 rfl) (by decide) (by show Op.lookupswitch.offset [(33, 202), (40, 205), (41, 208), (42, 196), (43, 190), (44, 220), (45, 193), (59, 217), (60, 199), (61, 114), (64, 223), (123, 211), (125, 214)] _ _ = _; rw [lv_osw (a := 33) q21 (by decide)]; rw [lv_osw (a := 40) q22 (by decide)]; rw [lv_osw (a := 41) q23 (by decide)]; rw [lv_osw (a := 42) q24 (by decide)]; rw [lv_osw (a := 43) q25 (by decide)]; rw [lv_osw (a := 44) q26 (by decide)]; rw [lv_osw (a := 45) q27 (by decide)]; rw [lv_osw (a := 59) q28 (by decide)]; rw [lv_osw (a := 60) q29 (by decide)]; rw [lv_osw (a := 61) q30 (by decide)]; rw [lv_osw (a := 64) q37 (by decide)]; rw [lv_osw (a := 123) q38 (by decide)]; rw [lv_osw (a := 125) q39 (by decide)]; rfl) rfl ?_
  refine x_bipush hc (v := 27) (xd dk_N_sign 88 rfl) (by decide) ?_
  cases hf
  exact x_ireturn hc (xd dk_N_sign 89 rfl)
def f_N_enters (b : Nat) (p1 : Int32) (M : xMem) : Option (Unit × xMem) :=
  (xval (M.1 b 28) fun x3 => xval (M.1 b 27) fun x4 => if xin x4 64 = true then xlet (wI M (b + 15) x4.toNatClampNeg x3) fun M => xval (M.1 b 27) fun x6 => if xin x6 64 = true then xlet (wI M (b + 17) x6.toNatClampNeg (vp_nar .boolean p1)) fun M => xval (M.1 b 27) fun x8 => xlet (wI M b 28 x8) fun M => xval ((M.1 b 27) + 1) fun x9 => xlet (wI M b 27 x9) fun M => some ((), M) else none else none)
set_option maxRecDepth 100000 in
set_option maxHeartbeats 400000 in
theorem s_N_enters {l : Launch} {G : xG} {Y : xY} {sz : Nat} {b : Nat} {p1 : Int32}  (hb : xMd Y b) {M M' : xMem} {r : Unit} (hf : f_N_enters b p1 M = some (r, M')) : xM l G y_N_enters c_N_enters 2 none 0 0 0 [.ref b, .int p1] (xo G Y M) sz none (xo G Y M') sz := by
  unfold f_N_enters at hf
  refine xM.of (k := 0) (L0 := [some (.ref b), some (.int p1)]) (by decide) (Nat.le_of_ble_eq_true rfl) rfl ?_
  intro p e s m args below meth c hc hnm
  have hR : xRm { frames := 0, cells := 0, slots := 0, locals := 48 * 0 } 0 := ⟨Nat.le_refl _, Nat.le_refl _⟩
  refine x_aload_n hc (xd dk_N_enters 0 rfl) rfl rfl ?_
  refine x_get hc (ci := 10) (k := 24) fi_N (c_N hb _) rfl (by decide) rfl xw1167 rfl (xd dk_N_enters 1 rfl) ?_
  refine x_aload_n hc (xd dk_N_enters 2 rfl) rfl rfl ?_
  refine x_get hc (ci := 10) (k := 27) fi_N (c_N hb _) rfl (by decide) rfl xw1170 rfl (xd dk_N_enters 3 rfl) ?_
  refine x_aload_n hc (xd dk_N_enters 4 rfl) rfl rfl ?_
  refine x_get hc (ci := 10) (k := 28) fi_N (c_N hb _) rfl (by decide) rfl xw1171 rfl (xd dk_N_enters 5 rfl) ?_
  obtain ⟨x3, hx3, hf⟩ := xval_ex hf
  rw [← hx3]
  obtain ⟨x4, hx4, hf⟩ := xval_ex hf
  rw [← hx4]
  by_cases q5 : xin x4 64 = true
  case neg => rw [if_neg q5] at hf; cases hf
  rw [if_pos q5] at hf
  refine x_iast hc (cA (xMd.ar hb 15 (by decide) rfl)) (xin_in q5) (xd dk_N_enters 6 rfl) ?_
  rw [wA (xMd.ar hb 15 (by decide) rfl)]
  replace hf := xlet_some hf
  generalize wI M (b + 15) x4.toNatClampNeg x3 = M at hf ⊢
  refine x_aload_n hc (xd dk_N_enters 7 rfl) rfl rfl ?_
  refine x_get hc (ci := 10) (k := 26) fi_N (c_N hb _) rfl (by decide) rfl xw1169 rfl (xd dk_N_enters 8 rfl) ?_
  refine x_aload_n hc (xd dk_N_enters 9 rfl) rfl rfl ?_
  refine x_get hc (ci := 10) (k := 27) fi_N (c_N hb _) rfl (by decide) rfl xw1170 rfl (xd dk_N_enters 10 rfl) ?_
  refine x_iload_n hc (xd dk_N_enters 11 rfl) rfl rfl ?_
  obtain ⟨x6, hx6, hf⟩ := xval_ex hf
  rw [← hx6]
  by_cases q7 : xin x6 64 = true
  case neg => rw [if_neg q7] at hf; cases hf
  rw [if_pos q7] at hf
  refine x_zast hc (cA (xMd.ar hb 17 (by decide) rfl)) (xin_in q7) (xd dk_N_enters 12 rfl) ?_
  rw [wA (xMd.ar hb 17 (by decide) rfl)]
  replace hf := xlet_some hf
  generalize wI M (b + 17) x6.toNatClampNeg (vp_nar .boolean p1) = M at hf ⊢
  refine x_aload_n hc (xd dk_N_enters 13 rfl) rfl rfl ?_
  refine x_aload_n hc (xd dk_N_enters 14 rfl) rfl rfl ?_
  refine x_get hc (ci := 10) (k := 27) fi_N (c_N hb _) rfl (by decide) rfl xw1170 rfl (xd dk_N_enters 15 rfl) ?_
  obtain ⟨x8, hx8, hf⟩ := xval_ex hf
  rw [← hx8]
  refine x_put hc (ci := 10) (k := 28) fi_N ft_N ft_N_ok fn_N (c_N hb _) rfl (by decide) rfl xw1171 rfl rfl rfl (Nat.le_of_ble_eq_true rfl) (xd dk_N_enters 16 rfl) ?_
  rw [w_N_28 hb]
  replace hf := xlet_some hf
  generalize wI M b 28 x8 = M at hf ⊢
  refine x_aload_n hc (xd dk_N_enters 17 rfl) rfl rfl ?_
  refine x_dup hc (xd dk_N_enters 18 rfl) rfl ?_
  refine x_get hc (ci := 10) (k := 27) fi_N (c_N hb _) rfl (by decide) rfl xw1170 rfl (xd dk_N_enters 19 rfl) ?_
  refine x_iconst hc (v := 1) (xd dk_N_enters 20 rfl) (by decide) ?_
  refine x_iadd hc (xd dk_N_enters 21 rfl) ?_
  obtain ⟨x9, hx9, hf⟩ := xval_ex hf
  rw [← hx9]
  refine x_put hc (ci := 10) (k := 27) fi_N ft_N ft_N_ok fn_N (c_N hb _) rfl (by decide) rfl xw1170 rfl rfl rfl (Nat.le_of_ble_eq_true rfl) (xd dk_N_enters 22 rfl) ?_
  rw [w_N_27 hb]
  replace hf := xlet_some hf
  generalize wI M b 27 x9 = M at hf ⊢
  cases hf
  exact x_return hc (xd dk_N_enters 23 rfl)
def f_N_push (b : Nat) (p1 : Int32) (p2 : Int32) (p3 : Int32) (p4 : Int32) (M : xMem) : Option (Unit × xMem) :=
  (xval (M.1 b 8) fun x5 => if xin x5 300 = true then xlet (wI M (b + 11) x5.toNatClampNeg p1) fun M => xval (M.1 b 8) fun x7 => if xin x7 300 = true then xlet (wI M (b + 12) x7.toNatClampNeg p2) fun M => xval (M.1 b 8) fun x9 => if xin x9 300 = true then xlet (wI M (b + 13) x9.toNatClampNeg p3) fun M => xval (M.1 b 8) fun x11 => if xin x11 300 = true then xlet (wI M (b + 14) x11.toNatClampNeg p4) fun M => xval ((M.1 b 8) + 1) fun x13 => xlet (wI M b 8 x13) fun M => some ((), M) else none else none else none else none)
set_option maxRecDepth 100000 in
set_option maxHeartbeats 400000 in
theorem s_N_push {l : Launch} {G : xG} {Y : xY} {sz : Nat} {b : Nat} {p1 : Int32} {p2 : Int32} {p3 : Int32} {p4 : Int32}  (hb : xMd Y b) {M M' : xMem} {r : Unit} (hf : f_N_push b p1 p2 p3 p4 M = some (r, M')) : xM l G y_N_push c_N_push 5 none 0 0 0 [.ref b, .int p1, .int p2, .int p3, .int p4] (xo G Y M) sz none (xo G Y M') sz := by
  unfold f_N_push at hf
  refine xM.of (k := 0) (L0 := [some (.ref b), some (.int p1), some (.int p2), some (.int p3), some (.int p4)]) (by decide) (Nat.le_of_ble_eq_true rfl) rfl ?_
  intro p e s m args below meth c hc hnm
  have hR : xRm { frames := 0, cells := 0, slots := 0, locals := 48 * 0 } 0 := ⟨Nat.le_refl _, Nat.le_refl _⟩
  refine x_aload_n hc (xd dk_N_push 0 rfl) rfl rfl ?_
  refine x_get hc (ci := 10) (k := 20) fi_N (c_N hb _) rfl (by decide) rfl xw1163 rfl (xd dk_N_push 1 rfl) ?_
  refine x_aload_n hc (xd dk_N_push 2 rfl) rfl rfl ?_
  refine x_get hc (ci := 10) (k := 8) fi_N (c_N hb _) rfl (by decide) rfl xw1151 rfl (xd dk_N_push 3 rfl) ?_
  refine x_iload_n hc (xd dk_N_push 4 rfl) rfl rfl ?_
  obtain ⟨x5, hx5, hf⟩ := xval_ex hf
  rw [← hx5]
  by_cases q6 : xin x5 300 = true
  case neg => rw [if_neg q6] at hf; cases hf
  rw [if_pos q6] at hf
  refine x_iast hc (cA (xMd.ar hb 11 (by decide) rfl)) (xin_in q6) (xd dk_N_push 5 rfl) ?_
  rw [wA (xMd.ar hb 11 (by decide) rfl)]
  replace hf := xlet_some hf
  generalize wI M (b + 11) x5.toNatClampNeg p1 = M at hf ⊢
  refine x_aload_n hc (xd dk_N_push 6 rfl) rfl rfl ?_
  refine x_get hc (ci := 10) (k := 21) fi_N (c_N hb _) rfl (by decide) rfl xw1164 rfl (xd dk_N_push 7 rfl) ?_
  refine x_aload_n hc (xd dk_N_push 8 rfl) rfl rfl ?_
  refine x_get hc (ci := 10) (k := 8) fi_N (c_N hb _) rfl (by decide) rfl xw1151 rfl (xd dk_N_push 9 rfl) ?_
  refine x_iload_n hc (xd dk_N_push 10 rfl) rfl rfl ?_
  obtain ⟨x7, hx7, hf⟩ := xval_ex hf
  rw [← hx7]
  by_cases q8 : xin x7 300 = true
  case neg => rw [if_neg q8] at hf; cases hf
  rw [if_pos q8] at hf
  refine x_iast hc (cA (xMd.ar hb 12 (by decide) rfl)) (xin_in q8) (xd dk_N_push 11 rfl) ?_
  rw [wA (xMd.ar hb 12 (by decide) rfl)]
  replace hf := xlet_some hf
  generalize wI M (b + 12) x7.toNatClampNeg p2 = M at hf ⊢
  refine x_aload_n hc (xd dk_N_push 12 rfl) rfl rfl ?_
  refine x_get hc (ci := 10) (k := 22) fi_N (c_N hb _) rfl (by decide) rfl xw1165 rfl (xd dk_N_push 13 rfl) ?_
  refine x_aload_n hc (xd dk_N_push 14 rfl) rfl rfl ?_
  refine x_get hc (ci := 10) (k := 8) fi_N (c_N hb _) rfl (by decide) rfl xw1151 rfl (xd dk_N_push 15 rfl) ?_
  refine x_iload_n hc (xd dk_N_push 16 rfl) rfl rfl ?_
  obtain ⟨x9, hx9, hf⟩ := xval_ex hf
  rw [← hx9]
  by_cases q10 : xin x9 300 = true
  case neg => rw [if_neg q10] at hf; cases hf
  rw [if_pos q10] at hf
  refine x_iast hc (cA (xMd.ar hb 13 (by decide) rfl)) (xin_in q10) (xd dk_N_push 17 rfl) ?_
  rw [wA (xMd.ar hb 13 (by decide) rfl)]
  replace hf := xlet_some hf
  generalize wI M (b + 13) x9.toNatClampNeg p3 = M at hf ⊢
  refine x_aload_n hc (xd dk_N_push 18 rfl) rfl rfl ?_
  refine x_get hc (ci := 10) (k := 23) fi_N (c_N hb _) rfl (by decide) rfl xw1166 rfl (xd dk_N_push 19 rfl) ?_
  refine x_aload_n hc (xd dk_N_push 20 rfl) rfl rfl ?_
  refine x_get hc (ci := 10) (k := 8) fi_N (c_N hb _) rfl (by decide) rfl xw1151 rfl (xd dk_N_push 21 rfl) ?_
  refine x_iload hc (xd dk_N_push 22 rfl) rfl ?_
  obtain ⟨x11, hx11, hf⟩ := xval_ex hf
  rw [← hx11]
  by_cases q12 : xin x11 300 = true
  case neg => rw [if_neg q12] at hf; cases hf
  rw [if_pos q12] at hf
  refine x_iast hc (cA (xMd.ar hb 14 (by decide) rfl)) (xin_in q12) (xd dk_N_push 23 rfl) ?_
  rw [wA (xMd.ar hb 14 (by decide) rfl)]
  replace hf := xlet_some hf
  generalize wI M (b + 14) x11.toNatClampNeg p4 = M at hf ⊢
  refine x_aload_n hc (xd dk_N_push 24 rfl) rfl rfl ?_
  refine x_dup hc (xd dk_N_push 25 rfl) rfl ?_
  refine x_get hc (ci := 10) (k := 8) fi_N (c_N hb _) rfl (by decide) rfl xw1151 rfl (xd dk_N_push 26 rfl) ?_
  refine x_iconst hc (v := 1) (xd dk_N_push 27 rfl) (by decide) ?_
  refine x_iadd hc (xd dk_N_push 28 rfl) ?_
  obtain ⟨x13, hx13, hf⟩ := xval_ex hf
  rw [← hx13]
  refine x_put hc (ci := 10) (k := 8) fi_N ft_N ft_N_ok fn_N (c_N hb _) rfl (by decide) rfl xw1151 rfl rfl rfl (Nat.le_of_ble_eq_true rfl) (xd dk_N_push 29 rfl) ?_
  rw [w_N_8 hb]
  replace hf := xlet_some hf
  generalize wI M b 8 x13 = M at hf ⊢
  cases hf
  exact x_return hc (xd dk_N_push 30 rfl)
def f_N_is (b : Nat) (p1 : Int32) (M : xMem) : Option (Int32 × xMem) :=
  (if xin (M.1 b 7) 64 = true then if M.1 (b + 8) (M.1 b 7).toNatClampNeg = p1 then (some (1, M)) else (some (0, M)) else none)
set_option maxRecDepth 100000 in
set_option maxHeartbeats 400000 in
theorem s_N_is {l : Launch} {G : xG} {Y : xY} {sz : Nat} {b : Nat} {p1 : Int32}  (hb : xMd Y b) {M M' : xMem} {r : Int32} (hf : f_N_is b p1 M = some (r, M')) : xM l G y_N_is c_N_is 2 (some .boolean) 0 0 0 [.ref b, .int p1] (xo G Y M) sz (some (.int r)) (xo G Y M') sz := by
  unfold f_N_is at hf
  refine xM.of (k := 0) (L0 := [some (.ref b), some (.int p1)]) (by decide) (Nat.le_of_ble_eq_true rfl) rfl ?_
  intro p e s m args below meth c hc hnm
  have hR : xRm { frames := 0, cells := 0, slots := 0, locals := 48 * 0 } 0 := ⟨Nat.le_refl _, Nat.le_refl _⟩
  refine x_aload_n hc (xd dk_N_is 0 rfl) rfl rfl ?_
  refine x_get hc (ci := 10) (k := 17) fi_N (c_N hb _) rfl (by decide) rfl xw1160 rfl (xd dk_N_is 1 rfl) ?_
  refine x_aload_n hc (xd dk_N_is 2 rfl) rfl rfl ?_
  refine x_get hc (ci := 10) (k := 7) fi_N (c_N hb _) rfl (by decide) rfl xw1150 rfl (xd dk_N_is 3 rfl) ?_
  by_cases q3 : xin (M.1 b 7) 64 = true
  case neg => rw [if_neg q3] at hf; cases hf
  rw [if_pos q3] at hf
  refine x_iald hc (cA (xMd.ar hb 8 (by decide) rfl)) (xin_in q3) (xd dk_N_is 4 rfl) ?_
  refine x_iload_n hc (xd dk_N_is 5 rfl) rfl rfl ?_
  refine x_icmp_ne hc (tgt := 17) (xd dk_N_is 6 rfl) rfl (fun q4 => ?_) (fun q4 => ?_)
  · rw [if_neg q4] at hf
    refine x_iconst hc (v := 0) (xd dk_N_is 9 rfl) (by decide) ?_
    cases hf
    exact x_zreturn hc rfl (xd dk_N_is 10 rfl)
  · rw [if_pos q4] at hf
    refine x_iconst hc (v := 1) (xd dk_N_is 7 rfl) (by decide) ?_
    refine x_goto hc (tgt := 18) (xd dk_N_is 8 rfl) rfl ?_
    cases hf
    exact x_zreturn hc rfl (xd dk_N_is 10 rfl)
def f_N_wrongs (b : Nat) (p1 : Int32) (M : xMem) : Option (Unit × xMem) :=
  (if p1 = 0 then (some ((), M)) else (if 0 ≤ M.1 b 4 then (some ((), M)) else (if xin (M.1 b 7) 64 = true then xval (M.1 (b + 9) (M.1 b 7).toNatClampNeg) fun x5 => xlet (wI M b 4 x5) fun M => some ((), M) else none)))
set_option maxRecDepth 100000 in
set_option maxHeartbeats 400000 in
theorem s_N_wrongs {l : Launch} {G : xG} {Y : xY} {sz : Nat} {b : Nat} {p1 : Int32}  (hb : xMd Y b) {M M' : xMem} {r : Unit} (hf : f_N_wrongs b p1 M = some (r, M')) : xM l G y_N_wrongs c_N_wrongs 2 none 0 0 0 [.ref b, .int p1] (xo G Y M) sz none (xo G Y M') sz := by
  unfold f_N_wrongs at hf
  refine xM.of (k := 0) (L0 := [some (.ref b), some (.int p1)]) (by decide) (Nat.le_of_ble_eq_true rfl) rfl ?_
  intro p e s m args below meth c hc hnm
  have hR : xRm { frames := 0, cells := 0, slots := 0, locals := 48 * 0 } 0 := ⟨Nat.le_refl _, Nat.le_refl _⟩
  refine x_iload_n hc (xd dk_N_wrongs 0 rfl) rfl rfl ?_
  refine x_if_eq hc (tgt := 24) (xd dk_N_wrongs 1 rfl) rfl (fun q2 => ?_) (fun q2 => ?_)
  · rw [if_pos q2] at hf
    cases hf
    exact x_return hc (xd dk_N_wrongs 12 rfl)
  · rw [if_neg q2] at hf
    refine x_aload_n hc (xd dk_N_wrongs 2 rfl) rfl rfl ?_
    refine x_get hc (ci := 10) (k := 4) fi_N (c_N hb _) rfl (by decide) rfl xw1147 rfl (xd dk_N_wrongs 3 rfl) ?_
    refine x_if_ge hc (tgt := 24) (xd dk_N_wrongs 4 rfl) rfl (fun q3 => ?_) (fun q3 => ?_)
    · rw [if_pos q3] at hf
      cases hf
      exact x_return hc (xd dk_N_wrongs 12 rfl)
    · rw [if_neg q3] at hf
      refine x_aload_n hc (xd dk_N_wrongs 5 rfl) rfl rfl ?_
      refine x_aload_n hc (xd dk_N_wrongs 6 rfl) rfl rfl ?_
      refine x_get hc (ci := 10) (k := 18) fi_N (c_N hb _) rfl (by decide) rfl xw1161 rfl (xd dk_N_wrongs 7 rfl) ?_
      refine x_aload_n hc (xd dk_N_wrongs 8 rfl) rfl rfl ?_
      refine x_get hc (ci := 10) (k := 7) fi_N (c_N hb _) rfl (by decide) rfl xw1150 rfl (xd dk_N_wrongs 9 rfl) ?_
      by_cases q4 : xin (M.1 b 7) 64 = true
      case neg => rw [if_neg q4] at hf; cases hf
      rw [if_pos q4] at hf
      refine x_iald hc (cA (xMd.ar hb 9 (by decide) rfl)) (xin_in q4) (xd dk_N_wrongs 10 rfl) ?_
      obtain ⟨x5, hx5, hf⟩ := xval_ex hf
      rw [← hx5]
      refine x_put hc (ci := 10) (k := 4) fi_N ft_N ft_N_ok fn_N (c_N hb _) rfl (by decide) rfl xw1147 rfl rfl rfl (Nat.le_of_ble_eq_true rfl) (xd dk_N_wrongs 11 rfl) ?_
      rw [w_N_4 hb]
      replace hf := xlet_some hf
      generalize wI M b 4 x5 = M at hf ⊢
      cases hf
      exact x_return hc (xd dk_N_wrongs 12 rfl)
def f_N_excusing_47 (b : Nat) (p1 : Int32) (p2 : Int32) (p3 : Int32) (w1 : Int32) (M : xMem) : Option (Unit × xMem) :=
  (xbind (f_N_wrongs b w1 M) fun r16 M => if M.1 b 4 < 0 then (if xin (M.1 b 7) 64 = true then if xin (M.1 (b + 9) (M.1 b 7).toNatClampNeg) 160 = true then xval ((M.1 (b + 2) (M.1 (b + 9) (M.1 b 7).toNatClampNeg).toNatClampNeg) - 48) fun x21 => xval (M.1 b 60) fun x22 => if xin x22 64 = true then xlet (wI M (b + 36) x22.toNatClampNeg x21) fun M => xval ((M.1 b 7) + 1) fun x24 => xlet (wI M b 7 x24) fun M => if xin (M.1 b 7) 64 = true then xval (M.1 (b + 9) (M.1 b 7).toNatClampNeg) fun x26 => xval (M.1 b 60) fun x27 => if xin x27 64 = true then xlet (wI M (b + 37) x27.toNatClampNeg x26) fun M => xval (M.1 b 60) fun x29 => xbind (f_N_push b 10 p1 x29 0 M) fun r30 M => xval ((M.1 b 60) + 1) fun x32 => xlet (wI M b 60 x32) fun M => xbind (f_N_push b 2 (p1 + 1) p2 (p3 ||| 2) M) fun r33 M => some ((), M) else none else none else none else none else none) else (some ((), M)))
def f_N_excusing_42 (b : Nat) (p1 : Int32) (p2 : Int32) (p3 : Int32) (M : xMem) : Option (Unit × xMem) :=
  (f_N_excusing_47 b p1 p2 p3 1 M)
def f_N_excusing (b : Nat) (p1 : Int32) (p2 : Int32) (p3 : Int32) (M : xMem) : Option (Unit × xMem) :=
  (xval ((M.1 b 7) + 1) fun x35 => xlet (wI M b 7 x35) fun M => xbind (f_N_is b 2 M) fun r36 M => if r36 = 0 then (f_N_excusing_42 b p1 p2 p3 M) else (if xin (M.1 b 7) 64 = true then if xin (M.1 b 7) 64 = true then if ((M.1 (b + 10) (M.1 b 7).toNatClampNeg) - (M.1 (b + 9) (M.1 b 7).toNatClampNeg)) = 1 then (f_N_excusing_47 b p1 p2 p3 0 M) else (f_N_excusing_42 b p1 p2 p3 M) else none else none))
set_option maxRecDepth 100000 in
set_option maxHeartbeats 400000 in
theorem s_N_excusing_47 {p : Program} {l : Launch} {e : Env} {R : Room} {s : State} {m : MethodId} {args : Array Value} {below : List Frame} {meth : Method} {c : Code} {G : xG} {Y : xY} {sz : Nat} {b : Nat} {p1 : Int32} {p2 : Int32} {p3 : Int32}  (hc : xC p s m args meth c G 4 c_N_excusing y_N_excusing.cls none) (hR : xRm R 1) (hb : xMd Y b) {M' : xMem} {r : Unit} (w1 : Int32) (M : xMem) (hf : f_N_excusing_47 b p1 p2 p3 w1 M = some (r, M')) : xW p l e R s m args below meth c G 4 (MQ below (xQc G none (xo G Y M') sz) args s 0 0 (xA G)) (xo G Y M) sz 0 0 47 [some (.ref b), some (.int p1), some (.int p2), some (.int p3)] [.int w1, .ref b] := by
  unfold f_N_excusing_47 at hf
  obtain ⟨r16, M, e17, hf⟩ := xbind_some hf
  refine x_callV hc (As := [.int w1]) (n := 1) (s_N_wrongs hb e17) (c_N hb _) rfl (hR.call (by decide) (by decide)) ⟨by decide, by decide, by decide⟩ rfl rfl xw1090 xw18 xw1087 xw1089 xs_N_wrongs (Nat.le_of_ble_eq_true rfl) ⟨Nat.zero_le _, Nat.zero_le _⟩ (xd dk_N_excusing 27 rfl) ?_
  refine x_aload_n hc (xd dk_N_excusing 28 rfl) rfl rfl ?_
  refine x_get hc (ci := 10) (k := 4) fi_N (c_N hb _) rfl (by decide) rfl xw1147 rfl (xd dk_N_excusing 29 rfl) ?_
  refine x_if_lt hc (tgt := 58) (xd dk_N_excusing 30 rfl) rfl (fun q18 => ?_) (fun q18 => ?_)
  · rw [if_pos q18] at hf
    refine x_aload_n hc (xd dk_N_excusing 32 rfl) rfl rfl ?_
    refine x_get hc (ci := 10) (k := 50) fi_N (c_N hb _) rfl (by decide) rfl xw1193 rfl (xd dk_N_excusing 33 rfl) ?_
    refine x_aload_n hc (xd dk_N_excusing 34 rfl) rfl rfl ?_
    refine x_get hc (ci := 10) (k := 60) fi_N (c_N hb _) rfl (by decide) rfl xw1203 rfl (xd dk_N_excusing 35 rfl) ?_
    refine x_aload_n hc (xd dk_N_excusing 36 rfl) rfl rfl ?_
    refine x_get hc (ci := 10) (k := 11) fi_N (c_N hb _) rfl (by decide) rfl xw1154 rfl (xd dk_N_excusing 37 rfl) ?_
    refine x_aload_n hc (xd dk_N_excusing 38 rfl) rfl rfl ?_
    refine x_get hc (ci := 10) (k := 18) fi_N (c_N hb _) rfl (by decide) rfl xw1161 rfl (xd dk_N_excusing 39 rfl) ?_
    refine x_aload_n hc (xd dk_N_excusing 40 rfl) rfl rfl ?_
    refine x_get hc (ci := 10) (k := 7) fi_N (c_N hb _) rfl (by decide) rfl xw1150 rfl (xd dk_N_excusing 41 rfl) ?_
    by_cases q19 : xin (M.1 b 7) 64 = true
    case neg => rw [if_neg q19] at hf; cases hf
    rw [if_pos q19] at hf
    refine x_iald hc (cA (xMd.ar hb 9 (by decide) rfl)) (xin_in q19) (xd dk_N_excusing 42 rfl) ?_
    by_cases q20 : xin (M.1 (b + 9) (M.1 b 7).toNatClampNeg) 160 = true
    case neg => rw [if_neg q20] at hf; cases hf
    rw [if_pos q20] at hf
    refine x_iald hc (cA (xMd.ar hb 2 (by decide) rfl)) (xin_in q20) (xd dk_N_excusing 43 rfl) ?_
    refine x_bipush hc (v := 48) (xd dk_N_excusing 44 rfl) (by decide) ?_
    refine x_isub hc (xd dk_N_excusing 45 rfl) ?_
    obtain ⟨x21, hx21, hf⟩ := xval_ex hf
    rw [← hx21]
    obtain ⟨x22, hx22, hf⟩ := xval_ex hf
    rw [← hx22]
    by_cases q23 : xin x22 64 = true
    case neg => rw [if_neg q23] at hf; cases hf
    rw [if_pos q23] at hf
    refine x_iast hc (cA (xMd.ar hb 36 (by decide) rfl)) (xin_in q23) (xd dk_N_excusing 46 rfl) ?_
    rw [wA (xMd.ar hb 36 (by decide) rfl)]
    replace hf := xlet_some hf
    generalize wI M (b + 36) x22.toNatClampNeg x21 = M at hf ⊢
    refine x_aload_n hc (xd dk_N_excusing 47 rfl) rfl rfl ?_
    refine x_dup hc (xd dk_N_excusing 48 rfl) rfl ?_
    refine x_get hc (ci := 10) (k := 7) fi_N (c_N hb _) rfl (by decide) rfl xw1150 rfl (xd dk_N_excusing 49 rfl) ?_
    refine x_iconst hc (v := 1) (xd dk_N_excusing 50 rfl) (by decide) ?_
    refine x_iadd hc (xd dk_N_excusing 51 rfl) ?_
    obtain ⟨x24, hx24, hf⟩ := xval_ex hf
    rw [← hx24]
    refine x_put hc (ci := 10) (k := 7) fi_N ft_N ft_N_ok fn_N (c_N hb _) rfl (by decide) rfl xw1150 rfl rfl rfl (Nat.le_of_ble_eq_true rfl) (xd dk_N_excusing 52 rfl) ?_
    rw [w_N_7 hb]
    replace hf := xlet_some hf
    generalize wI M b 7 x24 = M at hf ⊢
    refine x_aload_n hc (xd dk_N_excusing 53 rfl) rfl rfl ?_
    refine x_get hc (ci := 10) (k := 51) fi_N (c_N hb _) rfl (by decide) rfl xw1194 rfl (xd dk_N_excusing 54 rfl) ?_
    refine x_aload_n hc (xd dk_N_excusing 55 rfl) rfl rfl ?_
    refine x_get hc (ci := 10) (k := 60) fi_N (c_N hb _) rfl (by decide) rfl xw1203 rfl (xd dk_N_excusing 56 rfl) ?_
    refine x_aload_n hc (xd dk_N_excusing 57 rfl) rfl rfl ?_
    refine x_get hc (ci := 10) (k := 18) fi_N (c_N hb _) rfl (by decide) rfl xw1161 rfl (xd dk_N_excusing 58 rfl) ?_
    refine x_aload_n hc (xd dk_N_excusing 59 rfl) rfl rfl ?_
    refine x_get hc (ci := 10) (k := 7) fi_N (c_N hb _) rfl (by decide) rfl xw1150 rfl (xd dk_N_excusing 60 rfl) ?_
    by_cases q25 : xin (M.1 b 7) 64 = true
    case neg => rw [if_neg q25] at hf; cases hf
    rw [if_pos q25] at hf
    refine x_iald hc (cA (xMd.ar hb 9 (by decide) rfl)) (xin_in q25) (xd dk_N_excusing 61 rfl) ?_
    obtain ⟨x26, hx26, hf⟩ := xval_ex hf
    rw [← hx26]
    obtain ⟨x27, hx27, hf⟩ := xval_ex hf
    rw [← hx27]
    by_cases q28 : xin x27 64 = true
    case neg => rw [if_neg q28] at hf; cases hf
    rw [if_pos q28] at hf
    refine x_iast hc (cA (xMd.ar hb 37 (by decide) rfl)) (xin_in q28) (xd dk_N_excusing 62 rfl) ?_
    rw [wA (xMd.ar hb 37 (by decide) rfl)]
    replace hf := xlet_some hf
    generalize wI M (b + 37) x27.toNatClampNeg x26 = M at hf ⊢
    refine x_aload_n hc (xd dk_N_excusing 63 rfl) rfl rfl ?_
    refine x_bipush hc (v := 10) (xd dk_N_excusing 64 rfl) (by decide) ?_
    refine x_iload_n hc (xd dk_N_excusing 65 rfl) rfl rfl ?_
    refine x_aload_n hc (xd dk_N_excusing 66 rfl) rfl rfl ?_
    refine x_get hc (ci := 10) (k := 60) fi_N (c_N hb _) rfl (by decide) rfl xw1203 rfl (xd dk_N_excusing 67 rfl) ?_
    refine x_iconst hc (v := 0) (xd dk_N_excusing 68 rfl) (by decide) ?_
    obtain ⟨x29, hx29, hf⟩ := xval_ex hf
    rw [← hx29]
    obtain ⟨r30, M, e31, hf⟩ := xbind_some hf
    refine x_callV hc (As := [.int 10, .int p1, .int x29, .int 0]) (n := 4) (s_N_push hb e31) (c_N hb _) rfl (hR.call (by decide) (by decide)) ⟨by decide, by decide, by decide⟩ rfl rfl xw1078 xw18 xw1075 xw1077 xs_N_push (Nat.le_of_ble_eq_true rfl) ⟨Nat.zero_le _, Nat.zero_le _⟩ (xd dk_N_excusing 69 rfl) ?_
    refine x_aload_n hc (xd dk_N_excusing 70 rfl) rfl rfl ?_
    refine x_dup hc (xd dk_N_excusing 71 rfl) rfl ?_
    refine x_get hc (ci := 10) (k := 60) fi_N (c_N hb _) rfl (by decide) rfl xw1203 rfl (xd dk_N_excusing 72 rfl) ?_
    refine x_iconst hc (v := 1) (xd dk_N_excusing 73 rfl) (by decide) ?_
    refine x_iadd hc (xd dk_N_excusing 74 rfl) ?_
    obtain ⟨x32, hx32, hf⟩ := xval_ex hf
    rw [← hx32]
    refine x_put hc (ci := 10) (k := 60) fi_N ft_N ft_N_ok fn_N (c_N hb _) rfl (by decide) rfl xw1203 rfl rfl rfl (Nat.le_of_ble_eq_true rfl) (xd dk_N_excusing 75 rfl) ?_
    rw [w_N_60 hb]
    replace hf := xlet_some hf
    generalize wI M b 60 x32 = M at hf ⊢
    refine x_aload_n hc (xd dk_N_excusing 76 rfl) rfl rfl ?_
    refine x_iconst hc (v := 2) (xd dk_N_excusing 77 rfl) (by decide) ?_
    refine x_iload_n hc (xd dk_N_excusing 78 rfl) rfl rfl ?_
    refine x_iconst hc (v := 1) (xd dk_N_excusing 79 rfl) (by decide) ?_
    refine x_iadd hc (xd dk_N_excusing 80 rfl) ?_
    refine x_iload_n hc (xd dk_N_excusing 81 rfl) rfl rfl ?_
    refine x_iload_n hc (xd dk_N_excusing 82 rfl) rfl rfl ?_
    refine x_iconst hc (v := 2) (xd dk_N_excusing 83 rfl) (by decide) ?_
    refine x_ior hc (xd dk_N_excusing 84 rfl) ?_
    obtain ⟨r33, M, e34, hf⟩ := xbind_some hf
    refine x_callV hc (As := [.int 2, .int ((p1 + 1)), .int p2, .int ((p3 ||| 2))]) (n := 4) (s_N_push hb e34) (c_N hb _) rfl (hR.call (by decide) (by decide)) ⟨by decide, by decide, by decide⟩ rfl rfl xw1078 xw18 xw1075 xw1077 xs_N_push (Nat.le_of_ble_eq_true rfl) ⟨Nat.zero_le _, Nat.zero_le _⟩ (xd dk_N_excusing 85 rfl) ?_
    cases hf
    exact x_return hc (xd dk_N_excusing 86 rfl)
  · rw [if_neg q18] at hf
    cases hf
    exact x_return hc (xd dk_N_excusing 31 rfl)
set_option maxRecDepth 100000 in
set_option maxHeartbeats 400000 in
theorem s_N_excusing_42 {p : Program} {l : Launch} {e : Env} {R : Room} {s : State} {m : MethodId} {args : Array Value} {below : List Frame} {meth : Method} {c : Code} {G : xG} {Y : xY} {sz : Nat} {b : Nat} {p1 : Int32} {p2 : Int32} {p3 : Int32}  (hc : xC p s m args meth c G 4 c_N_excusing y_N_excusing.cls none) (hR : xRm R 1) (hb : xMd Y b) {M' : xMem} {r : Unit} (M : xMem) (hf : f_N_excusing_42 b p1 p2 p3 M = some (r, M')) : xW p l e R s m args below meth c G 4 (MQ below (xQc G none (xo G Y M') sz) args s 0 0 (xA G)) (xo G Y M) sz 0 0 42 [some (.ref b), some (.int p1), some (.int p2), some (.int p3)] [.ref b] := by
  unfold f_N_excusing_42 at hf
  refine x_iconst hc (v := 1) (xd dk_N_excusing 24 rfl) (by decide) ?_
  refine x_goto hc (tgt := 47) (xd dk_N_excusing 25 rfl) rfl ?_
  exact s_N_excusing_47 hc hR hb 1 M hf
set_option maxRecDepth 100000 in
set_option maxHeartbeats 400000 in
theorem s_N_excusing {l : Launch} {G : xG} {Y : xY} {sz : Nat} {b : Nat} {p1 : Int32} {p2 : Int32} {p3 : Int32}  (hb : xMd Y b) {M M' : xMem} {r : Unit} (hf : f_N_excusing b p1 p2 p3 M = some (r, M')) : xM l G y_N_excusing c_N_excusing 4 none 1 0 0 [.ref b, .int p1, .int p2, .int p3] (xo G Y M) sz none (xo G Y M') sz := by
  unfold f_N_excusing at hf
  refine xM.of (k := 0) (L0 := [some (.ref b), some (.int p1), some (.int p2), some (.int p3)]) (by decide) (Nat.le_of_ble_eq_true rfl) rfl ?_
  intro p e s m args below meth c hc hnm
  have hR : xRm { frames := 1, cells := 0, slots := 0, locals := 48 * 1 } 1 := ⟨Nat.le_refl _, Nat.le_refl _⟩
  refine x_aload_n hc (xd dk_N_excusing 0 rfl) rfl rfl ?_
  refine x_dup hc (xd dk_N_excusing 1 rfl) rfl ?_
  refine x_get hc (ci := 10) (k := 7) fi_N (c_N hb _) rfl (by decide) rfl xw1150 rfl (xd dk_N_excusing 2 rfl) ?_
  refine x_iconst hc (v := 1) (xd dk_N_excusing 3 rfl) (by decide) ?_
  refine x_iadd hc (xd dk_N_excusing 4 rfl) ?_
  obtain ⟨x35, hx35, hf⟩ := xval_ex hf
  rw [← hx35]
  refine x_put hc (ci := 10) (k := 7) fi_N ft_N ft_N_ok fn_N (c_N hb _) rfl (by decide) rfl xw1150 rfl rfl rfl (Nat.le_of_ble_eq_true rfl) (xd dk_N_excusing 5 rfl) ?_
  rw [w_N_7 hb]
  replace hf := xlet_some hf
  generalize wI M b 7 x35 = M at hf ⊢
  refine x_aload_n hc (xd dk_N_excusing 6 rfl) rfl rfl ?_
  refine x_aload_n hc (xd dk_N_excusing 7 rfl) rfl rfl ?_
  refine x_iconst hc (v := 2) (xd dk_N_excusing 8 rfl) (by decide) ?_
  obtain ⟨r36, M, e37, hf⟩ := xbind_some hf
  refine x_callV hc (As := [.int 2]) (n := 1) (s_N_is hb e37) (c_N hb _) rfl (hR.call (by decide) (by decide)) ⟨by decide, by decide, by decide⟩ rfl rfl xw1082 xw18 xw1079 xw1081 xs_N_is (Nat.le_of_ble_eq_true rfl) ⟨Nat.zero_le _, Nat.zero_le _⟩ (xd dk_N_excusing 9 rfl) ?_
  refine x_if_eq hc (tgt := 42) (xd dk_N_excusing 10 rfl) rfl (fun q38 => ?_) (fun q38 => ?_)
  · rw [if_pos q38] at hf
    exact s_N_excusing_42 hc hR hb M hf
  · rw [if_neg q38] at hf
    refine x_aload_n hc (xd dk_N_excusing 11 rfl) rfl rfl ?_
    refine x_get hc (ci := 10) (k := 19) fi_N (c_N hb _) rfl (by decide) rfl xw1162 rfl (xd dk_N_excusing 12 rfl) ?_
    refine x_aload_n hc (xd dk_N_excusing 13 rfl) rfl rfl ?_
    refine x_get hc (ci := 10) (k := 7) fi_N (c_N hb _) rfl (by decide) rfl xw1150 rfl (xd dk_N_excusing 14 rfl) ?_
    by_cases q39 : xin (M.1 b 7) 64 = true
    case neg => rw [if_neg q39] at hf; cases hf
    rw [if_pos q39] at hf
    refine x_iald hc (cA (xMd.ar hb 10 (by decide) rfl)) (xin_in q39) (xd dk_N_excusing 15 rfl) ?_
    refine x_aload_n hc (xd dk_N_excusing 16 rfl) rfl rfl ?_
    refine x_get hc (ci := 10) (k := 18) fi_N (c_N hb _) rfl (by decide) rfl xw1161 rfl (xd dk_N_excusing 17 rfl) ?_
    refine x_aload_n hc (xd dk_N_excusing 18 rfl) rfl rfl ?_
    refine x_get hc (ci := 10) (k := 7) fi_N (c_N hb _) rfl (by decide) rfl xw1150 rfl (xd dk_N_excusing 19 rfl) ?_
    by_cases q40 : xin (M.1 b 7) 64 = true
    case neg => rw [if_neg q40] at hf; cases hf
    rw [if_pos q40] at hf
    refine x_iald hc (cA (xMd.ar hb 9 (by decide) rfl)) (xin_in q40) (xd dk_N_excusing 20 rfl) ?_
    refine x_isub hc (xd dk_N_excusing 21 rfl) ?_
    refine x_iconst hc (v := 1) (xd dk_N_excusing 22 rfl) (by decide) ?_
    refine x_icmp_eq hc (tgt := 46) (xd dk_N_excusing 23 rfl) rfl (fun q41 => ?_) (fun q41 => ?_)
    · rw [if_pos q41] at hf
      refine x_iconst hc (v := 0) (xd dk_N_excusing 26 rfl) (by decide) ?_
      exact s_N_excusing_47 hc hR hb 0 M hf
    · rw [if_neg q41] at hf
      exact s_N_excusing_42 hc hR hb M hf
def f_N_takes_14 (b : Nat) (p1 : Int32) (w1 : Int32) (M : xMem) : Option (Unit × xMem) :=
  (xbind (f_N_wrongs b w1 M) fun r5 M => if 0 ≤ M.1 b 4 then (some ((), M)) else (xval ((M.1 b 7) + 1) fun x8 => xlet (wI M b 7 x8) fun M => some ((), M)))
def f_N_takes (b : Nat) (p1 : Int32) (M : xMem) : Option (Unit × xMem) :=
  (xbind (f_N_is b p1 M) fun r9 M => if r9 = 0 then (f_N_takes_14 b p1 1 M) else (f_N_takes_14 b p1 0 M))
set_option maxRecDepth 100000 in
set_option maxHeartbeats 400000 in
theorem s_N_takes_14 {p : Program} {l : Launch} {e : Env} {R : Room} {s : State} {m : MethodId} {args : Array Value} {below : List Frame} {meth : Method} {c : Code} {G : xG} {Y : xY} {sz : Nat} {b : Nat} {p1 : Int32}  (hc : xC p s m args meth c G 2 c_N_takes y_N_takes.cls none) (hR : xRm R 1) (hb : xMd Y b) {M' : xMem} {r : Unit} (w1 : Int32) (M : xMem) (hf : f_N_takes_14 b p1 w1 M = some (r, M')) : xW p l e R s m args below meth c G 2 (MQ below (xQc G none (xo G Y M') sz) args s 0 0 (xA G)) (xo G Y M) sz 0 0 14 [some (.ref b), some (.int p1)] [.int w1, .ref b] := by
  unfold f_N_takes_14 at hf
  obtain ⟨r5, M, e6, hf⟩ := xbind_some hf
  refine x_callV hc (As := [.int w1]) (n := 1) (s_N_wrongs hb e6) (c_N hb _) rfl (hR.call (by decide) (by decide)) ⟨by decide, by decide, by decide⟩ rfl rfl xw1090 xw18 xw1087 xw1089 xs_N_wrongs (Nat.le_of_ble_eq_true rfl) ⟨Nat.zero_le _, Nat.zero_le _⟩ (xd dk_N_takes 8 rfl) ?_
  refine x_aload_n hc (xd dk_N_takes 9 rfl) rfl rfl ?_
  refine x_get hc (ci := 10) (k := 4) fi_N (c_N hb _) rfl (by decide) rfl xw1147 rfl (xd dk_N_takes 10 rfl) ?_
  refine x_if_ge hc (tgt := 34) (xd dk_N_takes 11 rfl) rfl (fun q7 => ?_) (fun q7 => ?_)
  · rw [if_pos q7] at hf
    cases hf
    exact x_return hc (xd dk_N_takes 18 rfl)
  · rw [if_neg q7] at hf
    refine x_aload_n hc (xd dk_N_takes 12 rfl) rfl rfl ?_
    refine x_dup hc (xd dk_N_takes 13 rfl) rfl ?_
    refine x_get hc (ci := 10) (k := 7) fi_N (c_N hb _) rfl (by decide) rfl xw1150 rfl (xd dk_N_takes 14 rfl) ?_
    refine x_iconst hc (v := 1) (xd dk_N_takes 15 rfl) (by decide) ?_
    refine x_iadd hc (xd dk_N_takes 16 rfl) ?_
    obtain ⟨x8, hx8, hf⟩ := xval_ex hf
    rw [← hx8]
    refine x_put hc (ci := 10) (k := 7) fi_N ft_N ft_N_ok fn_N (c_N hb _) rfl (by decide) rfl xw1150 rfl rfl rfl (Nat.le_of_ble_eq_true rfl) (xd dk_N_takes 17 rfl) ?_
    rw [w_N_7 hb]
    replace hf := xlet_some hf
    generalize wI M b 7 x8 = M at hf ⊢
    cases hf
    exact x_return hc (xd dk_N_takes 18 rfl)
set_option maxRecDepth 100000 in
set_option maxHeartbeats 400000 in
theorem s_N_takes {l : Launch} {G : xG} {Y : xY} {sz : Nat} {b : Nat} {p1 : Int32}  (hb : xMd Y b) {M M' : xMem} {r : Unit} (hf : f_N_takes b p1 M = some (r, M')) : xM l G y_N_takes c_N_takes 2 none 1 0 0 [.ref b, .int p1] (xo G Y M) sz none (xo G Y M') sz := by
  unfold f_N_takes at hf
  refine xM.of (k := 0) (L0 := [some (.ref b), some (.int p1)]) (by decide) (Nat.le_of_ble_eq_true rfl) rfl ?_
  intro p e s m args below meth c hc hnm
  have hR : xRm { frames := 1, cells := 0, slots := 0, locals := 48 * 1 } 1 := ⟨Nat.le_refl _, Nat.le_refl _⟩
  refine x_aload_n hc (xd dk_N_takes 0 rfl) rfl rfl ?_
  refine x_aload_n hc (xd dk_N_takes 1 rfl) rfl rfl ?_
  refine x_iload_n hc (xd dk_N_takes 2 rfl) rfl rfl ?_
  obtain ⟨r9, M, e10, hf⟩ := xbind_some hf
  refine x_callV hc (As := [.int p1]) (n := 1) (s_N_is hb e10) (c_N hb _) rfl (hR.call (by decide) (by decide)) ⟨by decide, by decide, by decide⟩ rfl rfl xw1082 xw18 xw1079 xw1081 xs_N_is (Nat.le_of_ble_eq_true rfl) ⟨Nat.zero_le _, Nat.zero_le _⟩ (xd dk_N_takes 3 rfl) ?_
  refine x_if_ne hc (tgt := 13) (xd dk_N_takes 4 rfl) rfl (fun q11 => ?_) (fun q11 => ?_)
  · rw [if_neg q11] at hf
    refine x_iconst hc (v := 0) (xd dk_N_takes 7 rfl) (by decide) ?_
    exact s_N_takes_14 hc hR hb 0 M hf
  · rw [if_pos q11] at hf
    refine x_iconst hc (v := 1) (xd dk_N_takes 5 rfl) (by decide) ?_
    refine x_goto hc (tgt := 14) (xd dk_N_takes 6 rfl) rfl ?_
    exact s_N_takes_14 hc hR hb 1 M hf
def f_N_fnAround_2 (b : Nat) (p1 : Int32) : Nat → Int32 → xMem → Option (Int32 × xMem)
  | 0, _, _ => none
  | n + 1, v2, M =>
    (if xin v2 64 = true then if M.1 (b + 17) v2.toNatClampNeg = 0 then (if xin v2 64 = true then f_N_fnAround_2 b p1 n (M.1 (b + 15) v2.toNatClampNeg) M else none) else (some (v2, M)) else none)
def f_N_fnAround (b : Nat) (p1 : Int32) (M : xMem) : Option (Int32 × xMem) :=
  (f_N_fnAround_2 b p1 xFuel p1 M)
set_option maxRecDepth 100000 in
set_option maxHeartbeats 400000 in
theorem s_N_fnAround_2 {p : Program} {l : Launch} {e : Env} {R : Room} {s : State} {m : MethodId} {args : Array Value} {below : List Frame} {meth : Method} {c : Code} {G : xG} {Y : xY} {sz : Nat} {b : Nat} {p1 : Int32}  (hc : xC p s m args meth c G 3 c_N_fnAround y_N_fnAround.cls (some .int)) (hR : xRm R 0) (hb : xMd Y b) {M' : xMem} {r : Int32} : ∀ (n : Nat) (v2 : Int32) (M : xMem), f_N_fnAround_2 b p1 n v2 M = some (r, M') → xW p l e R s m args below meth c G 3 (MQ below (xQc G (some (.int r)) (xo G Y M') sz) args s 0 0 (xA G)) (xo G Y M) sz 0 0 2 [some (.ref b), some (.int p1), some (.int v2)] [] := by
  intro n
  induction n with
  | zero => intro v2 M hf; simp only [f_N_fnAround_2] at hf; cases hf
  | succ n ih =>
    intro v2 M hf
    simp only [f_N_fnAround_2] at hf
    refine x_aload_n hc (xd dk_N_fnAround 2 rfl) rfl rfl ?_
    refine x_get hc (ci := 10) (k := 26) fi_N (c_N hb _) rfl (by decide) rfl xw1169 rfl (xd dk_N_fnAround 3 rfl) ?_
    refine x_iload_n hc (xd dk_N_fnAround 4 rfl) rfl rfl ?_
    by_cases q5 : xin v2 64 = true
    case neg => rw [if_neg q5] at hf; cases hf
    rw [if_pos q5] at hf
    refine x_zald hc (cA (xMd.ar hb 17 (by decide) rfl)) (xin_in q5) (xd dk_N_fnAround 5 rfl) ?_
    refine x_if_ne hc (tgt := 21) (xd dk_N_fnAround 6 rfl) rfl (fun q6 => ?_) (fun q6 => ?_)
    · rw [if_neg q6] at hf
      refine x_iload_n hc (xd dk_N_fnAround 13 rfl) rfl rfl ?_
      cases hf
      exact x_ireturn hc (xd dk_N_fnAround 14 rfl)
    · rw [if_pos q6] at hf
      refine x_aload_n hc (xd dk_N_fnAround 7 rfl) rfl rfl ?_
      refine x_get hc (ci := 10) (k := 24) fi_N (c_N hb _) rfl (by decide) rfl xw1167 rfl (xd dk_N_fnAround 8 rfl) ?_
      refine x_iload_n hc (xd dk_N_fnAround 9 rfl) rfl rfl ?_
      by_cases q7 : xin v2 64 = true
      case neg => rw [if_neg q7] at hf; cases hf
      rw [if_pos q7] at hf
      refine x_iald hc (cA (xMd.ar hb 15 (by decide) rfl)) (xin_in q7) (xd dk_N_fnAround 10 rfl) ?_
      refine x_istore_n hc (xd dk_N_fnAround 11 rfl) (by decide) rfl ?_
      refine x_goto hc (tgt := 2) (xd dk_N_fnAround 12 rfl) rfl ?_
      exact ih (M.1 (b + 15) v2.toNatClampNeg) M hf
set_option maxRecDepth 100000 in
set_option maxHeartbeats 400000 in
theorem s_N_fnAround {l : Launch} {G : xG} {Y : xY} {sz : Nat} {b : Nat} {p1 : Int32}  (hb : xMd Y b) {M M' : xMem} {r : Int32} (hf : f_N_fnAround b p1 M = some (r, M')) : xM l G y_N_fnAround c_N_fnAround 3 (some .int) 0 0 0 [.ref b, .int p1] (xo G Y M) sz (some (.int r)) (xo G Y M') sz := by
  unfold f_N_fnAround at hf
  refine xM.of (k := 1) (L0 := [some (.ref b), some (.int p1), none]) (by decide) (Nat.le_of_ble_eq_true rfl) rfl ?_
  intro p e s m args below meth c hc hnm
  have hR : xRm { frames := 0, cells := 0, slots := 0, locals := 48 * 0 } 0 := ⟨Nat.le_refl _, Nat.le_refl _⟩
  refine x_iload_n hc (xd dk_N_fnAround 0 rfl) rfl rfl ?_
  refine x_istore_n hc (xd dk_N_fnAround 1 rfl) (by decide) rfl ?_
  exact s_N_fnAround_2 hc hR hb xFuel p1 M hf
def f_N_alike_36 (b : Nat) (p1 : Int32) (p2 : Int32) : Nat → Int32 → Int32 → xMem → Option (Int32 × xMem)
  | 0, _, _, _ => none
  | n + 1, v3, v4, M =>
    (if v3 ≤ v4 then (some (1, M)) else (if xin p1 64 = true then if xin ((M.1 (b + 9) p1.toNatClampNeg) + v4) 160 = true then if xin p2 64 = true then if xin ((M.1 (b + 9) p2.toNatClampNeg) + v4) 160 = true then if M.1 (b + 2) ((M.1 (b + 9) p1.toNatClampNeg) + v4).toNatClampNeg = M.1 (b + 2) ((M.1 (b + 9) p2.toNatClampNeg) + v4).toNatClampNeg then (f_N_alike_36 b p1 p2 n v3 (v4 + Int32.ofInt 1) M) else (some (0, M)) else none else none else none else none))
def f_N_alike (b : Nat) (p1 : Int32) (p2 : Int32) (M : xMem) : Option (Int32 × xMem) :=
  (if xin p1 64 = true then if xin p1 64 = true then if xin p2 64 = true then if xin p2 64 = true then if ((M.1 (b + 10) p2.toNatClampNeg) - (M.1 (b + 9) p2.toNatClampNeg)) = ((M.1 (b + 10) p1.toNatClampNeg) - (M.1 (b + 9) p1.toNatClampNeg)) then (f_N_alike_36 b p1 p2 xFuel ((M.1 (b + 10) p1.toNatClampNeg) - (M.1 (b + 9) p1.toNatClampNeg)) 0 M) else (some (0, M)) else none else none else none else none)
set_option maxRecDepth 100000 in
set_option maxHeartbeats 400000 in
theorem s_N_alike_36 {p : Program} {l : Launch} {e : Env} {R : Room} {s : State} {m : MethodId} {args : Array Value} {below : List Frame} {meth : Method} {c : Code} {G : xG} {Y : xY} {sz : Nat} {b : Nat} {p1 : Int32} {p2 : Int32}  (hc : xC p s m args meth c G 5 c_N_alike y_N_alike.cls (some .boolean)) (hR : xRm R 0) (hb : xMd Y b) {M' : xMem} {r : Int32} : ∀ (n : Nat) (v3 : Int32) (v4 : Int32) (M : xMem), f_N_alike_36 b p1 p2 n v3 v4 M = some (r, M') → xW p l e R s m args below meth c G 5 (MQ below (xQc G (some (.int r)) (xo G Y M') sz) args s 0 0 (xA G)) (xo G Y M) sz 0 0 36 [some (.ref b), some (.int p1), some (.int p2), some (.int v3), some (.int v4)] [] := by
  intro n
  induction n with
  | zero => intro v3 v4 M hf; simp only [f_N_alike_36] at hf; cases hf
  | succ n ih =>
    intro v3 v4 M hf
    simp only [f_N_alike_36] at hf
    refine x_iload hc (xd dk_N_alike 25 rfl) rfl ?_
    refine x_iload_n hc (xd dk_N_alike 26 rfl) rfl rfl ?_
    refine x_icmp_ge hc (tgt := 81) (xd dk_N_alike 27 rfl) rfl (fun q12 => ?_) (fun q12 => ?_)
    · rw [if_pos q12] at hf
      refine x_iconst hc (v := 1) (xd dk_N_alike 51 rfl) (by decide) ?_
      cases hf
      exact x_zreturn hc rfl (xd dk_N_alike 52 rfl)
    · rw [if_neg q12] at hf
      refine x_aload_n hc (xd dk_N_alike 28 rfl) rfl rfl ?_
      refine x_get hc (ci := 10) (k := 11) fi_N (c_N hb _) rfl (by decide) rfl xw1154 rfl (xd dk_N_alike 29 rfl) ?_
      refine x_aload_n hc (xd dk_N_alike 30 rfl) rfl rfl ?_
      refine x_get hc (ci := 10) (k := 18) fi_N (c_N hb _) rfl (by decide) rfl xw1161 rfl (xd dk_N_alike 31 rfl) ?_
      refine x_iload_n hc (xd dk_N_alike 32 rfl) rfl rfl ?_
      by_cases q13 : xin p1 64 = true
      case neg => rw [if_neg q13] at hf; cases hf
      rw [if_pos q13] at hf
      refine x_iald hc (cA (xMd.ar hb 9 (by decide) rfl)) (xin_in q13) (xd dk_N_alike 33 rfl) ?_
      refine x_iload hc (xd dk_N_alike 34 rfl) rfl ?_
      refine x_iadd hc (xd dk_N_alike 35 rfl) ?_
      by_cases q14 : xin ((M.1 (b + 9) p1.toNatClampNeg) + v4) 160 = true
      case neg => rw [if_neg q14] at hf; cases hf
      rw [if_pos q14] at hf
      refine x_iald hc (cA (xMd.ar hb 2 (by decide) rfl)) (xin_in q14) (xd dk_N_alike 36 rfl) ?_
      refine x_aload_n hc (xd dk_N_alike 37 rfl) rfl rfl ?_
      refine x_get hc (ci := 10) (k := 11) fi_N (c_N hb _) rfl (by decide) rfl xw1154 rfl (xd dk_N_alike 38 rfl) ?_
      refine x_aload_n hc (xd dk_N_alike 39 rfl) rfl rfl ?_
      refine x_get hc (ci := 10) (k := 18) fi_N (c_N hb _) rfl (by decide) rfl xw1161 rfl (xd dk_N_alike 40 rfl) ?_
      refine x_iload_n hc (xd dk_N_alike 41 rfl) rfl rfl ?_
      by_cases q15 : xin p2 64 = true
      case neg => rw [if_neg q15] at hf; cases hf
      rw [if_pos q15] at hf
      refine x_iald hc (cA (xMd.ar hb 9 (by decide) rfl)) (xin_in q15) (xd dk_N_alike 42 rfl) ?_
      refine x_iload hc (xd dk_N_alike 43 rfl) rfl ?_
      refine x_iadd hc (xd dk_N_alike 44 rfl) ?_
      by_cases q16 : xin ((M.1 (b + 9) p2.toNatClampNeg) + v4) 160 = true
      case neg => rw [if_neg q16] at hf; cases hf
      rw [if_pos q16] at hf
      refine x_iald hc (cA (xMd.ar hb 2 (by decide) rfl)) (xin_in q16) (xd dk_N_alike 45 rfl) ?_
      refine x_icmp_eq hc (tgt := 75) (xd dk_N_alike 46 rfl) rfl (fun q17 => ?_) (fun q17 => ?_)
      · rw [if_pos q17] at hf
        refine x_iinc hc (xd dk_N_alike 49 rfl) rfl (by decide) rfl ?_
        refine x_goto hc (tgt := 36) (xd dk_N_alike 50 rfl) rfl ?_
        exact ih v3 (v4 + Int32.ofInt 1) M hf
      · rw [if_neg q17] at hf
        refine x_iconst hc (v := 0) (xd dk_N_alike 47 rfl) (by decide) ?_
        cases hf
        exact x_zreturn hc rfl (xd dk_N_alike 48 rfl)
set_option maxRecDepth 100000 in
set_option maxHeartbeats 400000 in
theorem s_N_alike {l : Launch} {G : xG} {Y : xY} {sz : Nat} {b : Nat} {p1 : Int32} {p2 : Int32}  (hb : xMd Y b) {M M' : xMem} {r : Int32} (hf : f_N_alike b p1 p2 M = some (r, M')) : xM l G y_N_alike c_N_alike 5 (some .boolean) 0 0 0 [.ref b, .int p1, .int p2] (xo G Y M) sz (some (.int r)) (xo G Y M') sz := by
  unfold f_N_alike at hf
  refine xM.of (k := 2) (L0 := [some (.ref b), some (.int p1), some (.int p2), none, none]) (by decide) (Nat.le_of_ble_eq_true rfl) rfl ?_
  intro p e s m args below meth c hc hnm
  have hR : xRm { frames := 0, cells := 0, slots := 0, locals := 48 * 0 } 0 := ⟨Nat.le_refl _, Nat.le_refl _⟩
  refine x_aload_n hc (xd dk_N_alike 0 rfl) rfl rfl ?_
  refine x_get hc (ci := 10) (k := 19) fi_N (c_N hb _) rfl (by decide) rfl xw1162 rfl (xd dk_N_alike 1 rfl) ?_
  refine x_iload_n hc (xd dk_N_alike 2 rfl) rfl rfl ?_
  by_cases q18 : xin p1 64 = true
  case neg => rw [if_neg q18] at hf; cases hf
  rw [if_pos q18] at hf
  refine x_iald hc (cA (xMd.ar hb 10 (by decide) rfl)) (xin_in q18) (xd dk_N_alike 3 rfl) ?_
  refine x_aload_n hc (xd dk_N_alike 4 rfl) rfl rfl ?_
  refine x_get hc (ci := 10) (k := 18) fi_N (c_N hb _) rfl (by decide) rfl xw1161 rfl (xd dk_N_alike 5 rfl) ?_
  refine x_iload_n hc (xd dk_N_alike 6 rfl) rfl rfl ?_
  by_cases q19 : xin p1 64 = true
  case neg => rw [if_neg q19] at hf; cases hf
  rw [if_pos q19] at hf
  refine x_iald hc (cA (xMd.ar hb 9 (by decide) rfl)) (xin_in q19) (xd dk_N_alike 7 rfl) ?_
  refine x_isub hc (xd dk_N_alike 8 rfl) ?_
  refine x_istore_n hc (xd dk_N_alike 9 rfl) (by decide) rfl ?_
  refine x_aload_n hc (xd dk_N_alike 10 rfl) rfl rfl ?_
  refine x_get hc (ci := 10) (k := 19) fi_N (c_N hb _) rfl (by decide) rfl xw1162 rfl (xd dk_N_alike 11 rfl) ?_
  refine x_iload_n hc (xd dk_N_alike 12 rfl) rfl rfl ?_
  by_cases q20 : xin p2 64 = true
  case neg => rw [if_neg q20] at hf; cases hf
  rw [if_pos q20] at hf
  refine x_iald hc (cA (xMd.ar hb 10 (by decide) rfl)) (xin_in q20) (xd dk_N_alike 13 rfl) ?_
  refine x_aload_n hc (xd dk_N_alike 14 rfl) rfl rfl ?_
  refine x_get hc (ci := 10) (k := 18) fi_N (c_N hb _) rfl (by decide) rfl xw1161 rfl (xd dk_N_alike 15 rfl) ?_
  refine x_iload_n hc (xd dk_N_alike 16 rfl) rfl rfl ?_
  by_cases q21 : xin p2 64 = true
  case neg => rw [if_neg q21] at hf; cases hf
  rw [if_pos q21] at hf
  refine x_iald hc (cA (xMd.ar hb 9 (by decide) rfl)) (xin_in q21) (xd dk_N_alike 17 rfl) ?_
  refine x_isub hc (xd dk_N_alike 18 rfl) ?_
  refine x_iload_n hc (xd dk_N_alike 19 rfl) rfl rfl ?_
  refine x_icmp_eq hc (tgt := 33) (xd dk_N_alike 20 rfl) rfl (fun q22 => ?_) (fun q22 => ?_)
  · rw [if_pos q22] at hf
    refine x_iconst hc (v := 0) (xd dk_N_alike 23 rfl) (by decide) ?_
    refine x_istore hc (xd dk_N_alike 24 rfl) (by decide) rfl ?_
    exact s_N_alike_36 hc hR hb xFuel ((M.1 (b + 10) p1.toNatClampNeg) - (M.1 (b + 9) p1.toNatClampNeg)) 0 M hf
  · rw [if_neg q22] at hf
    refine x_iconst hc (v := 0) (xd dk_N_alike 21 rfl) (by decide) ?_
    cases hf
    exact x_zreturn hc rfl (xd dk_N_alike 22 rfl)
def f_N_use (b : Nat) (p1 : Int32) (p2 : Int32) (M : xMem) : Option (Unit × xMem) :=
  (xval (M.1 b 41) fun x4 => if xin x4 64 = true then xlet (wI M (b + 24) x4.toNatClampNeg p1) fun M => xval (M.1 b 28) fun x6 => xval (M.1 b 41) fun x7 => if xin x7 64 = true then xlet (wI M (b + 25) x7.toNatClampNeg x6) fun M => xval (M.1 b 41) fun x9 => if xin x9 64 = true then xlet (wI M (b + 27) x9.toNatClampNeg (vp_nar .boolean p2)) fun M => xval ((M.1 b 41) + 1) fun x11 => xlet (wI M b 41 x11) fun M => some ((), M) else none else none else none)
set_option maxRecDepth 100000 in
set_option maxHeartbeats 400000 in
theorem s_N_use {l : Launch} {G : xG} {Y : xY} {sz : Nat} {b : Nat} {p1 : Int32} {p2 : Int32}  (hb : xMd Y b) {M M' : xMem} {r : Unit} (hf : f_N_use b p1 p2 M = some (r, M')) : xM l G y_N_use c_N_use 3 none 0 0 0 [.ref b, .int p1, .int p2] (xo G Y M) sz none (xo G Y M') sz := by
  unfold f_N_use at hf
  refine xM.of (k := 0) (L0 := [some (.ref b), some (.int p1), some (.int p2)]) (by decide) (Nat.le_of_ble_eq_true rfl) rfl ?_
  intro p e s m args below meth c hc hnm
  have hR : xRm { frames := 0, cells := 0, slots := 0, locals := 48 * 0 } 0 := ⟨Nat.le_refl _, Nat.le_refl _⟩
  refine x_aload_n hc (xd dk_N_use 0 rfl) rfl rfl ?_
  refine x_get hc (ci := 10) (k := 37) fi_N (c_N hb _) rfl (by decide) rfl xw1180 rfl (xd dk_N_use 1 rfl) ?_
  refine x_aload_n hc (xd dk_N_use 2 rfl) rfl rfl ?_
  refine x_get hc (ci := 10) (k := 41) fi_N (c_N hb _) rfl (by decide) rfl xw1184 rfl (xd dk_N_use 3 rfl) ?_
  refine x_iload_n hc (xd dk_N_use 4 rfl) rfl rfl ?_
  obtain ⟨x4, hx4, hf⟩ := xval_ex hf
  rw [← hx4]
  by_cases q5 : xin x4 64 = true
  case neg => rw [if_neg q5] at hf; cases hf
  rw [if_pos q5] at hf
  refine x_iast hc (cA (xMd.ar hb 24 (by decide) rfl)) (xin_in q5) (xd dk_N_use 5 rfl) ?_
  rw [wA (xMd.ar hb 24 (by decide) rfl)]
  replace hf := xlet_some hf
  generalize wI M (b + 24) x4.toNatClampNeg p1 = M at hf ⊢
  refine x_aload_n hc (xd dk_N_use 6 rfl) rfl rfl ?_
  refine x_get hc (ci := 10) (k := 38) fi_N (c_N hb _) rfl (by decide) rfl xw1181 rfl (xd dk_N_use 7 rfl) ?_
  refine x_aload_n hc (xd dk_N_use 8 rfl) rfl rfl ?_
  refine x_get hc (ci := 10) (k := 41) fi_N (c_N hb _) rfl (by decide) rfl xw1184 rfl (xd dk_N_use 9 rfl) ?_
  refine x_aload_n hc (xd dk_N_use 10 rfl) rfl rfl ?_
  refine x_get hc (ci := 10) (k := 28) fi_N (c_N hb _) rfl (by decide) rfl xw1171 rfl (xd dk_N_use 11 rfl) ?_
  obtain ⟨x6, hx6, hf⟩ := xval_ex hf
  rw [← hx6]
  obtain ⟨x7, hx7, hf⟩ := xval_ex hf
  rw [← hx7]
  by_cases q8 : xin x7 64 = true
  case neg => rw [if_neg q8] at hf; cases hf
  rw [if_pos q8] at hf
  refine x_iast hc (cA (xMd.ar hb 25 (by decide) rfl)) (xin_in q8) (xd dk_N_use 12 rfl) ?_
  rw [wA (xMd.ar hb 25 (by decide) rfl)]
  replace hf := xlet_some hf
  generalize wI M (b + 25) x7.toNatClampNeg x6 = M at hf ⊢
  refine x_aload_n hc (xd dk_N_use 13 rfl) rfl rfl ?_
  refine x_get hc (ci := 10) (k := 40) fi_N (c_N hb _) rfl (by decide) rfl xw1183 rfl (xd dk_N_use 14 rfl) ?_
  refine x_aload_n hc (xd dk_N_use 15 rfl) rfl rfl ?_
  refine x_get hc (ci := 10) (k := 41) fi_N (c_N hb _) rfl (by decide) rfl xw1184 rfl (xd dk_N_use 16 rfl) ?_
  refine x_iload_n hc (xd dk_N_use 17 rfl) rfl rfl ?_
  obtain ⟨x9, hx9, hf⟩ := xval_ex hf
  rw [← hx9]
  by_cases q10 : xin x9 64 = true
  case neg => rw [if_neg q10] at hf; cases hf
  rw [if_pos q10] at hf
  refine x_zast hc (cA (xMd.ar hb 27 (by decide) rfl)) (xin_in q10) (xd dk_N_use 18 rfl) ?_
  rw [wA (xMd.ar hb 27 (by decide) rfl)]
  replace hf := xlet_some hf
  generalize wI M (b + 27) x9.toNatClampNeg (vp_nar .boolean p2) = M at hf ⊢
  refine x_aload_n hc (xd dk_N_use 19 rfl) rfl rfl ?_
  refine x_dup hc (xd dk_N_use 20 rfl) rfl ?_
  refine x_get hc (ci := 10) (k := 41) fi_N (c_N hb _) rfl (by decide) rfl xw1184 rfl (xd dk_N_use 21 rfl) ?_
  refine x_iconst hc (v := 1) (xd dk_N_use 22 rfl) (by decide) ?_
  refine x_iadd hc (xd dk_N_use 23 rfl) ?_
  obtain ⟨x11, hx11, hf⟩ := xval_ex hf
  rw [← hx11]
  refine x_put hc (ci := 10) (k := 41) fi_N ft_N ft_N_ok fn_N (c_N hb _) rfl (by decide) rfl xw1184 rfl rfl rfl (Nat.le_of_ble_eq_true rfl) (xd dk_N_use 24 rfl) ?_
  rw [w_N_41 hb]
  replace hf := xlet_some hf
  generalize wI M b 41 x11 = M at hf ⊢
  cases hf
  exact x_return hc (xd dk_N_use 25 rfl)
def f_N_part_143 (b : Nat) (p1 : Int32) (v2 : Int32) (v3 : Int32) (M : xMem) : Option (Unit × xMem) :=
  (xbind (f_N_push b 7 (p1 + 1) 0 0 M) fun r34 M => some ((), M))
def f_N_part_121 (b : Nat) (p1 : Int32) (v2 : Int32) (v3 : Int32) (M : xMem) : Option (Unit × xMem) :=
  (xval ((M.1 b 7) + 1) fun x36 => xlet (wI M b 7 x36) fun M => if v3 = 19 then (f_N_part_143 b p1 v2 v3 M) else (if v3 = 16 then (f_N_part_143 b p1 v2 v3 M) else (if v3 = 20 then (xbind (f_N_push b 4 p1 21 0 M) fun r53 M => xbind (f_N_push b 5 (p1 + 1) 0 0 M) fun r55 M => some ((), M)) else (if v3 = 1 then (xbind (f_N_is b 20 M) fun r41 M => if r41 = 0 then (some ((), M)) else (xval ((M.1 b 7) + 1) fun x44 => xlet (wI M b 7 x44) fun M => xbind (f_N_is b 21 M) fun r45 M => if r45 = 0 then (xbind (f_N_push b 8 p1 0 0 M) fun r48 M => xbind (f_N_push b 5 (p1 + 1) 1 0 M) fun r50 M => some ((), M)) else (xval ((M.1 b 7) + 1) fun x52 => xlet (wI M b 7 x52) fun M => some ((), M)))) else (some ((), M))))))
def f_N_part_86 (b : Nat) (p1 : Int32) (v2 : Int32) (w1 : Int32) (M : xMem) : Option (Unit × xMem) :=
  (xbind (f_N_wrongs b w1 M) fun r57 M => if M.1 b 4 < 0 then (if xin (M.1 b 7) 64 = true then if M.1 (b + 8) (M.1 b 7).toNatClampNeg = 1 then (xval (M.1 (b + 8) (M.1 b 7).toNatClampNeg) fun x62 => xval (M.1 b 7) fun x63 => xbind (f_N_use b x63 0 M) fun r64 M => f_N_part_121 b p1 v2 x62 M) else (f_N_part_121 b p1 v2 (M.1 (b + 8) (M.1 b 7).toNatClampNeg) M) else none) else (some ((), M)))
def f_N_part_85 (b : Nat) (p1 : Int32) (v2 : Int32) (M : xMem) : Option (Unit × xMem) :=
  (f_N_part_86 b p1 v2 0 M)
def f_N_part_49 (b : Nat) (p1 : Int32) (v2 : Int32) (w1 : Int32) (M : xMem) : Option (Unit × xMem) :=
  (xbind (f_N_wrongs b w1 M) fun r66 M => if v2 = 0 then (xbind (f_N_is b 1 M) fun r69 M => if r69 = 0 then (xbind (f_N_is b 2 M) fun r72 M => if r72 = 0 then (xbind (f_N_is b 3 M) fun r75 M => if r75 = 0 then (f_N_part_86 b p1 v2 1 M) else (f_N_part_85 b p1 v2 M)) else (f_N_part_85 b p1 v2 M)) else (f_N_part_85 b p1 v2 M)) else (f_N_part_85 b p1 v2 M))
def f_N_part_48 (b : Nat) (p1 : Int32) (v2 : Int32) (M : xMem) : Option (Unit × xMem) :=
  (f_N_part_49 b p1 v2 0 M)
def f_N_part_32 (b : Nat) (p1 : Int32) (w0 : Int32) (M : xMem) : Option (Unit × xMem) :=
  (if w0 = 0 then (f_N_part_48 b p1 w0 M) else (if p1 = 12 then (f_N_part_49 b p1 w0 1 M) else (f_N_part_48 b p1 w0 M)))
def f_N_part_27 (b : Nat) (p1 : Int32) (M : xMem) : Option (Unit × xMem) :=
  (f_N_part_32 b p1 1 M)
def f_N_part (b : Nat) (p1 : Int32) (M : xMem) : Option (Unit × xMem) :=
  (xbind (f_N_is b 19 M) fun r80 M => if r80 = 0 then (xbind (f_N_is b 16 M) fun r83 M => if r83 = 0 then (xbind (f_N_is b 20 M) fun r86 M => if r86 = 0 then (f_N_part_32 b p1 0 M) else (f_N_part_27 b p1 M)) else (f_N_part_27 b p1 M)) else (f_N_part_27 b p1 M))
set_option maxRecDepth 100000 in
set_option maxHeartbeats 400000 in
theorem s_N_part_143 {p : Program} {l : Launch} {e : Env} {R : Room} {s : State} {m : MethodId} {args : Array Value} {below : List Frame} {meth : Method} {c : Code} {G : xG} {Y : xY} {sz : Nat} {b : Nat} {p1 : Int32}  (hc : xC p s m args meth c G 4 c_N_part y_N_part.cls none) (hR : xRm R 1) (hb : xMd Y b) {M' : xMem} {r : Unit} (v2 : Int32) (v3 : Int32) (M : xMem) (hf : f_N_part_143 b p1 v2 v3 M = some (r, M')) : xW p l e R s m args below meth c G 4 (MQ below (xQc G none (xo G Y M') sz) args s 0 0 (xA G)) (xo G Y M) sz 0 0 143 [some (.ref b), some (.int p1), some (.int v2), some (.int v3)] [] := by
  unfold f_N_part_143 at hf
  refine x_aload_n hc (xd dk_N_part 75 rfl) rfl rfl ?_
  refine x_bipush hc (v := 7) (xd dk_N_part 76 rfl) (by decide) ?_
  refine x_iload_n hc (xd dk_N_part 77 rfl) rfl rfl ?_
  refine x_iconst hc (v := 1) (xd dk_N_part 78 rfl) (by decide) ?_
  refine x_iadd hc (xd dk_N_part 79 rfl) ?_
  refine x_iconst hc (v := 0) (xd dk_N_part 80 rfl) (by decide) ?_
  refine x_iconst hc (v := 0) (xd dk_N_part 81 rfl) (by decide) ?_
  obtain ⟨r34, M, e35, hf⟩ := xbind_some hf
  refine x_callV hc (As := [.int 7, .int ((p1 + 1)), .int 0, .int 0]) (n := 4) (s_N_push hb e35) (c_N hb _) rfl (hR.call (by decide) (by decide)) ⟨by decide, by decide, by decide⟩ rfl rfl xw1078 xw18 xw1075 xw1077 xs_N_push (Nat.le_of_ble_eq_true rfl) ⟨Nat.zero_le _, Nat.zero_le _⟩ (xd dk_N_part 82 rfl) ?_
  refine x_goto hc (tgt := 250) (xd dk_N_part 83 rfl) rfl ?_
  cases hf
  exact x_return hc (xd dk_N_part 140 rfl)
set_option maxRecDepth 100000 in
set_option maxHeartbeats 400000 in
theorem s_N_part_121 {p : Program} {l : Launch} {e : Env} {R : Room} {s : State} {m : MethodId} {args : Array Value} {below : List Frame} {meth : Method} {c : Code} {G : xG} {Y : xY} {sz : Nat} {b : Nat} {p1 : Int32}  (hc : xC p s m args meth c G 4 c_N_part y_N_part.cls none) (hR : xRm R 1) (hb : xMd Y b) {M' : xMem} {r : Unit} (v2 : Int32) (v3 : Int32) (M : xMem) (hf : f_N_part_121 b p1 v2 v3 M = some (r, M')) : xW p l e R s m args below meth c G 4 (MQ below (xQc G none (xo G Y M') sz) args s 0 0 (xA G)) (xo G Y M) sz 0 0 121 [some (.ref b), some (.int p1), some (.int v2), some (.int v3)] [] := by
  unfold f_N_part_121 at hf
  refine x_aload_n hc (xd dk_N_part 63 rfl) rfl rfl ?_
  refine x_dup hc (xd dk_N_part 64 rfl) rfl ?_
  refine x_get hc (ci := 10) (k := 7) fi_N (c_N hb _) rfl (by decide) rfl xw1150 rfl (xd dk_N_part 65 rfl) ?_
  refine x_iconst hc (v := 1) (xd dk_N_part 66 rfl) (by decide) ?_
  refine x_iadd hc (xd dk_N_part 67 rfl) ?_
  obtain ⟨x36, hx36, hf⟩ := xval_ex hf
  rw [← hx36]
  refine x_put hc (ci := 10) (k := 7) fi_N ft_N ft_N_ok fn_N (c_N hb _) rfl (by decide) rfl xw1150 rfl rfl rfl (Nat.le_of_ble_eq_true rfl) (xd dk_N_part 68 rfl) ?_
  rw [w_N_7 hb]
  replace hf := xlet_some hf
  generalize wI M b 7 x36 = M at hf ⊢
  refine x_iload_n hc (xd dk_N_part 69 rfl) rfl rfl ?_
  refine x_bipush hc (v := 19) (xd dk_N_part 70 rfl) (by decide) ?_
  refine x_icmp_eq hc (tgt := 143) (xd dk_N_part 71 rfl) rfl (fun q37 => ?_) (fun q37 => ?_)
  · rw [if_pos q37] at hf
    exact s_N_part_143 hc hR hb v2 v3 M hf
  · rw [if_neg q37] at hf
    refine x_iload_n hc (xd dk_N_part 72 rfl) rfl rfl ?_
    refine x_bipush hc (v := 16) (xd dk_N_part 73 rfl) (by decide) ?_
    refine x_icmp_ne hc (tgt := 157) (xd dk_N_part 74 rfl) rfl (fun q38 => ?_) (fun q38 => ?_)
    · rw [if_neg q38] at hf
      refine x_iload_n hc (xd dk_N_part 84 rfl) rfl rfl ?_
      refine x_bipush hc (v := 20) (xd dk_N_part 85 rfl) (by decide) ?_
      refine x_icmp_ne hc (tgt := 185) (xd dk_N_part 86 rfl) rfl (fun q39 => ?_) (fun q39 => ?_)
      · rw [if_neg q39] at hf
        refine x_iload_n hc (xd dk_N_part 102 rfl) rfl rfl ?_
        refine x_iconst hc (v := 1) (xd dk_N_part 103 rfl) (by decide) ?_
        refine x_icmp_ne hc (tgt := 250) (xd dk_N_part 104 rfl) rfl (fun q40 => ?_) (fun q40 => ?_)
        · rw [if_neg q40] at hf
          cases hf
          exact x_return hc (xd dk_N_part 140 rfl)
        · rw [if_pos q40] at hf
          refine x_aload_n hc (xd dk_N_part 105 rfl) rfl rfl ?_
          refine x_bipush hc (v := 20) (xd dk_N_part 106 rfl) (by decide) ?_
          obtain ⟨r41, M, e42, hf⟩ := xbind_some hf
          refine x_callV hc (As := [.int 20]) (n := 1) (s_N_is hb e42) (c_N hb _) rfl (hR.call (by decide) (by decide)) ⟨by decide, by decide, by decide⟩ rfl rfl xw1082 xw18 xw1079 xw1081 xs_N_is (Nat.le_of_ble_eq_true rfl) ⟨Nat.zero_le _, Nat.zero_le _⟩ (xd dk_N_part 107 rfl) ?_
          refine x_if_eq hc (tgt := 250) (xd dk_N_part 108 rfl) rfl (fun q43 => ?_) (fun q43 => ?_)
          · rw [if_pos q43] at hf
            cases hf
            exact x_return hc (xd dk_N_part 140 rfl)
          · rw [if_neg q43] at hf
            refine x_aload_n hc (xd dk_N_part 109 rfl) rfl rfl ?_
            refine x_dup hc (xd dk_N_part 110 rfl) rfl ?_
            refine x_get hc (ci := 10) (k := 7) fi_N (c_N hb _) rfl (by decide) rfl xw1150 rfl (xd dk_N_part 111 rfl) ?_
            refine x_iconst hc (v := 1) (xd dk_N_part 112 rfl) (by decide) ?_
            refine x_iadd hc (xd dk_N_part 113 rfl) ?_
            obtain ⟨x44, hx44, hf⟩ := xval_ex hf
            rw [← hx44]
            refine x_put hc (ci := 10) (k := 7) fi_N ft_N ft_N_ok fn_N (c_N hb _) rfl (by decide) rfl xw1150 rfl rfl rfl (Nat.le_of_ble_eq_true rfl) (xd dk_N_part 114 rfl) ?_
            rw [w_N_7 hb]
            replace hf := xlet_some hf
            generalize wI M b 7 x44 = M at hf ⊢
            refine x_aload_n hc (xd dk_N_part 115 rfl) rfl rfl ?_
            refine x_bipush hc (v := 21) (xd dk_N_part 116 rfl) (by decide) ?_
            obtain ⟨r45, M, e46, hf⟩ := xbind_some hf
            refine x_callV hc (As := [.int 21]) (n := 1) (s_N_is hb e46) (c_N hb _) rfl (hR.call (by decide) (by decide)) ⟨by decide, by decide, by decide⟩ rfl rfl xw1082 xw18 xw1079 xw1081 xs_N_is (Nat.le_of_ble_eq_true rfl) ⟨Nat.zero_le _, Nat.zero_le _⟩ (xd dk_N_part 117 rfl) ?_
            refine x_if_eq hc (tgt := 231) (xd dk_N_part 118 rfl) rfl (fun q47 => ?_) (fun q47 => ?_)
            · rw [if_pos q47] at hf
              refine x_aload_n hc (xd dk_N_part 126 rfl) rfl rfl ?_
              refine x_bipush hc (v := 8) (xd dk_N_part 127 rfl) (by decide) ?_
              refine x_iload_n hc (xd dk_N_part 128 rfl) rfl rfl ?_
              refine x_iconst hc (v := 0) (xd dk_N_part 129 rfl) (by decide) ?_
              refine x_iconst hc (v := 0) (xd dk_N_part 130 rfl) (by decide) ?_
              obtain ⟨r48, M, e49, hf⟩ := xbind_some hf
              refine x_callV hc (As := [.int 8, .int p1, .int 0, .int 0]) (n := 4) (s_N_push hb e49) (c_N hb _) rfl (hR.call (by decide) (by decide)) ⟨by decide, by decide, by decide⟩ rfl rfl xw1078 xw18 xw1075 xw1077 xs_N_push (Nat.le_of_ble_eq_true rfl) ⟨Nat.zero_le _, Nat.zero_le _⟩ (xd dk_N_part 131 rfl) ?_
              refine x_aload_n hc (xd dk_N_part 132 rfl) rfl rfl ?_
              refine x_iconst hc (v := 5) (xd dk_N_part 133 rfl) (by decide) ?_
              refine x_iload_n hc (xd dk_N_part 134 rfl) rfl rfl ?_
              refine x_iconst hc (v := 1) (xd dk_N_part 135 rfl) (by decide) ?_
              refine x_iadd hc (xd dk_N_part 136 rfl) ?_
              refine x_iconst hc (v := 1) (xd dk_N_part 137 rfl) (by decide) ?_
              refine x_iconst hc (v := 0) (xd dk_N_part 138 rfl) (by decide) ?_
              obtain ⟨r50, M, e51, hf⟩ := xbind_some hf
              refine x_callV hc (As := [.int 5, .int ((p1 + 1)), .int 1, .int 0]) (n := 4) (s_N_push hb e51) (c_N hb _) rfl (hR.call (by decide) (by decide)) ⟨by decide, by decide, by decide⟩ rfl rfl xw1078 xw18 xw1075 xw1077 xs_N_push (Nat.le_of_ble_eq_true rfl) ⟨Nat.zero_le _, Nat.zero_le _⟩ (xd dk_N_part 139 rfl) ?_
              cases hf
              exact x_return hc (xd dk_N_part 140 rfl)
            · rw [if_neg q47] at hf
              refine x_aload_n hc (xd dk_N_part 119 rfl) rfl rfl ?_
              refine x_dup hc (xd dk_N_part 120 rfl) rfl ?_
              refine x_get hc (ci := 10) (k := 7) fi_N (c_N hb _) rfl (by decide) rfl xw1150 rfl (xd dk_N_part 121 rfl) ?_
              refine x_iconst hc (v := 1) (xd dk_N_part 122 rfl) (by decide) ?_
              refine x_iadd hc (xd dk_N_part 123 rfl) ?_
              obtain ⟨x52, hx52, hf⟩ := xval_ex hf
              rw [← hx52]
              refine x_put hc (ci := 10) (k := 7) fi_N ft_N ft_N_ok fn_N (c_N hb _) rfl (by decide) rfl xw1150 rfl rfl rfl (Nat.le_of_ble_eq_true rfl) (xd dk_N_part 124 rfl) ?_
              rw [w_N_7 hb]
              replace hf := xlet_some hf
              generalize wI M b 7 x52 = M at hf ⊢
              refine x_goto hc (tgt := 250) (xd dk_N_part 125 rfl) rfl ?_
              cases hf
              exact x_return hc (xd dk_N_part 140 rfl)
      · rw [if_pos q39] at hf
        refine x_aload_n hc (xd dk_N_part 87 rfl) rfl rfl ?_
        refine x_iconst hc (v := 4) (xd dk_N_part 88 rfl) (by decide) ?_
        refine x_iload_n hc (xd dk_N_part 89 rfl) rfl rfl ?_
        refine x_bipush hc (v := 21) (xd dk_N_part 90 rfl) (by decide) ?_
        refine x_iconst hc (v := 0) (xd dk_N_part 91 rfl) (by decide) ?_
        obtain ⟨r53, M, e54, hf⟩ := xbind_some hf
        refine x_callV hc (As := [.int 4, .int p1, .int 21, .int 0]) (n := 4) (s_N_push hb e54) (c_N hb _) rfl (hR.call (by decide) (by decide)) ⟨by decide, by decide, by decide⟩ rfl rfl xw1078 xw18 xw1075 xw1077 xs_N_push (Nat.le_of_ble_eq_true rfl) ⟨Nat.zero_le _, Nat.zero_le _⟩ (xd dk_N_part 92 rfl) ?_
        refine x_aload_n hc (xd dk_N_part 93 rfl) rfl rfl ?_
        refine x_iconst hc (v := 5) (xd dk_N_part 94 rfl) (by decide) ?_
        refine x_iload_n hc (xd dk_N_part 95 rfl) rfl rfl ?_
        refine x_iconst hc (v := 1) (xd dk_N_part 96 rfl) (by decide) ?_
        refine x_iadd hc (xd dk_N_part 97 rfl) ?_
        refine x_iconst hc (v := 0) (xd dk_N_part 98 rfl) (by decide) ?_
        refine x_iconst hc (v := 0) (xd dk_N_part 99 rfl) (by decide) ?_
        obtain ⟨r55, M, e56, hf⟩ := xbind_some hf
        refine x_callV hc (As := [.int 5, .int ((p1 + 1)), .int 0, .int 0]) (n := 4) (s_N_push hb e56) (c_N hb _) rfl (hR.call (by decide) (by decide)) ⟨by decide, by decide, by decide⟩ rfl rfl xw1078 xw18 xw1075 xw1077 xs_N_push (Nat.le_of_ble_eq_true rfl) ⟨Nat.zero_le _, Nat.zero_le _⟩ (xd dk_N_part 100 rfl) ?_
        refine x_goto hc (tgt := 250) (xd dk_N_part 101 rfl) rfl ?_
        cases hf
        exact x_return hc (xd dk_N_part 140 rfl)
    · rw [if_pos q38] at hf
      exact s_N_part_143 hc hR hb v2 v3 M hf
set_option maxRecDepth 100000 in
set_option maxHeartbeats 400000 in
theorem s_N_part_86 {p : Program} {l : Launch} {e : Env} {R : Room} {s : State} {m : MethodId} {args : Array Value} {below : List Frame} {meth : Method} {c : Code} {G : xG} {Y : xY} {sz : Nat} {b : Nat} {p1 : Int32}  (hc : xC p s m args meth c G 4 c_N_part y_N_part.cls none) (hR : xRm R 1) (hb : xMd Y b) {M' : xMem} {r : Unit} (v2 : Int32) (w1 : Int32) (M : xMem) (hf : f_N_part_86 b p1 v2 w1 M = some (r, M')) : xW p l e R s m args below meth c G 4 (MQ below (xQc G none (xo G Y M') sz) args s 0 0 (xA G)) (xo G Y M) sz 0 0 86 [some (.ref b), some (.int p1), some (.int v2), none] [.int w1, .ref b] := by
  unfold f_N_part_86 at hf
  obtain ⟨r57, M, e58, hf⟩ := xbind_some hf
  refine x_callV hc (As := [.int w1]) (n := 1) (s_N_wrongs hb e58) (c_N hb _) rfl (hR.call (by decide) (by decide)) ⟨by decide, by decide, by decide⟩ rfl rfl xw1090 xw18 xw1087 xw1089 xs_N_wrongs (Nat.le_of_ble_eq_true rfl) ⟨Nat.zero_le _, Nat.zero_le _⟩ (xd dk_N_part 44 rfl) ?_
  refine x_aload_n hc (xd dk_N_part 45 rfl) rfl rfl ?_
  refine x_get hc (ci := 10) (k := 4) fi_N (c_N hb _) rfl (by decide) rfl xw1147 rfl (xd dk_N_part 46 rfl) ?_
  refine x_if_lt hc (tgt := 97) (xd dk_N_part 47 rfl) rfl (fun q59 => ?_) (fun q59 => ?_)
  · rw [if_pos q59] at hf
    refine x_aload_n hc (xd dk_N_part 49 rfl) rfl rfl ?_
    refine x_get hc (ci := 10) (k := 17) fi_N (c_N hb _) rfl (by decide) rfl xw1160 rfl (xd dk_N_part 50 rfl) ?_
    refine x_aload_n hc (xd dk_N_part 51 rfl) rfl rfl ?_
    refine x_get hc (ci := 10) (k := 7) fi_N (c_N hb _) rfl (by decide) rfl xw1150 rfl (xd dk_N_part 52 rfl) ?_
    by_cases q60 : xin (M.1 b 7) 64 = true
    case neg => rw [if_neg q60] at hf; cases hf
    rw [if_pos q60] at hf
    refine x_iald hc (cA (xMd.ar hb 8 (by decide) rfl)) (xin_in q60) (xd dk_N_part 53 rfl) ?_
    refine x_istore_n hc (xd dk_N_part 54 rfl) (by decide) rfl ?_
    refine x_iload_n hc (xd dk_N_part 55 rfl) rfl rfl ?_
    refine x_iconst hc (v := 1) (xd dk_N_part 56 rfl) (by decide) ?_
    refine x_icmp_ne hc (tgt := 121) (xd dk_N_part 57 rfl) rfl (fun q61 => ?_) (fun q61 => ?_)
    · rw [if_neg q61] at hf
      exact s_N_part_121 hc hR hb v2 (M.1 (b + 8) (M.1 b 7).toNatClampNeg) M hf
    · rw [if_pos q61] at hf
      refine x_aload_n hc (xd dk_N_part 58 rfl) rfl rfl ?_
      refine x_aload_n hc (xd dk_N_part 59 rfl) rfl rfl ?_
      refine x_get hc (ci := 10) (k := 7) fi_N (c_N hb _) rfl (by decide) rfl xw1150 rfl (xd dk_N_part 60 rfl) ?_
      refine x_iconst hc (v := 0) (xd dk_N_part 61 rfl) (by decide) ?_
      obtain ⟨x62, hx62, hf⟩ := xval_ex hf
      rw [← hx62]
      obtain ⟨x63, hx63, hf⟩ := xval_ex hf
      rw [← hx63]
      obtain ⟨r64, M, e65, hf⟩ := xbind_some hf
      refine x_callV hc (As := [.int x63, .int 0]) (n := 2) (s_N_use hb e65) (c_N hb _) rfl (hR.call (by decide) (by decide)) ⟨by decide, by decide, by decide⟩ rfl rfl xw1130 xw18 xw1127 xw1129 xs_N_use (Nat.le_of_ble_eq_true rfl) ⟨Nat.zero_le _, Nat.zero_le _⟩ (xd dk_N_part 62 rfl) ?_
      exact s_N_part_121 hc hR hb v2 x62 M hf
  · rw [if_neg q59] at hf
    cases hf
    exact x_return hc (xd dk_N_part 48 rfl)
set_option maxRecDepth 100000 in
set_option maxHeartbeats 400000 in
theorem s_N_part_85 {p : Program} {l : Launch} {e : Env} {R : Room} {s : State} {m : MethodId} {args : Array Value} {below : List Frame} {meth : Method} {c : Code} {G : xG} {Y : xY} {sz : Nat} {b : Nat} {p1 : Int32}  (hc : xC p s m args meth c G 4 c_N_part y_N_part.cls none) (hR : xRm R 1) (hb : xMd Y b) {M' : xMem} {r : Unit} (v2 : Int32) (M : xMem) (hf : f_N_part_85 b p1 v2 M = some (r, M')) : xW p l e R s m args below meth c G 4 (MQ below (xQc G none (xo G Y M') sz) args s 0 0 (xA G)) (xo G Y M) sz 0 0 85 [some (.ref b), some (.int p1), some (.int v2), none] [.ref b] := by
  unfold f_N_part_85 at hf
  refine x_iconst hc (v := 0) (xd dk_N_part 43 rfl) (by decide) ?_
  exact s_N_part_86 hc hR hb v2 0 M hf
set_option maxRecDepth 100000 in
set_option maxHeartbeats 400000 in
theorem s_N_part_49 {p : Program} {l : Launch} {e : Env} {R : Room} {s : State} {m : MethodId} {args : Array Value} {below : List Frame} {meth : Method} {c : Code} {G : xG} {Y : xY} {sz : Nat} {b : Nat} {p1 : Int32}  (hc : xC p s m args meth c G 4 c_N_part y_N_part.cls none) (hR : xRm R 1) (hb : xMd Y b) {M' : xMem} {r : Unit} (v2 : Int32) (w1 : Int32) (M : xMem) (hf : f_N_part_49 b p1 v2 w1 M = some (r, M')) : xW p l e R s m args below meth c G 4 (MQ below (xQc G none (xo G Y M') sz) args s 0 0 (xA G)) (xo G Y M) sz 0 0 49 [some (.ref b), some (.int p1), some (.int v2), none] [.int w1, .ref b] := by
  unfold f_N_part_49 at hf
  obtain ⟨r66, M, e67, hf⟩ := xbind_some hf
  refine x_callV hc (As := [.int w1]) (n := 1) (s_N_wrongs hb e67) (c_N hb _) rfl (hR.call (by decide) (by decide)) ⟨by decide, by decide, by decide⟩ rfl rfl xw1090 xw18 xw1087 xw1089 xs_N_wrongs (Nat.le_of_ble_eq_true rfl) ⟨Nat.zero_le _, Nat.zero_le _⟩ (xd dk_N_part 25 rfl) ?_
  refine x_aload_n hc (xd dk_N_part 26 rfl) rfl rfl ?_
  refine x_iload_n hc (xd dk_N_part 27 rfl) rfl rfl ?_
  refine x_if_ne hc (tgt := 85) (xd dk_N_part 28 rfl) rfl (fun q68 => ?_) (fun q68 => ?_)
  · rw [if_neg q68] at hf
    exact s_N_part_85 hc hR hb v2 M hf
  · rw [if_pos q68] at hf
    refine x_aload_n hc (xd dk_N_part 29 rfl) rfl rfl ?_
    refine x_iconst hc (v := 1) (xd dk_N_part 30 rfl) (by decide) ?_
    obtain ⟨r69, M, e70, hf⟩ := xbind_some hf
    refine x_callV hc (As := [.int 1]) (n := 1) (s_N_is hb e70) (c_N hb _) rfl (hR.call (by decide) (by decide)) ⟨by decide, by decide, by decide⟩ rfl rfl xw1082 xw18 xw1079 xw1081 xs_N_is (Nat.le_of_ble_eq_true rfl) ⟨Nat.zero_le _, Nat.zero_le _⟩ (xd dk_N_part 31 rfl) ?_
    refine x_if_ne hc (tgt := 85) (xd dk_N_part 32 rfl) rfl (fun q71 => ?_) (fun q71 => ?_)
    · rw [if_neg q71] at hf
      exact s_N_part_85 hc hR hb v2 M hf
    · rw [if_pos q71] at hf
      refine x_aload_n hc (xd dk_N_part 33 rfl) rfl rfl ?_
      refine x_iconst hc (v := 2) (xd dk_N_part 34 rfl) (by decide) ?_
      obtain ⟨r72, M, e73, hf⟩ := xbind_some hf
      refine x_callV hc (As := [.int 2]) (n := 1) (s_N_is hb e73) (c_N hb _) rfl (hR.call (by decide) (by decide)) ⟨by decide, by decide, by decide⟩ rfl rfl xw1082 xw18 xw1079 xw1081 xs_N_is (Nat.le_of_ble_eq_true rfl) ⟨Nat.zero_le _, Nat.zero_le _⟩ (xd dk_N_part 35 rfl) ?_
      refine x_if_ne hc (tgt := 85) (xd dk_N_part 36 rfl) rfl (fun q74 => ?_) (fun q74 => ?_)
      · rw [if_neg q74] at hf
        exact s_N_part_85 hc hR hb v2 M hf
      · rw [if_pos q74] at hf
        refine x_aload_n hc (xd dk_N_part 37 rfl) rfl rfl ?_
        refine x_iconst hc (v := 3) (xd dk_N_part 38 rfl) (by decide) ?_
        obtain ⟨r75, M, e76, hf⟩ := xbind_some hf
        refine x_callV hc (As := [.int 3]) (n := 1) (s_N_is hb e76) (c_N hb _) rfl (hR.call (by decide) (by decide)) ⟨by decide, by decide, by decide⟩ rfl rfl xw1082 xw18 xw1079 xw1081 xs_N_is (Nat.le_of_ble_eq_true rfl) ⟨Nat.zero_le _, Nat.zero_le _⟩ (xd dk_N_part 39 rfl) ?_
        refine x_if_ne hc (tgt := 85) (xd dk_N_part 40 rfl) rfl (fun q77 => ?_) (fun q77 => ?_)
        · rw [if_neg q77] at hf
          exact s_N_part_85 hc hR hb v2 M hf
        · rw [if_pos q77] at hf
          refine x_iconst hc (v := 1) (xd dk_N_part 41 rfl) (by decide) ?_
          refine x_goto hc (tgt := 86) (xd dk_N_part 42 rfl) rfl ?_
          exact s_N_part_86 hc hR hb v2 1 M hf
set_option maxRecDepth 100000 in
set_option maxHeartbeats 400000 in
theorem s_N_part_48 {p : Program} {l : Launch} {e : Env} {R : Room} {s : State} {m : MethodId} {args : Array Value} {below : List Frame} {meth : Method} {c : Code} {G : xG} {Y : xY} {sz : Nat} {b : Nat} {p1 : Int32}  (hc : xC p s m args meth c G 4 c_N_part y_N_part.cls none) (hR : xRm R 1) (hb : xMd Y b) {M' : xMem} {r : Unit} (v2 : Int32) (M : xMem) (hf : f_N_part_48 b p1 v2 M = some (r, M')) : xW p l e R s m args below meth c G 4 (MQ below (xQc G none (xo G Y M') sz) args s 0 0 (xA G)) (xo G Y M) sz 0 0 48 [some (.ref b), some (.int p1), some (.int v2), none] [.ref b] := by
  unfold f_N_part_48 at hf
  refine x_iconst hc (v := 0) (xd dk_N_part 24 rfl) (by decide) ?_
  exact s_N_part_49 hc hR hb v2 0 M hf
set_option maxRecDepth 100000 in
set_option maxHeartbeats 400000 in
theorem s_N_part_32 {p : Program} {l : Launch} {e : Env} {R : Room} {s : State} {m : MethodId} {args : Array Value} {below : List Frame} {meth : Method} {c : Code} {G : xG} {Y : xY} {sz : Nat} {b : Nat} {p1 : Int32}  (hc : xC p s m args meth c G 4 c_N_part y_N_part.cls none) (hR : xRm R 1) (hb : xMd Y b) {M' : xMem} {r : Unit} (w0 : Int32) (M : xMem) (hf : f_N_part_32 b p1 w0 M = some (r, M')) : xW p l e R s m args below meth c G 4 (MQ below (xQc G none (xo G Y M') sz) args s 0 0 (xA G)) (xo G Y M) sz 0 0 32 [some (.ref b), some (.int p1), none, none] [.int w0] := by
  unfold f_N_part_32 at hf
  refine x_istore_n hc (xd dk_N_part 15 rfl) (by decide) rfl ?_
  refine x_aload_n hc (xd dk_N_part 16 rfl) rfl rfl ?_
  refine x_iload_n hc (xd dk_N_part 17 rfl) rfl rfl ?_
  refine x_if_eq hc (tgt := 48) (xd dk_N_part 18 rfl) rfl (fun q78 => ?_) (fun q78 => ?_)
  · rw [if_pos q78] at hf
    exact s_N_part_48 hc hR hb w0 M hf
  · rw [if_neg q78] at hf
    refine x_iload_n hc (xd dk_N_part 19 rfl) rfl rfl ?_
    refine x_bipush hc (v := 12) (xd dk_N_part 20 rfl) (by decide) ?_
    refine x_icmp_ne hc (tgt := 48) (xd dk_N_part 21 rfl) rfl (fun q79 => ?_) (fun q79 => ?_)
    · rw [if_neg q79] at hf
      exact s_N_part_48 hc hR hb w0 M hf
    · rw [if_pos q79] at hf
      refine x_iconst hc (v := 1) (xd dk_N_part 22 rfl) (by decide) ?_
      refine x_goto hc (tgt := 49) (xd dk_N_part 23 rfl) rfl ?_
      exact s_N_part_49 hc hR hb w0 1 M hf
set_option maxRecDepth 100000 in
set_option maxHeartbeats 400000 in
theorem s_N_part_27 {p : Program} {l : Launch} {e : Env} {R : Room} {s : State} {m : MethodId} {args : Array Value} {below : List Frame} {meth : Method} {c : Code} {G : xG} {Y : xY} {sz : Nat} {b : Nat} {p1 : Int32}  (hc : xC p s m args meth c G 4 c_N_part y_N_part.cls none) (hR : xRm R 1) (hb : xMd Y b) {M' : xMem} {r : Unit} (M : xMem) (hf : f_N_part_27 b p1 M = some (r, M')) : xW p l e R s m args below meth c G 4 (MQ below (xQc G none (xo G Y M') sz) args s 0 0 (xA G)) (xo G Y M) sz 0 0 27 [some (.ref b), some (.int p1), none, none] [] := by
  unfold f_N_part_27 at hf
  refine x_iconst hc (v := 1) (xd dk_N_part 12 rfl) (by decide) ?_
  refine x_goto hc (tgt := 32) (xd dk_N_part 13 rfl) rfl ?_
  exact s_N_part_32 hc hR hb 1 M hf
set_option maxRecDepth 100000 in
set_option maxHeartbeats 400000 in
theorem s_N_part {l : Launch} {G : xG} {Y : xY} {sz : Nat} {b : Nat} {p1 : Int32}  (hb : xMd Y b) {M M' : xMem} {r : Unit} (hf : f_N_part b p1 M = some (r, M')) : xM l G y_N_part c_N_part 4 none 1 0 0 [.ref b, .int p1] (xo G Y M) sz none (xo G Y M') sz := by
  unfold f_N_part at hf
  refine xM.of (k := 2) (L0 := [some (.ref b), some (.int p1), none, none]) (by decide) (Nat.le_of_ble_eq_true rfl) rfl ?_
  intro p e s m args below meth c hc hnm
  have hR : xRm { frames := 1, cells := 0, slots := 0, locals := 48 * 1 } 1 := ⟨Nat.le_refl _, Nat.le_refl _⟩
  refine x_aload_n hc (xd dk_N_part 0 rfl) rfl rfl ?_
  refine x_bipush hc (v := 19) (xd dk_N_part 1 rfl) (by decide) ?_
  obtain ⟨r80, M, e81, hf⟩ := xbind_some hf
  refine x_callV hc (As := [.int 19]) (n := 1) (s_N_is hb e81) (c_N hb _) rfl (hR.call (by decide) (by decide)) ⟨by decide, by decide, by decide⟩ rfl rfl xw1082 xw18 xw1079 xw1081 xs_N_is (Nat.le_of_ble_eq_true rfl) ⟨Nat.zero_le _, Nat.zero_le _⟩ (xd dk_N_part 2 rfl) ?_
  refine x_if_ne hc (tgt := 27) (xd dk_N_part 3 rfl) rfl (fun q82 => ?_) (fun q82 => ?_)
  · rw [if_neg q82] at hf
    exact s_N_part_27 hc hR hb M hf
  · rw [if_pos q82] at hf
    refine x_aload_n hc (xd dk_N_part 4 rfl) rfl rfl ?_
    refine x_bipush hc (v := 16) (xd dk_N_part 5 rfl) (by decide) ?_
    obtain ⟨r83, M, e84, hf⟩ := xbind_some hf
    refine x_callV hc (As := [.int 16]) (n := 1) (s_N_is hb e84) (c_N hb _) rfl (hR.call (by decide) (by decide)) ⟨by decide, by decide, by decide⟩ rfl rfl xw1082 xw18 xw1079 xw1081 xs_N_is (Nat.le_of_ble_eq_true rfl) ⟨Nat.zero_le _, Nat.zero_le _⟩ (xd dk_N_part 6 rfl) ?_
    refine x_if_ne hc (tgt := 27) (xd dk_N_part 7 rfl) rfl (fun q85 => ?_) (fun q85 => ?_)
    · rw [if_neg q85] at hf
      exact s_N_part_27 hc hR hb M hf
    · rw [if_pos q85] at hf
      refine x_aload_n hc (xd dk_N_part 8 rfl) rfl rfl ?_
      refine x_bipush hc (v := 20) (xd dk_N_part 9 rfl) (by decide) ?_
      obtain ⟨r86, M, e87, hf⟩ := xbind_some hf
      refine x_callV hc (As := [.int 20]) (n := 1) (s_N_is hb e87) (c_N hb _) rfl (hR.call (by decide) (by decide)) ⟨by decide, by decide, by decide⟩ rfl rfl xw1082 xw18 xw1079 xw1081 xs_N_is (Nat.le_of_ble_eq_true rfl) ⟨Nat.zero_le _, Nat.zero_le _⟩ (xd dk_N_part 10 rfl) ?_
      refine x_if_eq hc (tgt := 31) (xd dk_N_part 11 rfl) rfl (fun q88 => ?_) (fun q88 => ?_)
      · rw [if_pos q88] at hf
        refine x_iconst hc (v := 0) (xd dk_N_part 14 rfl) (by decide) ?_
        exact s_N_part_32 hc hR hb 0 M hf
      · rw [if_neg q88] at hf
        exact s_N_part_27 hc hR hb M hf
def f_N_thrown (b : Nat) (M : xMem) : Option (Int32 × xMem) :=
  (some (M.1 b 0, M))
set_option maxRecDepth 100000 in
set_option maxHeartbeats 400000 in
theorem s_N_thrown {l : Launch} {G : xG} {Y : xY} {sz : Nat} {b : Nat}  (hb : xMd Y b) {M M' : xMem} {r : Int32} (hf : f_N_thrown b M = some (r, M')) : xM l G y_N_thrown c_N_thrown 1 (some .int) 0 0 0 [.ref b] (xo G Y M) sz (some (.int r)) (xo G Y M') sz := by
  unfold f_N_thrown at hf
  refine xM.of (k := 0) (L0 := [some (.ref b)]) (by decide) (Nat.le_of_ble_eq_true rfl) rfl ?_
  intro p e s m args below meth c hc hnm
  have hR : xRm { frames := 0, cells := 0, slots := 0, locals := 48 * 0 } 0 := ⟨Nat.le_refl _, Nat.le_refl _⟩
  refine x_aload_n hc (xd dk_N_thrown 0 rfl) rfl rfl ?_
  refine x_get hc (ci := 10) (k := 0) fi_N (c_N hb _) rfl (by decide) rfl xw1143 rfl (xd dk_N_thrown 1 rfl) ?_
  cases hf
  exact x_ireturn hc (xd dk_N_thrown 2 rfl)
def f_N_octet (p0 : Int64) (p2 : Int32) (M : xMem) : Option (Int32 × xMem) :=
  (some ((((p0.toUInt64 >>> ((8 * p2).toInt64.toUInt64 &&& Int64.toUInt64 63)).toInt64) &&& 255).toInt32, M))
set_option maxRecDepth 100000 in
set_option maxHeartbeats 400000 in
theorem s_N_octet {l : Launch} {G : xG} {Y : xY} {sz : Nat} {p0 : Int64} {p2 : Int32}   {M M' : xMem} {r : Int32} (hf : f_N_octet p0 p2 M = some (r, M')) : xM l G y_N_octet c_N_octet 3 (some .int) 0 0 0 [.long (p0), .int p2] (xo G Y M) sz (some (.int r)) (xo G Y M') sz := by
  unfold f_N_octet at hf
  refine xM.of (k := 0) (L0 := [some (.long (p0)), none, some (.int p2)]) (by decide) (Nat.le_of_ble_eq_true rfl) rfl ?_
  intro p e s m args below meth c hc hnm
  have hR : xRm { frames := 0, cells := 0, slots := 0, locals := 48 * 0 } 0 := ⟨Nat.le_refl _, Nat.le_refl _⟩
  refine x_lload_n hc (xd dk_N_octet 0 rfl) rfl rfl ?_
  refine x_bipush hc (v := 8) (xd dk_N_octet 1 rfl) (by decide) ?_
  refine x_iload_n hc (xd dk_N_octet 2 rfl) rfl rfl ?_
  refine x_imul hc (xd dk_N_octet 3 rfl) ?_
  refine x_lushr hc (xd dk_N_octet 4 rfl) rfl ?_
  refine x_ldc2 hc xw1353 (xd dk_N_octet 5 rfl) ?_
  refine x_land hc (xd dk_N_octet 6 rfl) ?_
  refine x_l2i hc (xd dk_N_octet 7 rfl) rfl ?_
  cases hf
  exact x_ireturn hc (xd dk_N_octet 8 rfl)
def f_N_fails_16 (b : Nat) (p1 : Int32) (p2 : Int32) (M : xMem) : Option (Int32 × xMem) :=
  (if M.1 b 0 = 0 then (some (0, M)) else (some (1, M)))
def f_N_fails (b : Nat) (p1 : Int32) (p2 : Int32) (M : xMem) : Option (Int32 × xMem) :=
  (if p1 = 0 then (f_N_fails_16 b p1 p2 M) else (if M.1 b 0 = 0 then (xlet (wI M b 0 p2) fun M => f_N_fails_16 b p1 p2 M) else (f_N_fails_16 b p1 p2 M)))
set_option maxRecDepth 100000 in
set_option maxHeartbeats 400000 in
theorem s_N_fails_16 {p : Program} {l : Launch} {e : Env} {R : Room} {s : State} {m : MethodId} {args : Array Value} {below : List Frame} {meth : Method} {c : Code} {G : xG} {Y : xY} {sz : Nat} {b : Nat} {p1 : Int32} {p2 : Int32}  (hc : xC p s m args meth c G 3 c_N_fails y_N_fails.cls (some .boolean)) (hR : xRm R 0) (hb : xMd Y b) {M' : xMem} {r : Int32} (M : xMem) (hf : f_N_fails_16 b p1 p2 M = some (r, M')) : xW p l e R s m args below meth c G 3 (MQ below (xQc G (some (.int r)) (xo G Y M') sz) args s 0 0 (xA G)) (xo G Y M) sz 0 0 16 [some (.ref b), some (.int p1), some (.int p2)] [] := by
  unfold f_N_fails_16 at hf
  refine x_aload_n hc (xd dk_N_fails 8 rfl) rfl rfl ?_
  refine x_get hc (ci := 10) (k := 0) fi_N (c_N hb _) rfl (by decide) rfl xw1143 rfl (xd dk_N_fails 9 rfl) ?_
  refine x_if_eq hc (tgt := 27) (xd dk_N_fails 10 rfl) rfl (fun q2 => ?_) (fun q2 => ?_)
  · rw [if_pos q2] at hf
    refine x_iconst hc (v := 0) (xd dk_N_fails 13 rfl) (by decide) ?_
    cases hf
    exact x_zreturn hc rfl (xd dk_N_fails 14 rfl)
  · rw [if_neg q2] at hf
    refine x_iconst hc (v := 1) (xd dk_N_fails 11 rfl) (by decide) ?_
    refine x_goto hc (tgt := 28) (xd dk_N_fails 12 rfl) rfl ?_
    cases hf
    exact x_zreturn hc rfl (xd dk_N_fails 14 rfl)
set_option maxRecDepth 100000 in
set_option maxHeartbeats 400000 in
theorem s_N_fails {l : Launch} {G : xG} {Y : xY} {sz : Nat} {b : Nat} {p1 : Int32} {p2 : Int32}  (hb : xMd Y b) {M M' : xMem} {r : Int32} (hf : f_N_fails b p1 p2 M = some (r, M')) : xM l G y_N_fails c_N_fails 3 (some .boolean) 0 0 0 [.ref b, .int p1, .int p2] (xo G Y M) sz (some (.int r)) (xo G Y M') sz := by
  unfold f_N_fails at hf
  refine xM.of (k := 0) (L0 := [some (.ref b), some (.int p1), some (.int p2)]) (by decide) (Nat.le_of_ble_eq_true rfl) rfl ?_
  intro p e s m args below meth c hc hnm
  have hR : xRm { frames := 0, cells := 0, slots := 0, locals := 48 * 0 } 0 := ⟨Nat.le_refl _, Nat.le_refl _⟩
  refine x_iload_n hc (xd dk_N_fails 0 rfl) rfl rfl ?_
  refine x_if_eq hc (tgt := 16) (xd dk_N_fails 1 rfl) rfl (fun q3 => ?_) (fun q3 => ?_)
  · rw [if_pos q3] at hf
    exact s_N_fails_16 hc hR hb M hf
  · rw [if_neg q3] at hf
    refine x_aload_n hc (xd dk_N_fails 2 rfl) rfl rfl ?_
    refine x_get hc (ci := 10) (k := 0) fi_N (c_N hb _) rfl (by decide) rfl xw1143 rfl (xd dk_N_fails 3 rfl) ?_
    refine x_if_ne hc (tgt := 16) (xd dk_N_fails 4 rfl) rfl (fun q4 => ?_) (fun q4 => ?_)
    · rw [if_neg q4] at hf
      exact s_N_fails_16 hc hR hb M hf
    · rw [if_pos q4] at hf
      refine x_aload_n hc (xd dk_N_fails 5 rfl) rfl rfl ?_
      refine x_iload_n hc (xd dk_N_fails 6 rfl) rfl rfl ?_
      refine x_put hc (ci := 10) (k := 0) fi_N ft_N ft_N_ok fn_N (c_N hb _) rfl (by decide) rfl xw1143 rfl rfl rfl (Nat.le_of_ble_eq_true rfl) (xd dk_N_fails 7 rfl) ?_
      rw [w_N_0 hb]
      replace hf := xlet_some hf
      generalize wI M b 0 p2 = M at hf ⊢
      exact s_N_fails_16 hc hR hb M hf
def f_N_isGiven_89 (b : Nat) (p1 : Int32) (k16 : Int32 → Int32 → xMem → Option (Int32 × xMem)) (k44 : Int32 → Int32 → Int32 → Int32 → xMem → Option (Int32 × xMem)) (v2 : Int32) (v3 : Int32) (v4 : Int32) (v5 : Int32) (w0 : Int32) (M : xMem) : Option (Int32 × xMem) :=
  (k44 v2 v3 w0 (v5 + Int32.ofInt 1) M)
def f_N_isGiven_97 (b : Nat) (p1 : Int32) (k16 : Int32 → Int32 → xMem → Option (Int32 × xMem)) (v2 : Int32) (v3 : Int32) (v4 : Int32) (v5 : Int32) (M : xMem) : Option (Int32 × xMem) :=
  (if v4 = 0 then (k16 v2 (v3 + Int32.ofInt 1) M) else (some (1, M)))
def f_N_isGiven_44 (b : Nat) (p1 : Int32) (k16 : Int32 → Int32 → xMem → Option (Int32 × xMem)) : Nat → Int32 → Int32 → Int32 → Int32 → xMem → Option (Int32 × xMem)
  | 0, _, _, _, _, _ => none
  | n + 1, v2, v3, v4, v5, M =>
    (if v2 ≤ v5 then (f_N_isGiven_97 b p1 k16 v2 v3 v4 v5 M) else (if v4 = 0 then (f_N_isGiven_97 b p1 k16 v2 v3 v4 v5 M) else (if xin ((8 * v3) + v5) 64 = true then if xin p1 64 = true then if xin ((M.1 (b + 9) p1.toNatClampNeg) + v5) 160 = true then if M.1 (b + 5) ((8 * v3) + v5).toNatClampNeg = M.1 (b + 2) ((M.1 (b + 9) p1.toNatClampNeg) + v5).toNatClampNeg then (f_N_isGiven_89 b p1 k16 (f_N_isGiven_44 b p1 k16 n) v2 v3 v4 v5 1 M) else (f_N_isGiven_89 b p1 k16 (f_N_isGiven_44 b p1 k16 n) v2 v3 v4 v5 0 M) else none else none else none)))
def f_N_isGiven_39 (b : Nat) (p1 : Int32) (k16 : Int32 → Int32 → xMem → Option (Int32 × xMem)) (v2 : Int32) (v3 : Int32) (w0 : Int32) (M : xMem) : Option (Int32 × xMem) :=
  (f_N_isGiven_44 b p1 k16 xFuel v2 v3 w0 0 M)
def f_N_isGiven_16 (b : Nat) (p1 : Int32) : Nat → Int32 → Int32 → xMem → Option (Int32 × xMem)
  | 0, _, _, _ => none
  | n + 1, v2, v3, M =>
    (if M.1 b 6 ≤ v3 then (some (0, M)) else (if xin v3 8 = true then if M.1 (b + 6) v3.toNatClampNeg = v2 then (f_N_isGiven_39 b p1 (f_N_isGiven_16 b p1 n) v2 v3 1 M) else (f_N_isGiven_39 b p1 (f_N_isGiven_16 b p1 n) v2 v3 0 M) else none))
def f_N_isGiven (b : Nat) (p1 : Int32) (M : xMem) : Option (Int32 × xMem) :=
  (if xin p1 64 = true then if xin p1 64 = true then f_N_isGiven_16 b p1 xFuel ((M.1 (b + 10) p1.toNatClampNeg) - (M.1 (b + 9) p1.toNatClampNeg)) 0 M else none else none)
set_option maxRecDepth 100000 in
set_option maxHeartbeats 400000 in
theorem s_N_isGiven_89 {p : Program} {l : Launch} {e : Env} {R : Room} {s : State} {m : MethodId} {args : Array Value} {below : List Frame} {meth : Method} {c : Code} {G : xG} {Y : xY} {sz : Nat} {b : Nat} {p1 : Int32}  (hc : xC p s m args meth c G 6 c_N_isGiven y_N_isGiven.cls (some .boolean)) (hR : xRm R 0) (hb : xMd Y b) {k16 : Int32 → Int32 → xMem → Option (Int32 × xMem)} {k44 : Int32 → Int32 → Int32 → Int32 → xMem → Option (Int32 × xMem)} {M' : xMem} {r : Int32} (hk16 : ∀ (v2 : Int32) (v3 : Int32) (M : xMem), k16 v2 v3 M = some (r, M') → xW p l e R s m args below meth c G 6 (MQ below (xQc G (some (.int r)) (xo G Y M') sz) args s 0 0 (xA G)) (xo G Y M) sz 0 0 16 [some (.ref b), some (.int p1), some (.int v2), some (.int v3), none, none] []) (hk44 : ∀ (v2 : Int32) (v3 : Int32) (v4 : Int32) (v5 : Int32) (M : xMem), k44 v2 v3 v4 v5 M = some (r, M') → xW p l e R s m args below meth c G 6 (MQ below (xQc G (some (.int r)) (xo G Y M') sz) args s 0 0 (xA G)) (xo G Y M) sz 0 0 44 [some (.ref b), some (.int p1), some (.int v2), some (.int v3), some (.int v4), some (.int v5)] []) (v2 : Int32) (v3 : Int32) (v4 : Int32) (v5 : Int32) (w0 : Int32) (M : xMem) (hf : f_N_isGiven_89 b p1 k16 k44 v2 v3 v4 v5 w0 M = some (r, M')) : xW p l e R s m args below meth c G 6 (MQ below (xQc G (some (.int r)) (xo G Y M') sz) args s 0 0 (xA G)) (xo G Y M) sz 0 0 89 [some (.ref b), some (.int p1), some (.int v2), some (.int v3), some (.int v4), some (.int v5)] [.int w0] := by
  unfold f_N_isGiven_89 at hf
  refine x_istore hc (xd dk_N_isGiven 54 rfl) (by decide) rfl ?_
  refine x_iinc hc (xd dk_N_isGiven 55 rfl) rfl (by decide) rfl ?_
  refine x_goto hc (tgt := 44) (xd dk_N_isGiven 56 rfl) rfl ?_
  exact hk44 v2 v3 w0 (v5 + Int32.ofInt 1) M hf
set_option maxRecDepth 100000 in
set_option maxHeartbeats 400000 in
theorem s_N_isGiven_97 {p : Program} {l : Launch} {e : Env} {R : Room} {s : State} {m : MethodId} {args : Array Value} {below : List Frame} {meth : Method} {c : Code} {G : xG} {Y : xY} {sz : Nat} {b : Nat} {p1 : Int32}  (hc : xC p s m args meth c G 6 c_N_isGiven y_N_isGiven.cls (some .boolean)) (hR : xRm R 0) (hb : xMd Y b) {k16 : Int32 → Int32 → xMem → Option (Int32 × xMem)} {M' : xMem} {r : Int32} (hk16 : ∀ (v2 : Int32) (v3 : Int32) (M : xMem), k16 v2 v3 M = some (r, M') → xW p l e R s m args below meth c G 6 (MQ below (xQc G (some (.int r)) (xo G Y M') sz) args s 0 0 (xA G)) (xo G Y M) sz 0 0 16 [some (.ref b), some (.int p1), some (.int v2), some (.int v3), none, none] []) (v2 : Int32) (v3 : Int32) (v4 : Int32) (v5 : Int32) (M : xMem) (hf : f_N_isGiven_97 b p1 k16 v2 v3 v4 v5 M = some (r, M')) : xW p l e R s m args below meth c G 6 (MQ below (xQc G (some (.int r)) (xo G Y M') sz) args s 0 0 (xA G)) (xo G Y M) sz 0 0 97 [some (.ref b), some (.int p1), some (.int v2), some (.int v3), some (.int v4), some (.int v5)] [] := by
  unfold f_N_isGiven_97 at hf
  refine x_iload hc (xd dk_N_isGiven 57 rfl) rfl ?_
  refine x_if_eq hc (tgt := 104) (xd dk_N_isGiven 58 rfl) rfl (fun q9 => ?_) (fun q9 => ?_)
  · rw [if_pos q9] at hf
    refine x_iinc hc (xd dk_N_isGiven 61 rfl) rfl (by decide) rfl ?_
    refine x_goto hc (tgt := 16) (xd dk_N_isGiven 62 rfl) rfl ?_
    refine x_drop 4 ?_
    refine x_drop 5 ?_
    exact hk16 v2 (v3 + Int32.ofInt 1) M hf
  · rw [if_neg q9] at hf
    refine x_iconst hc (v := 1) (xd dk_N_isGiven 59 rfl) (by decide) ?_
    cases hf
    exact x_zreturn hc rfl (xd dk_N_isGiven 60 rfl)
set_option maxRecDepth 100000 in
set_option maxHeartbeats 400000 in
theorem s_N_isGiven_44 {p : Program} {l : Launch} {e : Env} {R : Room} {s : State} {m : MethodId} {args : Array Value} {below : List Frame} {meth : Method} {c : Code} {G : xG} {Y : xY} {sz : Nat} {b : Nat} {p1 : Int32}  (hc : xC p s m args meth c G 6 c_N_isGiven y_N_isGiven.cls (some .boolean)) (hR : xRm R 0) (hb : xMd Y b) {k16 : Int32 → Int32 → xMem → Option (Int32 × xMem)} {M' : xMem} {r : Int32} (hk16 : ∀ (v2 : Int32) (v3 : Int32) (M : xMem), k16 v2 v3 M = some (r, M') → xW p l e R s m args below meth c G 6 (MQ below (xQc G (some (.int r)) (xo G Y M') sz) args s 0 0 (xA G)) (xo G Y M) sz 0 0 16 [some (.ref b), some (.int p1), some (.int v2), some (.int v3), none, none] []) : ∀ (n : Nat) (v2 : Int32) (v3 : Int32) (v4 : Int32) (v5 : Int32) (M : xMem), f_N_isGiven_44 b p1 k16 n v2 v3 v4 v5 M = some (r, M') → xW p l e R s m args below meth c G 6 (MQ below (xQc G (some (.int r)) (xo G Y M') sz) args s 0 0 (xA G)) (xo G Y M) sz 0 0 44 [some (.ref b), some (.int p1), some (.int v2), some (.int v3), some (.int v4), some (.int v5)] [] := by
  intro n
  induction n with
  | zero => intro v2 v3 v4 v5 M hf; simp only [f_N_isGiven_44] at hf; cases hf
  | succ n ih =>
    intro v2 v3 v4 v5 M hf
    simp only [f_N_isGiven_44] at hf
    refine x_iload hc (xd dk_N_isGiven 28 rfl) rfl ?_
    refine x_iload_n hc (xd dk_N_isGiven 29 rfl) rfl rfl ?_
    refine x_icmp_ge hc (tgt := 97) (xd dk_N_isGiven 30 rfl) rfl (fun q10 => ?_) (fun q10 => ?_)
    · rw [if_pos q10] at hf
      exact s_N_isGiven_97 hc hR hb hk16 v2 v3 v4 v5 M hf
    · rw [if_neg q10] at hf
      refine x_iload hc (xd dk_N_isGiven 31 rfl) rfl ?_
      refine x_if_eq hc (tgt := 97) (xd dk_N_isGiven 32 rfl) rfl (fun q11 => ?_) (fun q11 => ?_)
      · rw [if_pos q11] at hf
        exact s_N_isGiven_97 hc hR hb hk16 v2 v3 v4 v5 M hf
      · rw [if_neg q11] at hf
        refine x_aload_n hc (xd dk_N_isGiven 33 rfl) rfl rfl ?_
        refine x_get hc (ci := 10) (k := 14) fi_N (c_N hb _) rfl (by decide) rfl xw1157 rfl (xd dk_N_isGiven 34 rfl) ?_
        refine x_bipush hc (v := 8) (xd dk_N_isGiven 35 rfl) (by decide) ?_
        refine x_iload_n hc (xd dk_N_isGiven 36 rfl) rfl rfl ?_
        refine x_imul hc (xd dk_N_isGiven 37 rfl) ?_
        refine x_iload hc (xd dk_N_isGiven 38 rfl) rfl ?_
        refine x_iadd hc (xd dk_N_isGiven 39 rfl) ?_
        by_cases q12 : xin ((8 * v3) + v5) 64 = true
        case neg => rw [if_neg q12] at hf; cases hf
        rw [if_pos q12] at hf
        refine x_iald hc (cA (xMd.ar hb 5 (by decide) rfl)) (xin_in q12) (xd dk_N_isGiven 40 rfl) ?_
        refine x_aload_n hc (xd dk_N_isGiven 41 rfl) rfl rfl ?_
        refine x_get hc (ci := 10) (k := 11) fi_N (c_N hb _) rfl (by decide) rfl xw1154 rfl (xd dk_N_isGiven 42 rfl) ?_
        refine x_aload_n hc (xd dk_N_isGiven 43 rfl) rfl rfl ?_
        refine x_get hc (ci := 10) (k := 18) fi_N (c_N hb _) rfl (by decide) rfl xw1161 rfl (xd dk_N_isGiven 44 rfl) ?_
        refine x_iload_n hc (xd dk_N_isGiven 45 rfl) rfl rfl ?_
        by_cases q13 : xin p1 64 = true
        case neg => rw [if_neg q13] at hf; cases hf
        rw [if_pos q13] at hf
        refine x_iald hc (cA (xMd.ar hb 9 (by decide) rfl)) (xin_in q13) (xd dk_N_isGiven 46 rfl) ?_
        refine x_iload hc (xd dk_N_isGiven 47 rfl) rfl ?_
        refine x_iadd hc (xd dk_N_isGiven 48 rfl) ?_
        by_cases q14 : xin ((M.1 (b + 9) p1.toNatClampNeg) + v5) 160 = true
        case neg => rw [if_neg q14] at hf; cases hf
        rw [if_pos q14] at hf
        refine x_iald hc (cA (xMd.ar hb 2 (by decide) rfl)) (xin_in q14) (xd dk_N_isGiven 49 rfl) ?_
        refine x_icmp_ne hc (tgt := 88) (xd dk_N_isGiven 50 rfl) rfl (fun q15 => ?_) (fun q15 => ?_)
        · rw [if_neg q15] at hf
          refine x_iconst hc (v := 0) (xd dk_N_isGiven 53 rfl) (by decide) ?_
          exact s_N_isGiven_89 hc hR hb hk16 ih v2 v3 v4 v5 0 M hf
        · rw [if_pos q15] at hf
          refine x_iconst hc (v := 1) (xd dk_N_isGiven 51 rfl) (by decide) ?_
          refine x_goto hc (tgt := 89) (xd dk_N_isGiven 52 rfl) rfl ?_
          exact s_N_isGiven_89 hc hR hb hk16 ih v2 v3 v4 v5 1 M hf
set_option maxRecDepth 100000 in
set_option maxHeartbeats 400000 in
theorem s_N_isGiven_39 {p : Program} {l : Launch} {e : Env} {R : Room} {s : State} {m : MethodId} {args : Array Value} {below : List Frame} {meth : Method} {c : Code} {G : xG} {Y : xY} {sz : Nat} {b : Nat} {p1 : Int32}  (hc : xC p s m args meth c G 6 c_N_isGiven y_N_isGiven.cls (some .boolean)) (hR : xRm R 0) (hb : xMd Y b) {k16 : Int32 → Int32 → xMem → Option (Int32 × xMem)} {M' : xMem} {r : Int32} (hk16 : ∀ (v2 : Int32) (v3 : Int32) (M : xMem), k16 v2 v3 M = some (r, M') → xW p l e R s m args below meth c G 6 (MQ below (xQc G (some (.int r)) (xo G Y M') sz) args s 0 0 (xA G)) (xo G Y M) sz 0 0 16 [some (.ref b), some (.int p1), some (.int v2), some (.int v3), none, none] []) (v2 : Int32) (v3 : Int32) (w0 : Int32) (M : xMem) (hf : f_N_isGiven_39 b p1 k16 v2 v3 w0 M = some (r, M')) : xW p l e R s m args below meth c G 6 (MQ below (xQc G (some (.int r)) (xo G Y M') sz) args s 0 0 (xA G)) (xo G Y M) sz 0 0 39 [some (.ref b), some (.int p1), some (.int v2), some (.int v3), none, none] [.int w0] := by
  unfold f_N_isGiven_39 at hf
  refine x_istore hc (xd dk_N_isGiven 25 rfl) (by decide) rfl ?_
  refine x_iconst hc (v := 0) (xd dk_N_isGiven 26 rfl) (by decide) ?_
  refine x_istore hc (xd dk_N_isGiven 27 rfl) (by decide) rfl ?_
  exact s_N_isGiven_44 hc hR hb hk16 xFuel v2 v3 w0 0 M hf
set_option maxRecDepth 100000 in
set_option maxHeartbeats 400000 in
theorem s_N_isGiven_16 {p : Program} {l : Launch} {e : Env} {R : Room} {s : State} {m : MethodId} {args : Array Value} {below : List Frame} {meth : Method} {c : Code} {G : xG} {Y : xY} {sz : Nat} {b : Nat} {p1 : Int32}  (hc : xC p s m args meth c G 6 c_N_isGiven y_N_isGiven.cls (some .boolean)) (hR : xRm R 0) (hb : xMd Y b) {M' : xMem} {r : Int32} : ∀ (n : Nat) (v2 : Int32) (v3 : Int32) (M : xMem), f_N_isGiven_16 b p1 n v2 v3 M = some (r, M') → xW p l e R s m args below meth c G 6 (MQ below (xQc G (some (.int r)) (xo G Y M') sz) args s 0 0 (xA G)) (xo G Y M) sz 0 0 16 [some (.ref b), some (.int p1), some (.int v2), some (.int v3), none, none] [] := by
  intro n
  induction n with
  | zero => intro v2 v3 M hf; simp only [f_N_isGiven_16] at hf; cases hf
  | succ n ih =>
    intro v2 v3 M hf
    simp only [f_N_isGiven_16] at hf
    refine x_iload_n hc (xd dk_N_isGiven 12 rfl) rfl rfl ?_
    refine x_aload_n hc (xd dk_N_isGiven 13 rfl) rfl rfl ?_
    refine x_get hc (ci := 10) (k := 6) fi_N (c_N hb _) rfl (by decide) rfl xw1149 rfl (xd dk_N_isGiven 14 rfl) ?_
    refine x_icmp_ge hc (tgt := 110) (xd dk_N_isGiven 15 rfl) rfl (fun q16 => ?_) (fun q16 => ?_)
    · rw [if_pos q16] at hf
      refine x_iconst hc (v := 0) (xd dk_N_isGiven 63 rfl) (by decide) ?_
      cases hf
      exact x_zreturn hc rfl (xd dk_N_isGiven 64 rfl)
    · rw [if_neg q16] at hf
      refine x_aload_n hc (xd dk_N_isGiven 16 rfl) rfl rfl ?_
      refine x_get hc (ci := 10) (k := 15) fi_N (c_N hb _) rfl (by decide) rfl xw1158 rfl (xd dk_N_isGiven 17 rfl) ?_
      refine x_iload_n hc (xd dk_N_isGiven 18 rfl) rfl rfl ?_
      by_cases q17 : xin v3 8 = true
      case neg => rw [if_neg q17] at hf; cases hf
      rw [if_pos q17] at hf
      refine x_iald hc (cA (xMd.ar hb 6 (by decide) rfl)) (xin_in q17) (xd dk_N_isGiven 19 rfl) ?_
      refine x_iload_n hc (xd dk_N_isGiven 20 rfl) rfl rfl ?_
      refine x_icmp_ne hc (tgt := 38) (xd dk_N_isGiven 21 rfl) rfl (fun q18 => ?_) (fun q18 => ?_)
      · rw [if_neg q18] at hf
        refine x_iconst hc (v := 0) (xd dk_N_isGiven 24 rfl) (by decide) ?_
        exact s_N_isGiven_39 hc hR hb ih v2 v3 0 M hf
      · rw [if_pos q18] at hf
        refine x_iconst hc (v := 1) (xd dk_N_isGiven 22 rfl) (by decide) ?_
        refine x_goto hc (tgt := 39) (xd dk_N_isGiven 23 rfl) rfl ?_
        exact s_N_isGiven_39 hc hR hb ih v2 v3 1 M hf
set_option maxRecDepth 100000 in
set_option maxHeartbeats 400000 in
theorem s_N_isGiven {l : Launch} {G : xG} {Y : xY} {sz : Nat} {b : Nat} {p1 : Int32}  (hb : xMd Y b) {M M' : xMem} {r : Int32} (hf : f_N_isGiven b p1 M = some (r, M')) : xM l G y_N_isGiven c_N_isGiven 6 (some .boolean) 0 0 0 [.ref b, .int p1] (xo G Y M) sz (some (.int r)) (xo G Y M') sz := by
  unfold f_N_isGiven at hf
  refine xM.of (k := 4) (L0 := [some (.ref b), some (.int p1), none, none, none, none]) (by decide) (Nat.le_of_ble_eq_true rfl) rfl ?_
  intro p e s m args below meth c hc hnm
  have hR : xRm { frames := 0, cells := 0, slots := 0, locals := 48 * 0 } 0 := ⟨Nat.le_refl _, Nat.le_refl _⟩
  refine x_aload_n hc (xd dk_N_isGiven 0 rfl) rfl rfl ?_
  refine x_get hc (ci := 10) (k := 19) fi_N (c_N hb _) rfl (by decide) rfl xw1162 rfl (xd dk_N_isGiven 1 rfl) ?_
  refine x_iload_n hc (xd dk_N_isGiven 2 rfl) rfl rfl ?_
  by_cases q19 : xin p1 64 = true
  case neg => rw [if_neg q19] at hf; cases hf
  rw [if_pos q19] at hf
  refine x_iald hc (cA (xMd.ar hb 10 (by decide) rfl)) (xin_in q19) (xd dk_N_isGiven 3 rfl) ?_
  refine x_aload_n hc (xd dk_N_isGiven 4 rfl) rfl rfl ?_
  refine x_get hc (ci := 10) (k := 18) fi_N (c_N hb _) rfl (by decide) rfl xw1161 rfl (xd dk_N_isGiven 5 rfl) ?_
  refine x_iload_n hc (xd dk_N_isGiven 6 rfl) rfl rfl ?_
  by_cases q20 : xin p1 64 = true
  case neg => rw [if_neg q20] at hf; cases hf
  rw [if_pos q20] at hf
  refine x_iald hc (cA (xMd.ar hb 9 (by decide) rfl)) (xin_in q20) (xd dk_N_isGiven 7 rfl) ?_
  refine x_isub hc (xd dk_N_isGiven 8 rfl) ?_
  refine x_istore_n hc (xd dk_N_isGiven 9 rfl) (by decide) rfl ?_
  refine x_iconst hc (v := 0) (xd dk_N_isGiven 10 rfl) (by decide) ?_
  refine x_istore_n hc (xd dk_N_isGiven 11 rfl) (by decide) rfl ?_
  exact s_N_isGiven_16 hc hR hb xFuel ((M.1 (b + 10) p1.toNatClampNeg) - (M.1 (b + 9) p1.toNatClampNeg)) 0 M hf
def f_N_finds_69 (b : Nat) (p1 : Int32) (p2 : Int32) (p3 : Int32) (k17 : Int32 → xMem → Option (Unit × xMem)) (v4 : Int32) (M : xMem) : Option (Unit × xMem) :=
  (k17 (v4 + Int32.ofInt 1) M)
def f_N_finds_125 (b : Nat) (p1 : Int32) (p2 : Int32) (p3 : Int32) (k81 : Int32 → xMem → Option (Unit × xMem)) (v4 : Int32) (M : xMem) : Option (Unit × xMem) :=
  (if xin (v4 - 1) 400 = true then xval (M.1 (b + 41) (v4 - 1).toNatClampNeg) fun x17 => if xin v4 400 = true then xlet (wI M (b + 41) v4.toNatClampNeg x17) fun M => if xin (v4 - 1) 400 = true then xval (M.1 (b + 40) (v4 - 1).toNatClampNeg) fun x20 => if xin v4 400 = true then xlet (wI M (b + 40) v4.toNatClampNeg x20) fun M => k81 (v4 + Int32.ofInt (-1)) M else none else none else none else none)
def f_N_finds_163 (b : Nat) (p1 : Int32) (p2 : Int32) (p3 : Int32) (v4 : Int32) (M : xMem) : Option (Unit × xMem) :=
  (if xin v4 400 = true then xlet (wI M (b + 41) v4.toNatClampNeg p3) fun M => if xin v4 400 = true then xlet (wI M (b + 40) v4.toNatClampNeg p2) fun M => xval ((M.1 b 63) + 1) fun x24 => xlet (wI M b 63 x24) fun M => some ((), M) else none else none)
def f_N_finds_81 (b : Nat) (p1 : Int32) (p2 : Int32) (p3 : Int32) : Nat → Int32 → xMem → Option (Unit × xMem)
  | 0, _, _ => none
  | n + 1, v4, M =>
    (if v4 ≤ 0 then (f_N_finds_163 b p1 p2 p3 v4 M) else (if xin (v4 - 1) 400 = true then if p3 < M.1 (b + 41) (v4 - 1).toNatClampNeg then (f_N_finds_125 b p1 p2 p3 (f_N_finds_81 b p1 p2 p3 n) v4 M) else (if xin (v4 - 1) 400 = true then if M.1 (b + 41) (v4 - 1).toNatClampNeg = p3 then (if xin (v4 - 1) 400 = true then if M.1 (b + 40) (v4 - 1).toNatClampNeg ≤ p2 then (f_N_finds_163 b p1 p2 p3 v4 M) else (f_N_finds_125 b p1 p2 p3 (f_N_finds_81 b p1 p2 p3 n) v4 M) else none) else (f_N_finds_163 b p1 p2 p3 v4 M) else none) else none))
def f_N_finds_17 (b : Nat) (p1 : Int32) (p2 : Int32) (p3 : Int32) : Nat → Int32 → xMem → Option (Unit × xMem)
  | 0, _, _ => none
  | n + 1, v4, M =>
    (if M.1 b 60 ≤ v4 then (f_N_finds_81 b p1 p2 p3 xFuel (M.1 b 63) M) else (if xin v4 64 = true then if M.1 (b + 36) v4.toNatClampNeg = p2 then (if xin v4 64 = true then if xin v4 64 = true then xval (M.1 (b + 38) v4.toNatClampNeg) fun x37 => xval (M.1 (b + 37) v4.toNatClampNeg) fun x38 => xbind (f_N_in p3 x38 x37 M) fun r39 M => if r39 = 0 then (f_N_finds_69 b p1 p2 p3 (f_N_finds_17 b p1 p2 p3 n) v4 M) else (xval ((M.1 b 64) + 1) fun x42 => xlet (wI M b 64 x42) fun M => some ((), M)) else none else none) else (f_N_finds_69 b p1 p2 p3 (f_N_finds_17 b p1 p2 p3 n) v4 M) else none))
def f_N_finds (b : Nat) (p1 : Int32) (p2 : Int32) (p3 : Int32) (M : xMem) : Option (Unit × xMem) :=
  (if p1 = 0 then (some ((), M)) else (if xin p2 10 = true then if M.1 (b + 7) p2.toNatClampNeg = 0 then (f_N_finds_17 b p1 p2 p3 xFuel 0 M) else (some ((), M)) else none))
set_option maxRecDepth 100000 in
set_option maxHeartbeats 400000 in
theorem s_N_finds_69 {p : Program} {l : Launch} {e : Env} {R : Room} {s : State} {m : MethodId} {args : Array Value} {below : List Frame} {meth : Method} {c : Code} {G : xG} {Y : xY} {sz : Nat} {b : Nat} {p1 : Int32} {p2 : Int32} {p3 : Int32}  (hc : xC p s m args meth c G 5 c_N_finds y_N_finds.cls none) (hR : xRm R 1) (hb : xMd Y b) {k17 : Int32 → xMem → Option (Unit × xMem)} {M' : xMem} {r : Unit} (hk17 : ∀ (v4 : Int32) (M : xMem), k17 v4 M = some (r, M') → xW p l e R s m args below meth c G 5 (MQ below (xQc G none (xo G Y M') sz) args s 0 0 (xA G)) (xo G Y M) sz 0 0 17 [some (.ref b), some (.int p1), some (.int p2), some (.int p3), some (.int v4)] []) (v4 : Int32) (M : xMem) (hf : f_N_finds_69 b p1 p2 p3 k17 v4 M = some (r, M')) : xW p l e R s m args below meth c G 5 (MQ below (xQc G none (xo G Y M') sz) args s 0 0 (xA G)) (xo G Y M) sz 0 0 69 [some (.ref b), some (.int p1), some (.int p2), some (.int p3), some (.int v4)] [] := by
  unfold f_N_finds_69 at hf
  refine x_iinc hc (xd dk_N_finds 38 rfl) rfl (by decide) rfl ?_
  refine x_goto hc (tgt := 17) (xd dk_N_finds 39 rfl) rfl ?_
  exact hk17 (v4 + Int32.ofInt 1) M hf
set_option maxRecDepth 100000 in
set_option maxHeartbeats 400000 in
theorem s_N_finds_125 {p : Program} {l : Launch} {e : Env} {R : Room} {s : State} {m : MethodId} {args : Array Value} {below : List Frame} {meth : Method} {c : Code} {G : xG} {Y : xY} {sz : Nat} {b : Nat} {p1 : Int32} {p2 : Int32} {p3 : Int32}  (hc : xC p s m args meth c G 5 c_N_finds y_N_finds.cls none) (hR : xRm R 1) (hb : xMd Y b) {k81 : Int32 → xMem → Option (Unit × xMem)} {M' : xMem} {r : Unit} (hk81 : ∀ (v4 : Int32) (M : xMem), k81 v4 M = some (r, M') → xW p l e R s m args below meth c G 5 (MQ below (xQc G none (xo G Y M') sz) args s 0 0 (xA G)) (xo G Y M) sz 0 0 81 [some (.ref b), some (.int p1), some (.int p2), some (.int p3), some (.int v4)] []) (v4 : Int32) (M : xMem) (hf : f_N_finds_125 b p1 p2 p3 k81 v4 M = some (r, M')) : xW p l e R s m args below meth c G 5 (MQ below (xQc G none (xo G Y M') sz) args s 0 0 (xA G)) (xo G Y M) sz 0 0 125 [some (.ref b), some (.int p1), some (.int p2), some (.int p3), some (.int v4)] [] := by
  unfold f_N_finds_125 at hf
  refine x_aload_n hc (xd dk_N_finds 69 rfl) rfl rfl ?_
  refine x_get hc (ci := 10) (k := 62) fi_N (c_N hb _) rfl (by decide) rfl xw1205 rfl (xd dk_N_finds 70 rfl) ?_
  refine x_iload hc (xd dk_N_finds 71 rfl) rfl ?_
  refine x_aload_n hc (xd dk_N_finds 72 rfl) rfl rfl ?_
  refine x_get hc (ci := 10) (k := 62) fi_N (c_N hb _) rfl (by decide) rfl xw1205 rfl (xd dk_N_finds 73 rfl) ?_
  refine x_iload hc (xd dk_N_finds 74 rfl) rfl ?_
  refine x_iconst hc (v := 1) (xd dk_N_finds 75 rfl) (by decide) ?_
  refine x_isub hc (xd dk_N_finds 76 rfl) ?_
  by_cases q16 : xin (v4 - 1) 400 = true
  case neg => rw [if_neg q16] at hf; cases hf
  rw [if_pos q16] at hf
  refine x_iald hc (cA (xMd.ar hb 41 (by decide) rfl)) (xin_in q16) (xd dk_N_finds 77 rfl) ?_
  obtain ⟨x17, hx17, hf⟩ := xval_ex hf
  rw [← hx17]
  by_cases q18 : xin v4 400 = true
  case neg => rw [if_neg q18] at hf; cases hf
  rw [if_pos q18] at hf
  refine x_iast hc (cA (xMd.ar hb 41 (by decide) rfl)) (xin_in q18) (xd dk_N_finds 78 rfl) ?_
  rw [wA (xMd.ar hb 41 (by decide) rfl)]
  replace hf := xlet_some hf
  generalize wI M (b + 41) v4.toNatClampNeg x17 = M at hf ⊢
  refine x_aload_n hc (xd dk_N_finds 79 rfl) rfl rfl ?_
  refine x_get hc (ci := 10) (k := 61) fi_N (c_N hb _) rfl (by decide) rfl xw1204 rfl (xd dk_N_finds 80 rfl) ?_
  refine x_iload hc (xd dk_N_finds 81 rfl) rfl ?_
  refine x_aload_n hc (xd dk_N_finds 82 rfl) rfl rfl ?_
  refine x_get hc (ci := 10) (k := 61) fi_N (c_N hb _) rfl (by decide) rfl xw1204 rfl (xd dk_N_finds 83 rfl) ?_
  refine x_iload hc (xd dk_N_finds 84 rfl) rfl ?_
  refine x_iconst hc (v := 1) (xd dk_N_finds 85 rfl) (by decide) ?_
  refine x_isub hc (xd dk_N_finds 86 rfl) ?_
  by_cases q19 : xin (v4 - 1) 400 = true
  case neg => rw [if_neg q19] at hf; cases hf
  rw [if_pos q19] at hf
  refine x_iald hc (cA (xMd.ar hb 40 (by decide) rfl)) (xin_in q19) (xd dk_N_finds 87 rfl) ?_
  obtain ⟨x20, hx20, hf⟩ := xval_ex hf
  rw [← hx20]
  by_cases q21 : xin v4 400 = true
  case neg => rw [if_neg q21] at hf; cases hf
  rw [if_pos q21] at hf
  refine x_iast hc (cA (xMd.ar hb 40 (by decide) rfl)) (xin_in q21) (xd dk_N_finds 88 rfl) ?_
  rw [wA (xMd.ar hb 40 (by decide) rfl)]
  replace hf := xlet_some hf
  generalize wI M (b + 40) v4.toNatClampNeg x20 = M at hf ⊢
  refine x_iinc hc (xd dk_N_finds 89 rfl) rfl (by decide) rfl ?_
  refine x_goto hc (tgt := 81) (xd dk_N_finds 90 rfl) rfl ?_
  exact hk81 (v4 + Int32.ofInt (-1)) M hf
set_option maxRecDepth 100000 in
set_option maxHeartbeats 400000 in
theorem s_N_finds_163 {p : Program} {l : Launch} {e : Env} {R : Room} {s : State} {m : MethodId} {args : Array Value} {below : List Frame} {meth : Method} {c : Code} {G : xG} {Y : xY} {sz : Nat} {b : Nat} {p1 : Int32} {p2 : Int32} {p3 : Int32}  (hc : xC p s m args meth c G 5 c_N_finds y_N_finds.cls none) (hR : xRm R 1) (hb : xMd Y b) {M' : xMem} {r : Unit} (v4 : Int32) (M : xMem) (hf : f_N_finds_163 b p1 p2 p3 v4 M = some (r, M')) : xW p l e R s m args below meth c G 5 (MQ below (xQc G none (xo G Y M') sz) args s 0 0 (xA G)) (xo G Y M) sz 0 0 163 [some (.ref b), some (.int p1), some (.int p2), some (.int p3), some (.int v4)] [] := by
  unfold f_N_finds_163 at hf
  refine x_aload_n hc (xd dk_N_finds 91 rfl) rfl rfl ?_
  refine x_get hc (ci := 10) (k := 62) fi_N (c_N hb _) rfl (by decide) rfl xw1205 rfl (xd dk_N_finds 92 rfl) ?_
  refine x_iload hc (xd dk_N_finds 93 rfl) rfl ?_
  refine x_iload_n hc (xd dk_N_finds 94 rfl) rfl rfl ?_
  by_cases q22 : xin v4 400 = true
  case neg => rw [if_neg q22] at hf; cases hf
  rw [if_pos q22] at hf
  refine x_iast hc (cA (xMd.ar hb 41 (by decide) rfl)) (xin_in q22) (xd dk_N_finds 95 rfl) ?_
  rw [wA (xMd.ar hb 41 (by decide) rfl)]
  replace hf := xlet_some hf
  generalize wI M (b + 41) v4.toNatClampNeg p3 = M at hf ⊢
  refine x_aload_n hc (xd dk_N_finds 96 rfl) rfl rfl ?_
  refine x_get hc (ci := 10) (k := 61) fi_N (c_N hb _) rfl (by decide) rfl xw1204 rfl (xd dk_N_finds 97 rfl) ?_
  refine x_iload hc (xd dk_N_finds 98 rfl) rfl ?_
  refine x_iload_n hc (xd dk_N_finds 99 rfl) rfl rfl ?_
  by_cases q23 : xin v4 400 = true
  case neg => rw [if_neg q23] at hf; cases hf
  rw [if_pos q23] at hf
  refine x_iast hc (cA (xMd.ar hb 40 (by decide) rfl)) (xin_in q23) (xd dk_N_finds 100 rfl) ?_
  rw [wA (xMd.ar hb 40 (by decide) rfl)]
  replace hf := xlet_some hf
  generalize wI M (b + 40) v4.toNatClampNeg p2 = M at hf ⊢
  refine x_aload_n hc (xd dk_N_finds 101 rfl) rfl rfl ?_
  refine x_dup hc (xd dk_N_finds 102 rfl) rfl ?_
  refine x_get hc (ci := 10) (k := 63) fi_N (c_N hb _) rfl (by decide) rfl xw1206 rfl (xd dk_N_finds 103 rfl) ?_
  refine x_iconst hc (v := 1) (xd dk_N_finds 104 rfl) (by decide) ?_
  refine x_iadd hc (xd dk_N_finds 105 rfl) ?_
  obtain ⟨x24, hx24, hf⟩ := xval_ex hf
  rw [← hx24]
  refine x_put hc (ci := 10) (k := 63) fi_N ft_N ft_N_ok fn_N (c_N hb _) rfl (by decide) rfl xw1206 rfl rfl rfl (Nat.le_of_ble_eq_true rfl) (xd dk_N_finds 106 rfl) ?_
  rw [w_N_63 hb]
  replace hf := xlet_some hf
  generalize wI M b 63 x24 = M at hf ⊢
  cases hf
  exact x_return hc (xd dk_N_finds 107 rfl)
set_option maxRecDepth 100000 in
set_option maxHeartbeats 400000 in
theorem s_N_finds_81 {p : Program} {l : Launch} {e : Env} {R : Room} {s : State} {m : MethodId} {args : Array Value} {below : List Frame} {meth : Method} {c : Code} {G : xG} {Y : xY} {sz : Nat} {b : Nat} {p1 : Int32} {p2 : Int32} {p3 : Int32}  (hc : xC p s m args meth c G 5 c_N_finds y_N_finds.cls none) (hR : xRm R 1) (hb : xMd Y b) {M' : xMem} {r : Unit} : ∀ (n : Nat) (v4 : Int32) (M : xMem), f_N_finds_81 b p1 p2 p3 n v4 M = some (r, M') → xW p l e R s m args below meth c G 5 (MQ below (xQc G none (xo G Y M') sz) args s 0 0 (xA G)) (xo G Y M) sz 0 0 81 [some (.ref b), some (.int p1), some (.int p2), some (.int p3), some (.int v4)] [] := by
  intro n
  induction n with
  | zero => intro v4 M hf; simp only [f_N_finds_81] at hf; cases hf
  | succ n ih =>
    intro v4 M hf
    simp only [f_N_finds_81] at hf
    refine x_iload hc (xd dk_N_finds 43 rfl) rfl ?_
    refine x_if_le hc (tgt := 163) (xd dk_N_finds 44 rfl) rfl (fun q25 => ?_) (fun q25 => ?_)
    · rw [if_pos q25] at hf
      exact s_N_finds_163 hc hR hb v4 M hf
    · rw [if_neg q25] at hf
      refine x_aload_n hc (xd dk_N_finds 45 rfl) rfl rfl ?_
      refine x_get hc (ci := 10) (k := 62) fi_N (c_N hb _) rfl (by decide) rfl xw1205 rfl (xd dk_N_finds 46 rfl) ?_
      refine x_iload hc (xd dk_N_finds 47 rfl) rfl ?_
      refine x_iconst hc (v := 1) (xd dk_N_finds 48 rfl) (by decide) ?_
      refine x_isub hc (xd dk_N_finds 49 rfl) ?_
      by_cases q26 : xin (v4 - 1) 400 = true
      case neg => rw [if_neg q26] at hf; cases hf
      rw [if_pos q26] at hf
      refine x_iald hc (cA (xMd.ar hb 41 (by decide) rfl)) (xin_in q26) (xd dk_N_finds 50 rfl) ?_
      refine x_iload_n hc (xd dk_N_finds 51 rfl) rfl rfl ?_
      refine x_icmp_gt hc (tgt := 125) (xd dk_N_finds 52 rfl) rfl (fun q27 => ?_) (fun q27 => ?_)
      · rw [if_pos q27] at hf
        exact s_N_finds_125 hc hR hb ih v4 M hf
      · rw [if_neg q27] at hf
        refine x_aload_n hc (xd dk_N_finds 53 rfl) rfl rfl ?_
        refine x_get hc (ci := 10) (k := 62) fi_N (c_N hb _) rfl (by decide) rfl xw1205 rfl (xd dk_N_finds 54 rfl) ?_
        refine x_iload hc (xd dk_N_finds 55 rfl) rfl ?_
        refine x_iconst hc (v := 1) (xd dk_N_finds 56 rfl) (by decide) ?_
        refine x_isub hc (xd dk_N_finds 57 rfl) ?_
        by_cases q28 : xin (v4 - 1) 400 = true
        case neg => rw [if_neg q28] at hf; cases hf
        rw [if_pos q28] at hf
        refine x_iald hc (cA (xMd.ar hb 41 (by decide) rfl)) (xin_in q28) (xd dk_N_finds 58 rfl) ?_
        refine x_iload_n hc (xd dk_N_finds 59 rfl) rfl rfl ?_
        refine x_icmp_ne hc (tgt := 163) (xd dk_N_finds 60 rfl) rfl (fun q29 => ?_) (fun q29 => ?_)
        · rw [if_neg q29] at hf
          exact s_N_finds_163 hc hR hb v4 M hf
        · rw [if_pos q29] at hf
          refine x_aload_n hc (xd dk_N_finds 61 rfl) rfl rfl ?_
          refine x_get hc (ci := 10) (k := 61) fi_N (c_N hb _) rfl (by decide) rfl xw1204 rfl (xd dk_N_finds 62 rfl) ?_
          refine x_iload hc (xd dk_N_finds 63 rfl) rfl ?_
          refine x_iconst hc (v := 1) (xd dk_N_finds 64 rfl) (by decide) ?_
          refine x_isub hc (xd dk_N_finds 65 rfl) ?_
          by_cases q30 : xin (v4 - 1) 400 = true
          case neg => rw [if_neg q30] at hf; cases hf
          rw [if_pos q30] at hf
          refine x_iald hc (cA (xMd.ar hb 40 (by decide) rfl)) (xin_in q30) (xd dk_N_finds 66 rfl) ?_
          refine x_iload_n hc (xd dk_N_finds 67 rfl) rfl rfl ?_
          refine x_icmp_le hc (tgt := 163) (xd dk_N_finds 68 rfl) rfl (fun q31 => ?_) (fun q31 => ?_)
          · rw [if_pos q31] at hf
            exact s_N_finds_163 hc hR hb v4 M hf
          · rw [if_neg q31] at hf
            exact s_N_finds_125 hc hR hb ih v4 M hf
set_option maxRecDepth 100000 in
set_option maxHeartbeats 400000 in
theorem s_N_finds_17 {p : Program} {l : Launch} {e : Env} {R : Room} {s : State} {m : MethodId} {args : Array Value} {below : List Frame} {meth : Method} {c : Code} {G : xG} {Y : xY} {sz : Nat} {b : Nat} {p1 : Int32} {p2 : Int32} {p3 : Int32}  (hc : xC p s m args meth c G 5 c_N_finds y_N_finds.cls none) (hR : xRm R 1) (hb : xMd Y b) {M' : xMem} {r : Unit} : ∀ (n : Nat) (v4 : Int32) (M : xMem), f_N_finds_17 b p1 p2 p3 n v4 M = some (r, M') → xW p l e R s m args below meth c G 5 (MQ below (xQc G none (xo G Y M') sz) args s 0 0 (xA G)) (xo G Y M) sz 0 0 17 [some (.ref b), some (.int p1), some (.int p2), some (.int p3), some (.int v4)] [] := by
  intro n
  induction n with
  | zero => intro v4 M hf; simp only [f_N_finds_17] at hf; cases hf
  | succ n ih =>
    intro v4 M hf
    simp only [f_N_finds_17] at hf
    refine x_iload hc (xd dk_N_finds 10 rfl) rfl ?_
    refine x_aload_n hc (xd dk_N_finds 11 rfl) rfl rfl ?_
    refine x_get hc (ci := 10) (k := 60) fi_N (c_N hb _) rfl (by decide) rfl xw1203 rfl (xd dk_N_finds 12 rfl) ?_
    refine x_icmp_ge hc (tgt := 75) (xd dk_N_finds 13 rfl) rfl (fun q32 => ?_) (fun q32 => ?_)
    · rw [if_pos q32] at hf
      refine x_aload_n hc (xd dk_N_finds 40 rfl) rfl rfl ?_
      refine x_get hc (ci := 10) (k := 63) fi_N (c_N hb _) rfl (by decide) rfl xw1206 rfl (xd dk_N_finds 41 rfl) ?_
      refine x_istore hc (xd dk_N_finds 42 rfl) (by decide) rfl ?_
      exact s_N_finds_81 hc hR hb xFuel (M.1 b 63) M hf
    · rw [if_neg q32] at hf
      refine x_aload_n hc (xd dk_N_finds 14 rfl) rfl rfl ?_
      refine x_get hc (ci := 10) (k := 50) fi_N (c_N hb _) rfl (by decide) rfl xw1193 rfl (xd dk_N_finds 15 rfl) ?_
      refine x_iload hc (xd dk_N_finds 16 rfl) rfl ?_
      by_cases q33 : xin v4 64 = true
      case neg => rw [if_neg q33] at hf; cases hf
      rw [if_pos q33] at hf
      refine x_iald hc (cA (xMd.ar hb 36 (by decide) rfl)) (xin_in q33) (xd dk_N_finds 17 rfl) ?_
      refine x_iload_n hc (xd dk_N_finds 18 rfl) rfl rfl ?_
      refine x_icmp_ne hc (tgt := 69) (xd dk_N_finds 19 rfl) rfl (fun q34 => ?_) (fun q34 => ?_)
      · rw [if_neg q34] at hf
        exact s_N_finds_69 hc hR hb ih v4 M hf
      · rw [if_pos q34] at hf
        refine x_iload_n hc (xd dk_N_finds 20 rfl) rfl rfl ?_
        refine x_aload_n hc (xd dk_N_finds 21 rfl) rfl rfl ?_
        refine x_get hc (ci := 10) (k := 51) fi_N (c_N hb _) rfl (by decide) rfl xw1194 rfl (xd dk_N_finds 22 rfl) ?_
        refine x_iload hc (xd dk_N_finds 23 rfl) rfl ?_
        by_cases q35 : xin v4 64 = true
        case neg => rw [if_neg q35] at hf; cases hf
        rw [if_pos q35] at hf
        refine x_iald hc (cA (xMd.ar hb 37 (by decide) rfl)) (xin_in q35) (xd dk_N_finds 24 rfl) ?_
        refine x_aload_n hc (xd dk_N_finds 25 rfl) rfl rfl ?_
        refine x_get hc (ci := 10) (k := 52) fi_N (c_N hb _) rfl (by decide) rfl xw1195 rfl (xd dk_N_finds 26 rfl) ?_
        refine x_iload hc (xd dk_N_finds 27 rfl) rfl ?_
        by_cases q36 : xin v4 64 = true
        case neg => rw [if_neg q36] at hf; cases hf
        rw [if_pos q36] at hf
        refine x_iald hc (cA (xMd.ar hb 38 (by decide) rfl)) (xin_in q36) (xd dk_N_finds 28 rfl) ?_
        obtain ⟨x37, hx37, hf⟩ := xval_ex hf
        rw [← hx37]
        obtain ⟨x38, hx38, hf⟩ := xval_ex hf
        rw [← hx38]
        obtain ⟨r39, M, e40, hf⟩ := xbind_some hf
        refine x_callS hc (As := [.int p3, .int x38, .int x37]) (n := 3) (s_N_in e40) (hR.call (by decide) (by decide)) ⟨by decide, by decide, by decide⟩ rfl rfl xw1043 xw18 xw1041 xw1042 (Nat.le_of_ble_eq_true rfl) ⟨Nat.zero_le _, Nat.zero_le _⟩ (xd dk_N_finds 29 rfl) ?_
        refine x_if_eq hc (tgt := 69) (xd dk_N_finds 30 rfl) rfl (fun q41 => ?_) (fun q41 => ?_)
        · rw [if_pos q41] at hf
          exact s_N_finds_69 hc hR hb ih v4 M hf
        · rw [if_neg q41] at hf
          refine x_aload_n hc (xd dk_N_finds 31 rfl) rfl rfl ?_
          refine x_dup hc (xd dk_N_finds 32 rfl) rfl ?_
          refine x_get hc (ci := 10) (k := 64) fi_N (c_N hb _) rfl (by decide) rfl xw1207 rfl (xd dk_N_finds 33 rfl) ?_
          refine x_iconst hc (v := 1) (xd dk_N_finds 34 rfl) (by decide) ?_
          refine x_iadd hc (xd dk_N_finds 35 rfl) ?_
          obtain ⟨x42, hx42, hf⟩ := xval_ex hf
          rw [← hx42]
          refine x_put hc (ci := 10) (k := 64) fi_N ft_N ft_N_ok fn_N (c_N hb _) rfl (by decide) rfl xw1207 rfl rfl rfl (Nat.le_of_ble_eq_true rfl) (xd dk_N_finds 36 rfl) ?_
          rw [w_N_64 hb]
          replace hf := xlet_some hf
          generalize wI M b 64 x42 = M at hf ⊢
          cases hf
          exact x_return hc (xd dk_N_finds 37 rfl)
set_option maxRecDepth 100000 in
set_option maxHeartbeats 400000 in
theorem s_N_finds {l : Launch} {G : xG} {Y : xY} {sz : Nat} {b : Nat} {p1 : Int32} {p2 : Int32} {p3 : Int32}  (hb : xMd Y b) {M M' : xMem} {r : Unit} (hf : f_N_finds b p1 p2 p3 M = some (r, M')) : xM l G y_N_finds c_N_finds 5 none 1 0 0 [.ref b, .int p1, .int p2, .int p3] (xo G Y M) sz none (xo G Y M') sz := by
  unfold f_N_finds at hf
  refine xM.of (k := 1) (L0 := [some (.ref b), some (.int p1), some (.int p2), some (.int p3), none]) (by decide) (Nat.le_of_ble_eq_true rfl) rfl ?_
  intro p e s m args below meth c hc hnm
  have hR : xRm { frames := 1, cells := 0, slots := 0, locals := 48 * 1 } 1 := ⟨Nat.le_refl _, Nat.le_refl _⟩
  refine x_iload_n hc (xd dk_N_finds 0 rfl) rfl rfl ?_
  refine x_if_eq hc (tgt := 13) (xd dk_N_finds 1 rfl) rfl (fun q43 => ?_) (fun q43 => ?_)
  · rw [if_pos q43] at hf
    cases hf
    exact x_return hc (xd dk_N_finds 7 rfl)
  · rw [if_neg q43] at hf
    refine x_aload_n hc (xd dk_N_finds 2 rfl) rfl rfl ?_
    refine x_get hc (ci := 10) (k := 16) fi_N (c_N hb _) rfl (by decide) rfl xw1159 rfl (xd dk_N_finds 3 rfl) ?_
    refine x_iload_n hc (xd dk_N_finds 4 rfl) rfl rfl ?_
    by_cases q44 : xin p2 10 = true
    case neg => rw [if_neg q44] at hf; cases hf
    rw [if_pos q44] at hf
    refine x_zald hc (cA (xMd.ar hb 7 (by decide) rfl)) (xin_in q44) (xd dk_N_finds 5 rfl) ?_
    refine x_if_eq hc (tgt := 14) (xd dk_N_finds 6 rfl) rfl (fun q45 => ?_) (fun q45 => ?_)
    · rw [if_pos q45] at hf
      refine x_iconst hc (v := 0) (xd dk_N_finds 8 rfl) (by decide) ?_
      refine x_istore hc (xd dk_N_finds 9 rfl) (by decide) rfl ?_
      exact s_N_finds_17 hc hR hb xFuel 0 M hf
    · rw [if_neg q45] at hf
      cases hf
      exact x_return hc (xd dk_N_finds 7 rfl)
def f_N_isEarly_44 (b : Nat) (p1 : Int32) (p2 : Int32) : Nat → Int32 → xMem → Option (Int32 × xMem)
  | 0, _, _ => none
  | n + 1, v3, M =>
    (if xin p2 64 = true then if v3 = M.1 (b + 19) p2.toNatClampNeg then (some (1, M)) else (if xin v3 64 = true then if M.1 (b + 17) v3.toNatClampNeg = 0 then (if xin v3 64 = true then f_N_isEarly_44 b p1 p2 n (M.1 (b + 15) v3.toNatClampNeg) M else none) else (some (0, M)) else none) else none)
def f_N_isEarly (b : Nat) (p1 : Int32) (p2 : Int32) (M : xMem) : Option (Int32 × xMem) :=
  (if xin p2 64 = true then if 1 < M.1 (b + 20) p2.toNatClampNeg then (some (0, M)) else (if xin p1 64 = true then if xin (M.1 (b + 24) p1.toNatClampNeg) 64 = true then if xin p2 64 = true then if xin (M.1 (b + 18) p2.toNatClampNeg) 64 = true then if M.1 (b + 9) (M.1 (b + 24) p1.toNatClampNeg).toNatClampNeg < M.1 (b + 9) (M.1 (b + 18) p2.toNatClampNeg).toNatClampNeg then (if xin p1 64 = true then f_N_isEarly_44 b p1 p2 xFuel (M.1 (b + 25) p1.toNatClampNeg) M else none) else (some (0, M)) else none else none else none else none) else none)
set_option maxRecDepth 100000 in
set_option maxHeartbeats 400000 in
theorem s_N_isEarly_44 {p : Program} {l : Launch} {e : Env} {R : Room} {s : State} {m : MethodId} {args : Array Value} {below : List Frame} {meth : Method} {c : Code} {G : xG} {Y : xY} {sz : Nat} {b : Nat} {p1 : Int32} {p2 : Int32}  (hc : xC p s m args meth c G 4 c_N_isEarly y_N_isEarly.cls (some .boolean)) (hR : xRm R 0) (hb : xMd Y b) {M' : xMem} {r : Int32} : ∀ (n : Nat) (v3 : Int32) (M : xMem), f_N_isEarly_44 b p1 p2 n v3 M = some (r, M') → xW p l e R s m args below meth c G 4 (MQ below (xQc G (some (.int r)) (xo G Y M') sz) args s 0 0 (xA G)) (xo G Y M) sz 0 0 44 [some (.ref b), some (.int p1), some (.int p2), some (.int v3)] [] := by
  intro n
  induction n with
  | zero => intro v3 M hf; simp only [f_N_isEarly_44] at hf; cases hf
  | succ n ih =>
    intro v3 M hf
    simp only [f_N_isEarly_44] at hf
    refine x_iload_n hc (xd dk_N_isEarly 28 rfl) rfl rfl ?_
    refine x_aload_n hc (xd dk_N_isEarly 29 rfl) rfl rfl ?_
    refine x_get hc (ci := 10) (k := 31) fi_N (c_N hb _) rfl (by decide) rfl xw1174 rfl (xd dk_N_isEarly 30 rfl) ?_
    refine x_iload_n hc (xd dk_N_isEarly 31 rfl) rfl rfl ?_
    by_cases q13 : xin p2 64 = true
    case neg => rw [if_neg q13] at hf; cases hf
    rw [if_pos q13] at hf
    refine x_iald hc (cA (xMd.ar hb 19 (by decide) rfl)) (xin_in q13) (xd dk_N_isEarly 32 rfl) ?_
    refine x_icmp_eq hc (tgt := 75) (xd dk_N_isEarly 33 rfl) rfl (fun q14 => ?_) (fun q14 => ?_)
    · rw [if_pos q14] at hf
      refine x_iconst hc (v := 1) (xd dk_N_isEarly 47 rfl) (by decide) ?_
      cases hf
      exact x_zreturn hc rfl (xd dk_N_isEarly 48 rfl)
    · rw [if_neg q14] at hf
      refine x_aload_n hc (xd dk_N_isEarly 34 rfl) rfl rfl ?_
      refine x_get hc (ci := 10) (k := 26) fi_N (c_N hb _) rfl (by decide) rfl xw1169 rfl (xd dk_N_isEarly 35 rfl) ?_
      refine x_iload_n hc (xd dk_N_isEarly 36 rfl) rfl rfl ?_
      by_cases q15 : xin v3 64 = true
      case neg => rw [if_neg q15] at hf; cases hf
      rw [if_pos q15] at hf
      refine x_zald hc (cA (xMd.ar hb 17 (by decide) rfl)) (xin_in q15) (xd dk_N_isEarly 37 rfl) ?_
      refine x_if_eq hc (tgt := 65) (xd dk_N_isEarly 38 rfl) rfl (fun q16 => ?_) (fun q16 => ?_)
      · rw [if_pos q16] at hf
        refine x_aload_n hc (xd dk_N_isEarly 41 rfl) rfl rfl ?_
        refine x_get hc (ci := 10) (k := 24) fi_N (c_N hb _) rfl (by decide) rfl xw1167 rfl (xd dk_N_isEarly 42 rfl) ?_
        refine x_iload_n hc (xd dk_N_isEarly 43 rfl) rfl rfl ?_
        by_cases q17 : xin v3 64 = true
        case neg => rw [if_neg q17] at hf; cases hf
        rw [if_pos q17] at hf
        refine x_iald hc (cA (xMd.ar hb 15 (by decide) rfl)) (xin_in q17) (xd dk_N_isEarly 44 rfl) ?_
        refine x_istore_n hc (xd dk_N_isEarly 45 rfl) (by decide) rfl ?_
        refine x_goto hc (tgt := 44) (xd dk_N_isEarly 46 rfl) rfl ?_
        exact ih (M.1 (b + 15) v3.toNatClampNeg) M hf
      · rw [if_neg q16] at hf
        refine x_iconst hc (v := 0) (xd dk_N_isEarly 39 rfl) (by decide) ?_
        cases hf
        exact x_zreturn hc rfl (xd dk_N_isEarly 40 rfl)
set_option maxRecDepth 100000 in
set_option maxHeartbeats 400000 in
theorem s_N_isEarly {l : Launch} {G : xG} {Y : xY} {sz : Nat} {b : Nat} {p1 : Int32} {p2 : Int32}  (hb : xMd Y b) {M M' : xMem} {r : Int32} (hf : f_N_isEarly b p1 p2 M = some (r, M')) : xM l G y_N_isEarly c_N_isEarly 4 (some .boolean) 0 0 0 [.ref b, .int p1, .int p2] (xo G Y M) sz (some (.int r)) (xo G Y M') sz := by
  unfold f_N_isEarly at hf
  refine xM.of (k := 1) (L0 := [some (.ref b), some (.int p1), some (.int p2), none]) (by decide) (Nat.le_of_ble_eq_true rfl) rfl ?_
  intro p e s m args below meth c hc hnm
  have hR : xRm { frames := 0, cells := 0, slots := 0, locals := 48 * 0 } 0 := ⟨Nat.le_refl _, Nat.le_refl _⟩
  refine x_aload_n hc (xd dk_N_isEarly 0 rfl) rfl rfl ?_
  refine x_get hc (ci := 10) (k := 32) fi_N (c_N hb _) rfl (by decide) rfl xw1175 rfl (xd dk_N_isEarly 1 rfl) ?_
  refine x_iload_n hc (xd dk_N_isEarly 2 rfl) rfl rfl ?_
  by_cases q18 : xin p2 64 = true
  case neg => rw [if_neg q18] at hf; cases hf
  rw [if_pos q18] at hf
  refine x_iald hc (cA (xMd.ar hb 20 (by decide) rfl)) (xin_in q18) (xd dk_N_isEarly 3 rfl) ?_
  refine x_iconst hc (v := 1) (xd dk_N_isEarly 4 rfl) (by decide) ?_
  refine x_icmp_gt hc (tgt := 35) (xd dk_N_isEarly 5 rfl) rfl (fun q19 => ?_) (fun q19 => ?_)
  · rw [if_pos q19] at hf
    refine x_iconst hc (v := 0) (xd dk_N_isEarly 21 rfl) (by decide) ?_
    cases hf
    exact x_zreturn hc rfl (xd dk_N_isEarly 22 rfl)
  · rw [if_neg q19] at hf
    refine x_aload_n hc (xd dk_N_isEarly 6 rfl) rfl rfl ?_
    refine x_get hc (ci := 10) (k := 18) fi_N (c_N hb _) rfl (by decide) rfl xw1161 rfl (xd dk_N_isEarly 7 rfl) ?_
    refine x_aload_n hc (xd dk_N_isEarly 8 rfl) rfl rfl ?_
    refine x_get hc (ci := 10) (k := 37) fi_N (c_N hb _) rfl (by decide) rfl xw1180 rfl (xd dk_N_isEarly 9 rfl) ?_
    refine x_iload_n hc (xd dk_N_isEarly 10 rfl) rfl rfl ?_
    by_cases q20 : xin p1 64 = true
    case neg => rw [if_neg q20] at hf; cases hf
    rw [if_pos q20] at hf
    refine x_iald hc (cA (xMd.ar hb 24 (by decide) rfl)) (xin_in q20) (xd dk_N_isEarly 11 rfl) ?_
    by_cases q21 : xin (M.1 (b + 24) p1.toNatClampNeg) 64 = true
    case neg => rw [if_neg q21] at hf; cases hf
    rw [if_pos q21] at hf
    refine x_iald hc (cA (xMd.ar hb 9 (by decide) rfl)) (xin_in q21) (xd dk_N_isEarly 12 rfl) ?_
    refine x_aload_n hc (xd dk_N_isEarly 13 rfl) rfl rfl ?_
    refine x_get hc (ci := 10) (k := 18) fi_N (c_N hb _) rfl (by decide) rfl xw1161 rfl (xd dk_N_isEarly 14 rfl) ?_
    refine x_aload_n hc (xd dk_N_isEarly 15 rfl) rfl rfl ?_
    refine x_get hc (ci := 10) (k := 30) fi_N (c_N hb _) rfl (by decide) rfl xw1173 rfl (xd dk_N_isEarly 16 rfl) ?_
    refine x_iload_n hc (xd dk_N_isEarly 17 rfl) rfl rfl ?_
    by_cases q22 : xin p2 64 = true
    case neg => rw [if_neg q22] at hf; cases hf
    rw [if_pos q22] at hf
    refine x_iald hc (cA (xMd.ar hb 18 (by decide) rfl)) (xin_in q22) (xd dk_N_isEarly 18 rfl) ?_
    by_cases q23 : xin (M.1 (b + 18) p2.toNatClampNeg) 64 = true
    case neg => rw [if_neg q23] at hf; cases hf
    rw [if_pos q23] at hf
    refine x_iald hc (cA (xMd.ar hb 9 (by decide) rfl)) (xin_in q23) (xd dk_N_isEarly 19 rfl) ?_
    refine x_icmp_lt hc (tgt := 37) (xd dk_N_isEarly 20 rfl) rfl (fun q24 => ?_) (fun q24 => ?_)
    · rw [if_pos q24] at hf
      refine x_aload_n hc (xd dk_N_isEarly 23 rfl) rfl rfl ?_
      refine x_get hc (ci := 10) (k := 38) fi_N (c_N hb _) rfl (by decide) rfl xw1181 rfl (xd dk_N_isEarly 24 rfl) ?_
      refine x_iload_n hc (xd dk_N_isEarly 25 rfl) rfl rfl ?_
      by_cases q25 : xin p1 64 = true
      case neg => rw [if_neg q25] at hf; cases hf
      rw [if_pos q25] at hf
      refine x_iald hc (cA (xMd.ar hb 25 (by decide) rfl)) (xin_in q25) (xd dk_N_isEarly 26 rfl) ?_
      refine x_istore_n hc (xd dk_N_isEarly 27 rfl) (by decide) rfl ?_
      exact s_N_isEarly_44 hc hR hb xFuel (M.1 (b + 25) p1.toNatClampNeg) M hf
    · rw [if_neg q24] at hf
      refine x_iconst hc (v := 0) (xd dk_N_isEarly 21 rfl) (by decide) ?_
      cases hf
      exact x_zreturn hc rfl (xd dk_N_isEarly 22 rfl)
def f_N_isUnused_69 (b : Nat) (p1 : Int32) (k15 : Int32 → xMem → Option (Int32 × xMem)) (v2 : Int32) (M : xMem) : Option (Int32 × xMem) :=
  (k15 (v2 + Int32.ofInt 1) M)
def f_N_isUnused_15 (b : Nat) (p1 : Int32) : Nat → Int32 → xMem → Option (Int32 × xMem)
  | 0, _, _ => none
  | n + 1, v2, M =>
    (if M.1 b 36 ≤ v2 then (some (1, M)) else (if xin p1 64 = true then if M.1 (b + 20) p1.toNatClampNeg = 4 then (if xin v2 64 = true then if M.1 (b + 20) v2.toNatClampNeg = 4 then (if xin v2 64 = true then if xin p1 64 = true then if M.1 (b + 19) v2.toNatClampNeg = M.1 (b + 19) p1.toNatClampNeg then (if xin v2 64 = true then if M.1 (b + 22) v2.toNatClampNeg ≤ 0 then (f_N_isUnused_69 b p1 (f_N_isUnused_15 b p1 n) v2 M) else (some (0, M)) else none) else (f_N_isUnused_69 b p1 (f_N_isUnused_15 b p1 n) v2 M) else none else none) else (f_N_isUnused_69 b p1 (f_N_isUnused_15 b p1 n) v2 M) else none) else (some (1, M)) else none))
def f_N_isUnused (b : Nat) (p1 : Int32) (M : xMem) : Option (Int32 × xMem) :=
  (if xin p1 64 = true then if M.1 (b + 22) p1.toNatClampNeg ≤ 0 then (f_N_isUnused_15 b p1 xFuel (p1 + 1) M) else (some (0, M)) else none)
set_option maxRecDepth 100000 in
set_option maxHeartbeats 400000 in
theorem s_N_isUnused_69 {p : Program} {l : Launch} {e : Env} {R : Room} {s : State} {m : MethodId} {args : Array Value} {below : List Frame} {meth : Method} {c : Code} {G : xG} {Y : xY} {sz : Nat} {b : Nat} {p1 : Int32}  (hc : xC p s m args meth c G 3 c_N_isUnused y_N_isUnused.cls (some .boolean)) (hR : xRm R 0) (hb : xMd Y b) {k15 : Int32 → xMem → Option (Int32 × xMem)} {M' : xMem} {r : Int32} (hk15 : ∀ (v2 : Int32) (M : xMem), k15 v2 M = some (r, M') → xW p l e R s m args below meth c G 3 (MQ below (xQc G (some (.int r)) (xo G Y M') sz) args s 0 0 (xA G)) (xo G Y M) sz 0 0 15 [some (.ref b), some (.int p1), some (.int v2)] []) (v2 : Int32) (M : xMem) (hf : f_N_isUnused_69 b p1 k15 v2 M = some (r, M')) : xW p l e R s m args below meth c G 3 (MQ below (xQc G (some (.int r)) (xo G Y M') sz) args s 0 0 (xA G)) (xo G Y M) sz 0 0 69 [some (.ref b), some (.int p1), some (.int v2)] [] := by
  unfold f_N_isUnused_69 at hf
  refine x_iinc hc (xd dk_N_isUnused 43 rfl) rfl (by decide) rfl ?_
  refine x_goto hc (tgt := 15) (xd dk_N_isUnused 44 rfl) rfl ?_
  exact hk15 (v2 + Int32.ofInt 1) M hf
set_option maxRecDepth 100000 in
set_option maxHeartbeats 400000 in
theorem s_N_isUnused_15 {p : Program} {l : Launch} {e : Env} {R : Room} {s : State} {m : MethodId} {args : Array Value} {below : List Frame} {meth : Method} {c : Code} {G : xG} {Y : xY} {sz : Nat} {b : Nat} {p1 : Int32}  (hc : xC p s m args meth c G 3 c_N_isUnused y_N_isUnused.cls (some .boolean)) (hR : xRm R 0) (hb : xMd Y b) {M' : xMem} {r : Int32} : ∀ (n : Nat) (v2 : Int32) (M : xMem), f_N_isUnused_15 b p1 n v2 M = some (r, M') → xW p l e R s m args below meth c G 3 (MQ below (xQc G (some (.int r)) (xo G Y M') sz) args s 0 0 (xA G)) (xo G Y M) sz 0 0 15 [some (.ref b), some (.int p1), some (.int v2)] [] := by
  intro n
  induction n with
  | zero => intro v2 M hf; simp only [f_N_isUnused_15] at hf; cases hf
  | succ n ih =>
    intro v2 M hf
    simp only [f_N_isUnused_15] at hf
    refine x_iload_n hc (xd dk_N_isUnused 11 rfl) rfl rfl ?_
    refine x_aload_n hc (xd dk_N_isUnused 12 rfl) rfl rfl ?_
    refine x_get hc (ci := 10) (k := 36) fi_N (c_N hb _) rfl (by decide) rfl xw1179 rfl (xd dk_N_isUnused 13 rfl) ?_
    refine x_icmp_ge hc (tgt := 75) (xd dk_N_isUnused 14 rfl) rfl (fun q10 => ?_) (fun q10 => ?_)
    · rw [if_pos q10] at hf
      refine x_iconst hc (v := 1) (xd dk_N_isUnused 45 rfl) (by decide) ?_
      cases hf
      exact x_zreturn hc rfl (xd dk_N_isUnused 46 rfl)
    · rw [if_neg q10] at hf
      refine x_aload_n hc (xd dk_N_isUnused 15 rfl) rfl rfl ?_
      refine x_get hc (ci := 10) (k := 32) fi_N (c_N hb _) rfl (by decide) rfl xw1175 rfl (xd dk_N_isUnused 16 rfl) ?_
      refine x_iload_n hc (xd dk_N_isUnused 17 rfl) rfl rfl ?_
      by_cases q11 : xin p1 64 = true
      case neg => rw [if_neg q11] at hf; cases hf
      rw [if_pos q11] at hf
      refine x_iald hc (cA (xMd.ar hb 20 (by decide) rfl)) (xin_in q11) (xd dk_N_isUnused 18 rfl) ?_
      refine x_iconst hc (v := 4) (xd dk_N_isUnused 19 rfl) (by decide) ?_
      refine x_icmp_ne hc (tgt := 75) (xd dk_N_isUnused 20 rfl) rfl (fun q12 => ?_) (fun q12 => ?_)
      · rw [if_neg q12] at hf
        refine x_iconst hc (v := 1) (xd dk_N_isUnused 45 rfl) (by decide) ?_
        cases hf
        exact x_zreturn hc rfl (xd dk_N_isUnused 46 rfl)
      · rw [if_pos q12] at hf
        refine x_aload_n hc (xd dk_N_isUnused 21 rfl) rfl rfl ?_
        refine x_get hc (ci := 10) (k := 32) fi_N (c_N hb _) rfl (by decide) rfl xw1175 rfl (xd dk_N_isUnused 22 rfl) ?_
        refine x_iload_n hc (xd dk_N_isUnused 23 rfl) rfl rfl ?_
        by_cases q13 : xin v2 64 = true
        case neg => rw [if_neg q13] at hf; cases hf
        rw [if_pos q13] at hf
        refine x_iald hc (cA (xMd.ar hb 20 (by decide) rfl)) (xin_in q13) (xd dk_N_isUnused 24 rfl) ?_
        refine x_iconst hc (v := 4) (xd dk_N_isUnused 25 rfl) (by decide) ?_
        refine x_icmp_ne hc (tgt := 69) (xd dk_N_isUnused 26 rfl) rfl (fun q14 => ?_) (fun q14 => ?_)
        · rw [if_neg q14] at hf
          exact s_N_isUnused_69 hc hR hb ih v2 M hf
        · rw [if_pos q14] at hf
          refine x_aload_n hc (xd dk_N_isUnused 27 rfl) rfl rfl ?_
          refine x_get hc (ci := 10) (k := 31) fi_N (c_N hb _) rfl (by decide) rfl xw1174 rfl (xd dk_N_isUnused 28 rfl) ?_
          refine x_iload_n hc (xd dk_N_isUnused 29 rfl) rfl rfl ?_
          by_cases q15 : xin v2 64 = true
          case neg => rw [if_neg q15] at hf; cases hf
          rw [if_pos q15] at hf
          refine x_iald hc (cA (xMd.ar hb 19 (by decide) rfl)) (xin_in q15) (xd dk_N_isUnused 30 rfl) ?_
          refine x_aload_n hc (xd dk_N_isUnused 31 rfl) rfl rfl ?_
          refine x_get hc (ci := 10) (k := 31) fi_N (c_N hb _) rfl (by decide) rfl xw1174 rfl (xd dk_N_isUnused 32 rfl) ?_
          refine x_iload_n hc (xd dk_N_isUnused 33 rfl) rfl rfl ?_
          by_cases q16 : xin p1 64 = true
          case neg => rw [if_neg q16] at hf; cases hf
          rw [if_pos q16] at hf
          refine x_iald hc (cA (xMd.ar hb 19 (by decide) rfl)) (xin_in q16) (xd dk_N_isUnused 34 rfl) ?_
          refine x_icmp_ne hc (tgt := 69) (xd dk_N_isUnused 35 rfl) rfl (fun q17 => ?_) (fun q17 => ?_)
          · rw [if_neg q17] at hf
            exact s_N_isUnused_69 hc hR hb ih v2 M hf
          · rw [if_pos q17] at hf
            refine x_aload_n hc (xd dk_N_isUnused 36 rfl) rfl rfl ?_
            refine x_get hc (ci := 10) (k := 34) fi_N (c_N hb _) rfl (by decide) rfl xw1177 rfl (xd dk_N_isUnused 37 rfl) ?_
            refine x_iload_n hc (xd dk_N_isUnused 38 rfl) rfl rfl ?_
            by_cases q18 : xin v2 64 = true
            case neg => rw [if_neg q18] at hf; cases hf
            rw [if_pos q18] at hf
            refine x_iald hc (cA (xMd.ar hb 22 (by decide) rfl)) (xin_in q18) (xd dk_N_isUnused 39 rfl) ?_
            refine x_if_le hc (tgt := 69) (xd dk_N_isUnused 40 rfl) rfl (fun q19 => ?_) (fun q19 => ?_)
            · rw [if_pos q19] at hf
              exact s_N_isUnused_69 hc hR hb ih v2 M hf
            · rw [if_neg q19] at hf
              refine x_iconst hc (v := 0) (xd dk_N_isUnused 41 rfl) (by decide) ?_
              cases hf
              exact x_zreturn hc rfl (xd dk_N_isUnused 42 rfl)
set_option maxRecDepth 100000 in
set_option maxHeartbeats 400000 in
theorem s_N_isUnused {l : Launch} {G : xG} {Y : xY} {sz : Nat} {b : Nat} {p1 : Int32}  (hb : xMd Y b) {M M' : xMem} {r : Int32} (hf : f_N_isUnused b p1 M = some (r, M')) : xM l G y_N_isUnused c_N_isUnused 3 (some .boolean) 0 0 0 [.ref b, .int p1] (xo G Y M) sz (some (.int r)) (xo G Y M') sz := by
  unfold f_N_isUnused at hf
  refine xM.of (k := 1) (L0 := [some (.ref b), some (.int p1), none]) (by decide) (Nat.le_of_ble_eq_true rfl) rfl ?_
  intro p e s m args below meth c hc hnm
  have hR : xRm { frames := 0, cells := 0, slots := 0, locals := 48 * 0 } 0 := ⟨Nat.le_refl _, Nat.le_refl _⟩
  refine x_aload_n hc (xd dk_N_isUnused 0 rfl) rfl rfl ?_
  refine x_get hc (ci := 10) (k := 34) fi_N (c_N hb _) rfl (by decide) rfl xw1177 rfl (xd dk_N_isUnused 1 rfl) ?_
  refine x_iload_n hc (xd dk_N_isUnused 2 rfl) rfl rfl ?_
  by_cases q20 : xin p1 64 = true
  case neg => rw [if_neg q20] at hf; cases hf
  rw [if_pos q20] at hf
  refine x_iald hc (cA (xMd.ar hb 22 (by decide) rfl)) (xin_in q20) (xd dk_N_isUnused 3 rfl) ?_
  refine x_if_le hc (tgt := 11) (xd dk_N_isUnused 4 rfl) rfl (fun q21 => ?_) (fun q21 => ?_)
  · rw [if_pos q21] at hf
    refine x_iload_n hc (xd dk_N_isUnused 7 rfl) rfl rfl ?_
    refine x_iconst hc (v := 1) (xd dk_N_isUnused 8 rfl) (by decide) ?_
    refine x_iadd hc (xd dk_N_isUnused 9 rfl) ?_
    refine x_istore_n hc (xd dk_N_isUnused 10 rfl) (by decide) rfl ?_
    exact s_N_isUnused_15 hc hR hb xFuel (p1 + 1) M hf
  · rw [if_neg q21] at hf
    refine x_iconst hc (v := 0) (xd dk_N_isUnused 5 rfl) (by decide) ?_
    cases hf
    exact x_zreturn hc rfl (xd dk_N_isUnused 6 rfl)
def f_N_wrong (b : Nat) (M : xMem) : Option (Int32 × xMem) :=
  (xlet (wI M b 0 0) fun M => some (M.1 b 3, M))
set_option maxRecDepth 100000 in
set_option maxHeartbeats 400000 in
theorem s_N_wrong {l : Launch} {G : xG} {Y : xY} {sz : Nat} {b : Nat}  (hb : xMd Y b) {M M' : xMem} {r : Int32} (hf : f_N_wrong b M = some (r, M')) : xM l G y_N_wrong c_N_wrong 1 (some .int) 0 0 0 [.ref b] (xo G Y M) sz (some (.int r)) (xo G Y M') sz := by
  unfold f_N_wrong at hf
  refine xM.of (k := 0) (L0 := [some (.ref b)]) (by decide) (Nat.le_of_ble_eq_true rfl) rfl ?_
  intro p e s m args below meth c hc hnm
  have hR : xRm { frames := 0, cells := 0, slots := 0, locals := 48 * 0 } 0 := ⟨Nat.le_refl _, Nat.le_refl _⟩
  refine x_aload_n hc (xd dk_N_wrong 0 rfl) rfl rfl ?_
  refine x_iconst hc (v := 0) (xd dk_N_wrong 1 rfl) (by decide) ?_
  refine x_put hc (ci := 10) (k := 0) fi_N ft_N ft_N_ok fn_N (c_N hb _) rfl (by decide) rfl xw1143 rfl rfl rfl (Nat.le_of_ble_eq_true rfl) (xd dk_N_wrong 2 rfl) ?_
  rw [w_N_0 hb]
  replace hf := xlet_some hf
  generalize wI M b 0 0 = M at hf ⊢
  refine x_aload_n hc (xd dk_N_wrong 3 rfl) rfl rfl ?_
  refine x_get hc (ci := 10) (k := 3) fi_N (c_N hb _) rfl (by decide) rfl xw1146 rfl (xd dk_N_wrong 4 rfl) ?_
  cases hf
  exact x_ireturn hc (xd dk_N_wrong 5 rfl)
def f_N_rule_59 (b : Nat) (p1 : Int32) (p2 : Int32) (v3 : Int32) (w2 : Int32) (M : xMem) : Option (Int32 × xMem) :=
  (if xin p1 10 = true then xlet (wI M (b + 7) p1.toNatClampNeg (vp_nar .boolean w2)) fun M => if xnar .boolean v3 = true then some (v3, M) else none else none)
def f_N_rule_44 (b : Nat) (p1 : Int32) (p2 : Int32) (w0 : Int32) (M : xMem) : Option (Int32 × xMem) :=
  (if p2 = 0 then (f_N_rule_59 b p1 p2 w0 1 M) else (f_N_rule_59 b p1 p2 w0 0 M))
def f_N_rule_21 (b : Nat) (p1 : Int32) (p2 : Int32) (w1 : Int32) (M : xMem) : Option (Int32 × xMem) :=
  (xbind (f_N_fails b w1 1 M) fun r12 M => if r12 = 0 then (if xin p1 10 = true then if M.1 (b + 7) p1.toNatClampNeg = 0 then (f_N_rule_44 b p1 p2 1 M) else (f_N_rule_44 b p1 p2 0 M) else none) else (some (0, M)))
def f_N_rule (b : Nat) (p1 : Int32) (p2 : Int32) (M : xMem) : Option (Int32 × xMem) :=
  (xlet (wI M b 0 0) fun M => xbind (f_N_in p1 0 9 M) fun r17 M => if r17 = 0 then (f_N_rule_21 b p1 p2 1 M) else (f_N_rule_21 b p1 p2 0 M))
set_option maxRecDepth 100000 in
set_option maxHeartbeats 400000 in
theorem s_N_rule_59 {p : Program} {l : Launch} {e : Env} {R : Room} {s : State} {m : MethodId} {args : Array Value} {below : List Frame} {meth : Method} {c : Code} {G : xG} {Y : xY} {sz : Nat} {b : Nat} {p1 : Int32} {p2 : Int32}  (hc : xC p s m args meth c G 4 c_N_rule y_N_rule.cls (some .boolean)) (hR : xRm R 1) (hb : xMd Y b) {M' : xMem} {r : Int32} (v3 : Int32) (w2 : Int32) (M : xMem) (hf : f_N_rule_59 b p1 p2 v3 w2 M = some (r, M')) : xW p l e R s m args below meth c G 4 (MQ below (xQc G (some (.int r)) (xo G Y M') sz) args s 0 0 (xA G)) (xo G Y M) sz 0 0 59 [some (.ref b), some (.int p1), some (.int p2), some (.int v3)] [.int w2, .int p1, .ref (b + 7)] := by
  unfold f_N_rule_59 at hf
  by_cases q9 : xin p1 10 = true
  case neg => rw [if_neg q9] at hf; cases hf
  rw [if_pos q9] at hf
  refine x_zast hc (cA (xMd.ar hb 7 (by decide) rfl)) (xin_in q9) (xd dk_N_rule 34 rfl) ?_
  rw [wA (xMd.ar hb 7 (by decide) rfl)]
  replace hf := xlet_some hf
  generalize wI M (b + 7) p1.toNatClampNeg (vp_nar .boolean w2) = M at hf ⊢
  refine x_iload_n hc (xd dk_N_rule 35 rfl) rfl rfl ?_
  by_cases q10 : xnar .boolean v3 = true
  case neg => rw [if_neg q10] at hf; cases hf
  rw [if_pos q10] at hf
  cases hf
  exact x_zreturn hc (xnar_n q10) (xd dk_N_rule 36 rfl)
set_option maxRecDepth 100000 in
set_option maxHeartbeats 400000 in
theorem s_N_rule_44 {p : Program} {l : Launch} {e : Env} {R : Room} {s : State} {m : MethodId} {args : Array Value} {below : List Frame} {meth : Method} {c : Code} {G : xG} {Y : xY} {sz : Nat} {b : Nat} {p1 : Int32} {p2 : Int32}  (hc : xC p s m args meth c G 4 c_N_rule y_N_rule.cls (some .boolean)) (hR : xRm R 1) (hb : xMd Y b) {M' : xMem} {r : Int32} (w0 : Int32) (M : xMem) (hf : f_N_rule_44 b p1 p2 w0 M = some (r, M')) : xW p l e R s m args below meth c G 4 (MQ below (xQc G (some (.int r)) (xo G Y M') sz) args s 0 0 (xA G)) (xo G Y M) sz 0 0 44 [some (.ref b), some (.int p1), some (.int p2), none] [.int w0] := by
  unfold f_N_rule_44 at hf
  refine x_istore_n hc (xd dk_N_rule 25 rfl) (by decide) rfl ?_
  refine x_aload_n hc (xd dk_N_rule 26 rfl) rfl rfl ?_
  refine x_get hc (ci := 10) (k := 16) fi_N (c_N hb _) rfl (by decide) rfl xw1159 rfl (xd dk_N_rule 27 rfl) ?_
  refine x_iload_n hc (xd dk_N_rule 28 rfl) rfl rfl ?_
  refine x_iload_n hc (xd dk_N_rule 29 rfl) rfl rfl ?_
  refine x_if_ne hc (tgt := 58) (xd dk_N_rule 30 rfl) rfl (fun q11 => ?_) (fun q11 => ?_)
  · rw [if_neg q11] at hf
    refine x_iconst hc (v := 0) (xd dk_N_rule 33 rfl) (by decide) ?_
    exact s_N_rule_59 hc hR hb w0 0 M hf
  · rw [if_pos q11] at hf
    refine x_iconst hc (v := 1) (xd dk_N_rule 31 rfl) (by decide) ?_
    refine x_goto hc (tgt := 59) (xd dk_N_rule 32 rfl) rfl ?_
    exact s_N_rule_59 hc hR hb w0 1 M hf
set_option maxRecDepth 100000 in
set_option maxHeartbeats 400000 in
theorem s_N_rule_21 {p : Program} {l : Launch} {e : Env} {R : Room} {s : State} {m : MethodId} {args : Array Value} {below : List Frame} {meth : Method} {c : Code} {G : xG} {Y : xY} {sz : Nat} {b : Nat} {p1 : Int32} {p2 : Int32}  (hc : xC p s m args meth c G 4 c_N_rule y_N_rule.cls (some .boolean)) (hR : xRm R 1) (hb : xMd Y b) {M' : xMem} {r : Int32} (w1 : Int32) (M : xMem) (hf : f_N_rule_21 b p1 p2 w1 M = some (r, M')) : xW p l e R s m args below meth c G 4 (MQ below (xQc G (some (.int r)) (xo G Y M') sz) args s 0 0 (xA G)) (xo G Y M) sz 0 0 21 [some (.ref b), some (.int p1), some (.int p2), none] [.int w1, .ref b] := by
  unfold f_N_rule_21 at hf
  refine x_iconst hc (v := 1) (xd dk_N_rule 12 rfl) (by decide) ?_
  obtain ⟨r12, M, e13, hf⟩ := xbind_some hf
  refine x_callV hc (As := [.int w1, .int 1]) (n := 2) (s_N_fails hb e13) (c_N hb _) rfl (hR.call (by decide) (by decide)) ⟨by decide, by decide, by decide⟩ rfl rfl xw1357 xw18 xw1354 xw1356 xs_N_fails (Nat.le_of_ble_eq_true rfl) ⟨Nat.zero_le _, Nat.zero_le _⟩ (xd dk_N_rule 13 rfl) ?_
  refine x_if_eq hc (tgt := 30) (xd dk_N_rule 14 rfl) rfl (fun q14 => ?_) (fun q14 => ?_)
  · rw [if_pos q14] at hf
    refine x_aload_n hc (xd dk_N_rule 17 rfl) rfl rfl ?_
    refine x_get hc (ci := 10) (k := 16) fi_N (c_N hb _) rfl (by decide) rfl xw1159 rfl (xd dk_N_rule 18 rfl) ?_
    refine x_iload_n hc (xd dk_N_rule 19 rfl) rfl rfl ?_
    by_cases q15 : xin p1 10 = true
    case neg => rw [if_neg q15] at hf; cases hf
    rw [if_pos q15] at hf
    refine x_zald hc (cA (xMd.ar hb 7 (by decide) rfl)) (xin_in q15) (xd dk_N_rule 20 rfl) ?_
    refine x_if_ne hc (tgt := 43) (xd dk_N_rule 21 rfl) rfl (fun q16 => ?_) (fun q16 => ?_)
    · rw [if_neg q16] at hf
      refine x_iconst hc (v := 0) (xd dk_N_rule 24 rfl) (by decide) ?_
      exact s_N_rule_44 hc hR hb 0 M hf
    · rw [if_pos q16] at hf
      refine x_iconst hc (v := 1) (xd dk_N_rule 22 rfl) (by decide) ?_
      refine x_goto hc (tgt := 44) (xd dk_N_rule 23 rfl) rfl ?_
      exact s_N_rule_44 hc hR hb 1 M hf
  · rw [if_neg q14] at hf
    refine x_iconst hc (v := 0) (xd dk_N_rule 15 rfl) (by decide) ?_
    cases hf
    exact x_zreturn hc rfl (xd dk_N_rule 16 rfl)
set_option maxRecDepth 100000 in
set_option maxHeartbeats 400000 in
theorem s_N_rule {l : Launch} {G : xG} {Y : xY} {sz : Nat} {b : Nat} {p1 : Int32} {p2 : Int32}  (hb : xMd Y b) {M M' : xMem} {r : Int32} (hf : f_N_rule b p1 p2 M = some (r, M')) : xM l G y_N_rule c_N_rule 4 (some .boolean) 1 0 0 [.ref b, .int p1, .int p2] (xo G Y M) sz (some (.int r)) (xo G Y M') sz := by
  unfold f_N_rule at hf
  refine xM.of (k := 1) (L0 := [some (.ref b), some (.int p1), some (.int p2), none]) (by decide) (Nat.le_of_ble_eq_true rfl) rfl ?_
  intro p e s m args below meth c hc hnm
  have hR : xRm { frames := 1, cells := 0, slots := 0, locals := 48 * 1 } 1 := ⟨Nat.le_refl _, Nat.le_refl _⟩
  refine x_aload_n hc (xd dk_N_rule 0 rfl) rfl rfl ?_
  refine x_iconst hc (v := 0) (xd dk_N_rule 1 rfl) (by decide) ?_
  refine x_put hc (ci := 10) (k := 0) fi_N ft_N ft_N_ok fn_N (c_N hb _) rfl (by decide) rfl xw1143 rfl rfl rfl (Nat.le_of_ble_eq_true rfl) (xd dk_N_rule 2 rfl) ?_
  rw [w_N_0 hb]
  replace hf := xlet_some hf
  generalize wI M b 0 0 = M at hf ⊢
  refine x_aload_n hc (xd dk_N_rule 3 rfl) rfl rfl ?_
  refine x_iload_n hc (xd dk_N_rule 4 rfl) rfl rfl ?_
  refine x_iconst hc (v := 0) (xd dk_N_rule 5 rfl) (by decide) ?_
  refine x_bipush hc (v := 9) (xd dk_N_rule 6 rfl) (by decide) ?_
  obtain ⟨r17, M, e18, hf⟩ := xbind_some hf
  refine x_callS hc (As := [.int p1, .int 0, .int 9]) (n := 3) (s_N_in e18) (hR.call (by decide) (by decide)) ⟨by decide, by decide, by decide⟩ rfl rfl xw1043 xw18 xw1041 xw1042 (Nat.le_of_ble_eq_true rfl) ⟨Nat.zero_le _, Nat.zero_le _⟩ (xd dk_N_rule 7 rfl) ?_
  refine x_if_ne hc (tgt := 20) (xd dk_N_rule 8 rfl) rfl (fun q19 => ?_) (fun q19 => ?_)
  · rw [if_neg q19] at hf
    refine x_iconst hc (v := 0) (xd dk_N_rule 11 rfl) (by decide) ?_
    exact s_N_rule_21 hc hR hb 0 M hf
  · rw [if_pos q19] at hf
    refine x_iconst hc (v := 1) (xd dk_N_rule 9 rfl) (by decide) ?_
    refine x_goto hc (tgt := 21) (xd dk_N_rule 10 rfl) rfl ?_
    exact s_N_rule_21 hc hR hb 1 M hf
def f_N_emptyAt_31 (b : Nat) (p1 : Int32) (k2 : Int32 → xMem → Option (Int32 × xMem)) (v2 : Int32) (M : xMem) : Option (Int32 × xMem) :=
  (k2 (v2 + Int32.ofInt 1) M)
def f_N_emptyAt_2 (b : Nat) (p1 : Int32) : Nat → Int32 → xMem → Option (Int32 × xMem)
  | 0, _, _ => none
  | n + 1, v2, M =>
    (if M.1 b 58 ≤ v2 then (some ((-1), M)) else (if xin v2 64 = true then if M.1 (b + 33) v2.toNatClampNeg = p1 then (if xin v2 64 = true then if M.1 (b + 39) v2.toNatClampNeg = 0 then (f_N_emptyAt_31 b p1 (f_N_emptyAt_2 b p1 n) v2 M) else (some (v2, M)) else none) else (f_N_emptyAt_31 b p1 (f_N_emptyAt_2 b p1 n) v2 M) else none))
def f_N_emptyAt (b : Nat) (p1 : Int32) (M : xMem) : Option (Int32 × xMem) :=
  (f_N_emptyAt_2 b p1 xFuel 0 M)
set_option maxRecDepth 100000 in
set_option maxHeartbeats 400000 in
theorem s_N_emptyAt_31 {p : Program} {l : Launch} {e : Env} {R : Room} {s : State} {m : MethodId} {args : Array Value} {below : List Frame} {meth : Method} {c : Code} {G : xG} {Y : xY} {sz : Nat} {b : Nat} {p1 : Int32}  (hc : xC p s m args meth c G 3 c_N_emptyAt y_N_emptyAt.cls (some .int)) (hR : xRm R 0) (hb : xMd Y b) {k2 : Int32 → xMem → Option (Int32 × xMem)} {M' : xMem} {r : Int32} (hk2 : ∀ (v2 : Int32) (M : xMem), k2 v2 M = some (r, M') → xW p l e R s m args below meth c G 3 (MQ below (xQc G (some (.int r)) (xo G Y M') sz) args s 0 0 (xA G)) (xo G Y M) sz 0 0 2 [some (.ref b), some (.int p1), some (.int v2)] []) (v2 : Int32) (M : xMem) (hf : f_N_emptyAt_31 b p1 k2 v2 M = some (r, M')) : xW p l e R s m args below meth c G 3 (MQ below (xQc G (some (.int r)) (xo G Y M') sz) args s 0 0 (xA G)) (xo G Y M) sz 0 0 31 [some (.ref b), some (.int p1), some (.int v2)] [] := by
  unfold f_N_emptyAt_31 at hf
  refine x_iinc hc (xd dk_N_emptyAt 19 rfl) rfl (by decide) rfl ?_
  refine x_goto hc (tgt := 2) (xd dk_N_emptyAt 20 rfl) rfl ?_
  exact hk2 (v2 + Int32.ofInt 1) M hf
set_option maxRecDepth 100000 in
set_option maxHeartbeats 400000 in
theorem s_N_emptyAt_2 {p : Program} {l : Launch} {e : Env} {R : Room} {s : State} {m : MethodId} {args : Array Value} {below : List Frame} {meth : Method} {c : Code} {G : xG} {Y : xY} {sz : Nat} {b : Nat} {p1 : Int32}  (hc : xC p s m args meth c G 3 c_N_emptyAt y_N_emptyAt.cls (some .int)) (hR : xRm R 0) (hb : xMd Y b) {M' : xMem} {r : Int32} : ∀ (n : Nat) (v2 : Int32) (M : xMem), f_N_emptyAt_2 b p1 n v2 M = some (r, M') → xW p l e R s m args below meth c G 3 (MQ below (xQc G (some (.int r)) (xo G Y M') sz) args s 0 0 (xA G)) (xo G Y M) sz 0 0 2 [some (.ref b), some (.int p1), some (.int v2)] [] := by
  intro n
  induction n with
  | zero => intro v2 M hf; simp only [f_N_emptyAt_2] at hf; cases hf
  | succ n ih =>
    intro v2 M hf
    simp only [f_N_emptyAt_2] at hf
    refine x_iload_n hc (xd dk_N_emptyAt 2 rfl) rfl rfl ?_
    refine x_aload_n hc (xd dk_N_emptyAt 3 rfl) rfl rfl ?_
    refine x_get hc (ci := 10) (k := 58) fi_N (c_N hb _) rfl (by decide) rfl xw1201 rfl (xd dk_N_emptyAt 4 rfl) ?_
    refine x_icmp_ge hc (tgt := 37) (xd dk_N_emptyAt 5 rfl) rfl (fun q3 => ?_) (fun q3 => ?_)
    · rw [if_pos q3] at hf
      refine x_iconst hc (v := (-1)) (xd dk_N_emptyAt 21 rfl) (by decide) ?_
      cases hf
      exact x_ireturn hc (xd dk_N_emptyAt 22 rfl)
    · rw [if_neg q3] at hf
      refine x_aload_n hc (xd dk_N_emptyAt 6 rfl) rfl rfl ?_
      refine x_get hc (ci := 10) (k := 47) fi_N (c_N hb _) rfl (by decide) rfl xw1190 rfl (xd dk_N_emptyAt 7 rfl) ?_
      refine x_iload_n hc (xd dk_N_emptyAt 8 rfl) rfl rfl ?_
      by_cases q4 : xin v2 64 = true
      case neg => rw [if_neg q4] at hf; cases hf
      rw [if_pos q4] at hf
      refine x_iald hc (cA (xMd.ar hb 33 (by decide) rfl)) (xin_in q4) (xd dk_N_emptyAt 9 rfl) ?_
      refine x_iload_n hc (xd dk_N_emptyAt 10 rfl) rfl rfl ?_
      refine x_icmp_ne hc (tgt := 31) (xd dk_N_emptyAt 11 rfl) rfl (fun q5 => ?_) (fun q5 => ?_)
      · rw [if_neg q5] at hf
        exact s_N_emptyAt_31 hc hR hb ih v2 M hf
      · rw [if_pos q5] at hf
        refine x_aload_n hc (xd dk_N_emptyAt 12 rfl) rfl rfl ?_
        refine x_get hc (ci := 10) (k := 53) fi_N (c_N hb _) rfl (by decide) rfl xw1196 rfl (xd dk_N_emptyAt 13 rfl) ?_
        refine x_iload_n hc (xd dk_N_emptyAt 14 rfl) rfl rfl ?_
        by_cases q6 : xin v2 64 = true
        case neg => rw [if_neg q6] at hf; cases hf
        rw [if_pos q6] at hf
        refine x_zald hc (cA (xMd.ar hb 39 (by decide) rfl)) (xin_in q6) (xd dk_N_emptyAt 15 rfl) ?_
        refine x_if_eq hc (tgt := 31) (xd dk_N_emptyAt 16 rfl) rfl (fun q7 => ?_) (fun q7 => ?_)
        · rw [if_pos q7] at hf
          exact s_N_emptyAt_31 hc hR hb ih v2 M hf
        · rw [if_neg q7] at hf
          refine x_iload_n hc (xd dk_N_emptyAt 17 rfl) rfl rfl ?_
          cases hf
          exact x_ireturn hc (xd dk_N_emptyAt 18 rfl)
set_option maxRecDepth 100000 in
set_option maxHeartbeats 400000 in
theorem s_N_emptyAt {l : Launch} {G : xG} {Y : xY} {sz : Nat} {b : Nat} {p1 : Int32}  (hb : xMd Y b) {M M' : xMem} {r : Int32} (hf : f_N_emptyAt b p1 M = some (r, M')) : xM l G y_N_emptyAt c_N_emptyAt 3 (some .int) 0 0 0 [.ref b, .int p1] (xo G Y M) sz (some (.int r)) (xo G Y M') sz := by
  unfold f_N_emptyAt at hf
  refine xM.of (k := 1) (L0 := [some (.ref b), some (.int p1), none]) (by decide) (Nat.le_of_ble_eq_true rfl) rfl ?_
  intro p e s m args below meth c hc hnm
  have hR : xRm { frames := 0, cells := 0, slots := 0, locals := 48 * 0 } 0 := ⟨Nat.le_refl _, Nat.le_refl _⟩
  refine x_iconst hc (v := 0) (xd dk_N_emptyAt 0 rfl) (by decide) ?_
  refine x_istore_n hc (xd dk_N_emptyAt 1 rfl) (by decide) rfl ?_
  exact s_N_emptyAt_2 hc hR hb xFuel 0 M hf
def f_N_letter_25 (b : Nat) (p1 : Int32) (w1 : Int32) (M : xMem) : Option (Int32 × xMem) :=
  (xbind (f_N_fails b w1 1 M) fun r6 M => if r6 = 0 then (if xin p1 160 = true then some (M.1 (b + 2) p1.toNatClampNeg, M) else none) else (some (0, M)))
def f_N_letter (b : Nat) (p1 : Int32) (M : xMem) : Option (Int32 × xMem) :=
  (xlet (wI M b 0 0) fun M => xval ((M.1 b 2) - 1) fun x10 => xbind (f_N_in p1 0 x10 M) fun r11 M => if r11 = 0 then (f_N_letter_25 b p1 1 M) else (f_N_letter_25 b p1 0 M))
set_option maxRecDepth 100000 in
set_option maxHeartbeats 400000 in
theorem s_N_letter_25 {p : Program} {l : Launch} {e : Env} {R : Room} {s : State} {m : MethodId} {args : Array Value} {below : List Frame} {meth : Method} {c : Code} {G : xG} {Y : xY} {sz : Nat} {b : Nat} {p1 : Int32}  (hc : xC p s m args meth c G 2 c_N_letter y_N_letter.cls (some .int)) (hR : xRm R 1) (hb : xMd Y b) {M' : xMem} {r : Int32} (w1 : Int32) (M : xMem) (hf : f_N_letter_25 b p1 w1 M = some (r, M')) : xW p l e R s m args below meth c G 2 (MQ below (xQc G (some (.int r)) (xo G Y M') sz) args s 0 0 (xA G)) (xo G Y M) sz 0 0 25 [some (.ref b), some (.int p1)] [.int w1, .ref b] := by
  unfold f_N_letter_25 at hf
  refine x_iconst hc (v := 1) (xd dk_N_letter 15 rfl) (by decide) ?_
  obtain ⟨r6, M, e7, hf⟩ := xbind_some hf
  refine x_callV hc (As := [.int w1, .int 1]) (n := 2) (s_N_fails hb e7) (c_N hb _) rfl (hR.call (by decide) (by decide)) ⟨by decide, by decide, by decide⟩ rfl rfl xw1357 xw18 xw1354 xw1356 xs_N_fails (Nat.le_of_ble_eq_true rfl) ⟨Nat.zero_le _, Nat.zero_le _⟩ (xd dk_N_letter 16 rfl) ?_
  refine x_if_eq hc (tgt := 36) (xd dk_N_letter 17 rfl) rfl (fun q8 => ?_) (fun q8 => ?_)
  · rw [if_pos q8] at hf
    refine x_aload_n hc (xd dk_N_letter 20 rfl) rfl rfl ?_
    refine x_get hc (ci := 10) (k := 11) fi_N (c_N hb _) rfl (by decide) rfl xw1154 rfl (xd dk_N_letter 21 rfl) ?_
    refine x_iload_n hc (xd dk_N_letter 22 rfl) rfl rfl ?_
    by_cases q9 : xin p1 160 = true
    case neg => rw [if_neg q9] at hf; cases hf
    rw [if_pos q9] at hf
    refine x_iald hc (cA (xMd.ar hb 2 (by decide) rfl)) (xin_in q9) (xd dk_N_letter 23 rfl) ?_
    cases hf
    exact x_ireturn hc (xd dk_N_letter 24 rfl)
  · rw [if_neg q8] at hf
    refine x_iconst hc (v := 0) (xd dk_N_letter 18 rfl) (by decide) ?_
    refine x_goto hc (tgt := 42) (xd dk_N_letter 19 rfl) rfl ?_
    cases hf
    exact x_ireturn hc (xd dk_N_letter 24 rfl)
set_option maxRecDepth 100000 in
set_option maxHeartbeats 400000 in
theorem s_N_letter {l : Launch} {G : xG} {Y : xY} {sz : Nat} {b : Nat} {p1 : Int32}  (hb : xMd Y b) {M M' : xMem} {r : Int32} (hf : f_N_letter b p1 M = some (r, M')) : xM l G y_N_letter c_N_letter 2 (some .int) 1 0 0 [.ref b, .int p1] (xo G Y M) sz (some (.int r)) (xo G Y M') sz := by
  unfold f_N_letter at hf
  refine xM.of (k := 0) (L0 := [some (.ref b), some (.int p1)]) (by decide) (Nat.le_of_ble_eq_true rfl) rfl ?_
  intro p e s m args below meth c hc hnm
  have hR : xRm { frames := 1, cells := 0, slots := 0, locals := 48 * 1 } 1 := ⟨Nat.le_refl _, Nat.le_refl _⟩
  refine x_aload_n hc (xd dk_N_letter 0 rfl) rfl rfl ?_
  refine x_iconst hc (v := 0) (xd dk_N_letter 1 rfl) (by decide) ?_
  refine x_put hc (ci := 10) (k := 0) fi_N ft_N ft_N_ok fn_N (c_N hb _) rfl (by decide) rfl xw1143 rfl rfl rfl (Nat.le_of_ble_eq_true rfl) (xd dk_N_letter 2 rfl) ?_
  rw [w_N_0 hb]
  replace hf := xlet_some hf
  generalize wI M b 0 0 = M at hf ⊢
  refine x_aload_n hc (xd dk_N_letter 3 rfl) rfl rfl ?_
  refine x_iload_n hc (xd dk_N_letter 4 rfl) rfl rfl ?_
  refine x_iconst hc (v := 0) (xd dk_N_letter 5 rfl) (by decide) ?_
  refine x_aload_n hc (xd dk_N_letter 6 rfl) rfl rfl ?_
  refine x_get hc (ci := 10) (k := 2) fi_N (c_N hb _) rfl (by decide) rfl xw1145 rfl (xd dk_N_letter 7 rfl) ?_
  refine x_iconst hc (v := 1) (xd dk_N_letter 8 rfl) (by decide) ?_
  refine x_isub hc (xd dk_N_letter 9 rfl) ?_
  obtain ⟨x10, hx10, hf⟩ := xval_ex hf
  rw [← hx10]
  obtain ⟨r11, M, e12, hf⟩ := xbind_some hf
  refine x_callS hc (As := [.int p1, .int 0, .int x10]) (n := 3) (s_N_in e12) (hR.call (by decide) (by decide)) ⟨by decide, by decide, by decide⟩ rfl rfl xw1043 xw18 xw1041 xw1042 (Nat.le_of_ble_eq_true rfl) ⟨Nat.zero_le _, Nat.zero_le _⟩ (xd dk_N_letter 10 rfl) ?_
  refine x_if_ne hc (tgt := 24) (xd dk_N_letter 11 rfl) rfl (fun q13 => ?_) (fun q13 => ?_)
  · rw [if_neg q13] at hf
    refine x_iconst hc (v := 0) (xd dk_N_letter 14 rfl) (by decide) ?_
    exact s_N_letter_25 hc hR hb 0 M hf
  · rw [if_pos q13] at hf
    refine x_iconst hc (v := 1) (xd dk_N_letter 12 rfl) (by decide) ?_
    refine x_goto hc (tgt := 25) (xd dk_N_letter 13 rfl) rfl ?_
    exact s_N_letter_25 hc hR hb 1 M hf
def f_N_declared_142 (b : Nat) (p1 : Int32) (p2 : Int32) : Nat → Int32 → Int32 → xMem → Option (Int32 × xMem)
  | 0, _, _, _ => none
  | n + 1, v3, v4, M =>
    (if v4 < 0 then (some (v3, M)) else (if xin v4 64 = true then f_N_declared_142 b p1 p2 n (v3 + Int32.ofInt 1) (M.1 (b + 15) v4.toNatClampNeg) M else none))
def f_N_declared_47 (b : Nat) (p1 : Int32) (p2 : Int32) (w1 : Int32) (M : xMem) : Option (Int32 × xMem) :=
  (xbind (f_N_fails b w1 2 M) fun r19 M => if r19 = 0 then (if p2 = 0 then (if xin p1 64 = true then if xin (M.1 (b + 18) p1.toNatClampNeg) 64 = true then some (M.1 (b + 9) (M.1 (b + 18) p1.toNatClampNeg).toNatClampNeg, M) else none else none) else if p2 = 1 then (if xin p1 64 = true then some (M.1 (b + 20) p1.toNatClampNeg, M) else none) else if p2 = 2 then (if xin p1 64 = true then some (M.1 (b + 22) p1.toNatClampNeg, M) else none) else if p2 = 3 then (if xin p1 64 = true then some (M.1 (b + 23) p1.toNatClampNeg, M) else none) else if p2 = 4 then (if xin p1 64 = true then some (M.1 (b + 21) p1.toNatClampNeg, M) else none) else (if xin p1 64 = true then f_N_declared_142 b p1 p2 xFuel (-1) (M.1 (b + 19) p1.toNatClampNeg) M else none)) else (some (0, M)))
def f_N_declared_25 (b : Nat) (p1 : Int32) (p2 : Int32) (w1 : Int32) (M : xMem) : Option (Int32 × xMem) :=
  (xbind (f_N_fails b w1 1 M) fun r34 M => if r34 = 0 then (xbind (f_N_in p2 0 5 M) fun r37 M => if r37 = 0 then (f_N_declared_47 b p1 p2 1 M) else (f_N_declared_47 b p1 p2 0 M)) else (some (0, M)))
def f_N_declared (b : Nat) (p1 : Int32) (p2 : Int32) (M : xMem) : Option (Int32 × xMem) :=
  (xlet (wI M b 0 0) fun M => xval ((M.1 b 36) - 1) fun x40 => xbind (f_N_in p1 0 x40 M) fun r41 M => if r41 = 0 then (f_N_declared_25 b p1 p2 1 M) else (f_N_declared_25 b p1 p2 0 M))
set_option maxRecDepth 100000 in
set_option maxHeartbeats 400000 in
theorem s_N_declared_142 {p : Program} {l : Launch} {e : Env} {R : Room} {s : State} {m : MethodId} {args : Array Value} {below : List Frame} {meth : Method} {c : Code} {G : xG} {Y : xY} {sz : Nat} {b : Nat} {p1 : Int32} {p2 : Int32}  (hc : xC p s m args meth c G 5 c_N_declared y_N_declared.cls (some .int)) (hR : xRm R 1) (hb : xMd Y b) {M' : xMem} {r : Int32} : ∀ (n : Nat) (v3 : Int32) (v4 : Int32) (M : xMem), f_N_declared_142 b p1 p2 n v3 v4 M = some (r, M') → xW p l e R s m args below meth c G 5 (MQ below (xQc G (some (.int r)) (xo G Y M') sz) args s 0 0 (xA G)) (xo G Y M) sz 0 0 142 [some (.ref b), some (.int p1), some (.int p2), some (.int v3), some (.int v4)] [] := by
  intro n
  induction n with
  | zero => intro v3 v4 M hf; simp only [f_N_declared_142] at hf; cases hf
  | succ n ih =>
    intro v3 v4 M hf
    simp only [f_N_declared_142] at hf
    refine x_iload hc (xd dk_N_declared 69 rfl) rfl ?_
    refine x_if_lt hc (tgt := 162) (xd dk_N_declared 70 rfl) rfl (fun q17 => ?_) (fun q17 => ?_)
    · rw [if_pos q17] at hf
      refine x_iload_n hc (xd dk_N_declared 78 rfl) rfl rfl ?_
      cases hf
      exact x_ireturn hc (xd dk_N_declared 79 rfl)
    · rw [if_neg q17] at hf
      refine x_iinc hc (xd dk_N_declared 71 rfl) rfl (by decide) rfl ?_
      refine x_aload_n hc (xd dk_N_declared 72 rfl) rfl rfl ?_
      refine x_get hc (ci := 10) (k := 24) fi_N (c_N hb _) rfl (by decide) rfl xw1167 rfl (xd dk_N_declared 73 rfl) ?_
      refine x_iload hc (xd dk_N_declared 74 rfl) rfl ?_
      by_cases q18 : xin v4 64 = true
      case neg => rw [if_neg q18] at hf; cases hf
      rw [if_pos q18] at hf
      refine x_iald hc (cA (xMd.ar hb 15 (by decide) rfl)) (xin_in q18) (xd dk_N_declared 75 rfl) ?_
      refine x_istore hc (xd dk_N_declared 76 rfl) (by decide) rfl ?_
      refine x_goto hc (tgt := 142) (xd dk_N_declared 77 rfl) rfl ?_
      exact ih (v3 + Int32.ofInt 1) (M.1 (b + 15) v4.toNatClampNeg) M hf
set_option maxRecDepth 100000 in
set_option maxHeartbeats 400000 in
theorem s_N_declared_47 {p : Program} {l : Launch} {e : Env} {R : Room} {s : State} {m : MethodId} {args : Array Value} {below : List Frame} {meth : Method} {c : Code} {G : xG} {Y : xY} {sz : Nat} {b : Nat} {p1 : Int32} {p2 : Int32}  (hc : xC p s m args meth c G 5 c_N_declared y_N_declared.cls (some .int)) (hR : xRm R 1) (hb : xMd Y b) {M' : xMem} {r : Int32} (w1 : Int32) (M : xMem) (hf : f_N_declared_47 b p1 p2 w1 M = some (r, M')) : xW p l e R s m args below meth c G 5 (MQ below (xQc G (some (.int r)) (xo G Y M') sz) args s 0 0 (xA G)) (xo G Y M) sz 0 0 47 [some (.ref b), some (.int p1), some (.int p2), none, none] [.int w1, .ref b] := by
  unfold f_N_declared_47 at hf
  refine x_iconst hc (v := 2) (xd dk_N_declared 27 rfl) (by decide) ?_
  obtain ⟨r19, M, e20, hf⟩ := xbind_some hf
  refine x_callV hc (As := [.int w1, .int 2]) (n := 2) (s_N_fails hb e20) (c_N hb _) rfl (hR.call (by decide) (by decide)) ⟨by decide, by decide, by decide⟩ rfl rfl xw1357 xw18 xw1354 xw1356 xs_N_fails (Nat.le_of_ble_eq_true rfl) ⟨Nat.zero_le _, Nat.zero_le _⟩ (xd dk_N_declared 28 rfl) ?_
  refine x_if_eq hc (tgt := 56) (xd dk_N_declared 29 rfl) rfl (fun q21 => ?_) (fun q21 => ?_)
  · rw [if_pos q21] at hf
    refine x_iload_n hc (xd dk_N_declared 32 rfl) rfl rfl ?_
    by_cases q22 : p2 = 0
    case pos =>
      rw [if_pos q22] at hf
      refine x_tableIn hc (off := 35) (tgt := 92) (xd dk_N_declared 33 rfl) (by rw [q22]; decide) (by rw [q22]; decide) (by rw [q22]; rfl) rfl ?_
      refine x_aload_n hc (xd dk_N_declared 34 rfl) rfl rfl ?_
      refine x_get hc (ci := 10) (k := 18) fi_N (c_N hb _) rfl (by decide) rfl xw1161 rfl (xd dk_N_declared 35 rfl) ?_
      refine x_aload_n hc (xd dk_N_declared 36 rfl) rfl rfl ?_
      refine x_get hc (ci := 10) (k := 30) fi_N (c_N hb _) rfl (by decide) rfl xw1173 rfl (xd dk_N_declared 37 rfl) ?_
      refine x_iload_n hc (xd dk_N_declared 38 rfl) rfl rfl ?_
      by_cases q23 : xin p1 64 = true
      case neg => rw [if_neg q23] at hf; cases hf
      rw [if_pos q23] at hf
      refine x_iald hc (cA (xMd.ar hb 18 (by decide) rfl)) (xin_in q23) (xd dk_N_declared 39 rfl) ?_
      by_cases q24 : xin (M.1 (b + 18) p1.toNatClampNeg) 64 = true
      case neg => rw [if_neg q24] at hf; cases hf
      rw [if_pos q24] at hf
      refine x_iald hc (cA (xMd.ar hb 9 (by decide) rfl)) (xin_in q24) (xd dk_N_declared 40 rfl) ?_
      cases hf
      exact x_ireturn hc (xd dk_N_declared 41 rfl)
    rw [if_neg q22] at hf
    by_cases q25 : p2 = 1
    case pos =>
      rw [if_pos q25] at hf
      refine x_tableIn hc (off := 47) (tgt := 104) (xd dk_N_declared 33 rfl) (by rw [q25]; decide) (by rw [q25]; decide) (by rw [q25]; rfl) rfl ?_
      refine x_aload_n hc (xd dk_N_declared 42 rfl) rfl rfl ?_
      refine x_get hc (ci := 10) (k := 32) fi_N (c_N hb _) rfl (by decide) rfl xw1175 rfl (xd dk_N_declared 43 rfl) ?_
      refine x_iload_n hc (xd dk_N_declared 44 rfl) rfl rfl ?_
      by_cases q26 : xin p1 64 = true
      case neg => rw [if_neg q26] at hf; cases hf
      rw [if_pos q26] at hf
      refine x_iald hc (cA (xMd.ar hb 20 (by decide) rfl)) (xin_in q26) (xd dk_N_declared 45 rfl) ?_
      cases hf
      exact x_ireturn hc (xd dk_N_declared 46 rfl)
    rw [if_neg q25] at hf
    by_cases q27 : p2 = 2
    case pos =>
      rw [if_pos q27] at hf
      refine x_tableIn hc (off := 54) (tgt := 111) (xd dk_N_declared 33 rfl) (by rw [q27]; decide) (by rw [q27]; decide) (by rw [q27]; rfl) rfl ?_
      refine x_aload_n hc (xd dk_N_declared 47 rfl) rfl rfl ?_
      refine x_get hc (ci := 10) (k := 34) fi_N (c_N hb _) rfl (by decide) rfl xw1177 rfl (xd dk_N_declared 48 rfl) ?_
      refine x_iload_n hc (xd dk_N_declared 49 rfl) rfl rfl ?_
      by_cases q28 : xin p1 64 = true
      case neg => rw [if_neg q28] at hf; cases hf
      rw [if_pos q28] at hf
      refine x_iald hc (cA (xMd.ar hb 22 (by decide) rfl)) (xin_in q28) (xd dk_N_declared 50 rfl) ?_
      cases hf
      exact x_ireturn hc (xd dk_N_declared 51 rfl)
    rw [if_neg q27] at hf
    by_cases q29 : p2 = 3
    case pos =>
      rw [if_pos q29] at hf
      refine x_tableIn hc (off := 61) (tgt := 118) (xd dk_N_declared 33 rfl) (by rw [q29]; decide) (by rw [q29]; decide) (by rw [q29]; rfl) rfl ?_
      refine x_aload_n hc (xd dk_N_declared 52 rfl) rfl rfl ?_
      refine x_get hc (ci := 10) (k := 35) fi_N (c_N hb _) rfl (by decide) rfl xw1178 rfl (xd dk_N_declared 53 rfl) ?_
      refine x_iload_n hc (xd dk_N_declared 54 rfl) rfl rfl ?_
      by_cases q30 : xin p1 64 = true
      case neg => rw [if_neg q30] at hf; cases hf
      rw [if_pos q30] at hf
      refine x_iald hc (cA (xMd.ar hb 23 (by decide) rfl)) (xin_in q30) (xd dk_N_declared 55 rfl) ?_
      cases hf
      exact x_ireturn hc (xd dk_N_declared 56 rfl)
    rw [if_neg q29] at hf
    by_cases q31 : p2 = 4
    case pos =>
      rw [if_pos q31] at hf
      refine x_tableIn hc (off := 68) (tgt := 125) (xd dk_N_declared 33 rfl) (by rw [q31]; decide) (by rw [q31]; decide) (by rw [q31]; rfl) rfl ?_
      refine x_aload_n hc (xd dk_N_declared 57 rfl) rfl rfl ?_
      refine x_get hc (ci := 10) (k := 33) fi_N (c_N hb _) rfl (by decide) rfl xw1176 rfl (xd dk_N_declared 58 rfl) ?_
      refine x_iload_n hc (xd dk_N_declared 59 rfl) rfl rfl ?_
      by_cases q32 : xin p1 64 = true
      case neg => rw [if_neg q32] at hf; cases hf
      rw [if_pos q32] at hf
      refine x_iald hc (cA (xMd.ar hb 21 (by decide) rfl)) (xin_in q32) (xd dk_N_declared 60 rfl) ?_
      cases hf
      exact x_ireturn hc (xd dk_N_declared 61 rfl)
    rw [if_neg q31] at hf
    refine x_tableOut hc (tgt := 132) (xd dk_N_declared 33 rfl) (by have q22n := xne (v := 0) q22 (by decide); have q25n := xne (v := 1) q25 (by decide); have q27n := xne (v := 2) q27 (by decide); have q29n := xne (v := 3) q29 (by decide); have q31n := xne (v := 4) q31 (by decide); omega) rfl ?_
    refine x_iconst hc (v := (-1)) (xd dk_N_declared 62 rfl) (by decide) ?_
    refine x_istore_n hc (xd dk_N_declared 63 rfl) (by decide) rfl ?_
    refine x_aload_n hc (xd dk_N_declared 64 rfl) rfl rfl ?_
    refine x_get hc (ci := 10) (k := 31) fi_N (c_N hb _) rfl (by decide) rfl xw1174 rfl (xd dk_N_declared 65 rfl) ?_
    refine x_iload_n hc (xd dk_N_declared 66 rfl) rfl rfl ?_
    by_cases q33 : xin p1 64 = true
    case neg => rw [if_neg q33] at hf; cases hf
    rw [if_pos q33] at hf
    refine x_iald hc (cA (xMd.ar hb 19 (by decide) rfl)) (xin_in q33) (xd dk_N_declared 67 rfl) ?_
    refine x_istore hc (xd dk_N_declared 68 rfl) (by decide) rfl ?_
    exact s_N_declared_142 hc hR hb xFuel (-1) (M.1 (b + 19) p1.toNatClampNeg) M hf
  · rw [if_neg q21] at hf
    refine x_iconst hc (v := 0) (xd dk_N_declared 30 rfl) (by decide) ?_
    cases hf
    exact x_ireturn hc (xd dk_N_declared 31 rfl)
set_option maxRecDepth 100000 in
set_option maxHeartbeats 400000 in
theorem s_N_declared_25 {p : Program} {l : Launch} {e : Env} {R : Room} {s : State} {m : MethodId} {args : Array Value} {below : List Frame} {meth : Method} {c : Code} {G : xG} {Y : xY} {sz : Nat} {b : Nat} {p1 : Int32} {p2 : Int32}  (hc : xC p s m args meth c G 5 c_N_declared y_N_declared.cls (some .int)) (hR : xRm R 1) (hb : xMd Y b) {M' : xMem} {r : Int32} (w1 : Int32) (M : xMem) (hf : f_N_declared_25 b p1 p2 w1 M = some (r, M')) : xW p l e R s m args below meth c G 5 (MQ below (xQc G (some (.int r)) (xo G Y M') sz) args s 0 0 (xA G)) (xo G Y M) sz 0 0 25 [some (.ref b), some (.int p1), some (.int p2), none, none] [.int w1, .ref b] := by
  unfold f_N_declared_25 at hf
  refine x_iconst hc (v := 1) (xd dk_N_declared 15 rfl) (by decide) ?_
  obtain ⟨r34, M, e35, hf⟩ := xbind_some hf
  refine x_callV hc (As := [.int w1, .int 1]) (n := 2) (s_N_fails hb e35) (c_N hb _) rfl (hR.call (by decide) (by decide)) ⟨by decide, by decide, by decide⟩ rfl rfl xw1357 xw18 xw1354 xw1356 xs_N_fails (Nat.le_of_ble_eq_true rfl) ⟨Nat.zero_le _, Nat.zero_le _⟩ (xd dk_N_declared 16 rfl) ?_
  refine x_if_ne hc (tgt := 54) (xd dk_N_declared 17 rfl) rfl (fun q36 => ?_) (fun q36 => ?_)
  · rw [if_neg q36] at hf
    refine x_iconst hc (v := 0) (xd dk_N_declared 30 rfl) (by decide) ?_
    cases hf
    exact x_ireturn hc (xd dk_N_declared 31 rfl)
  · rw [if_pos q36] at hf
    refine x_aload_n hc (xd dk_N_declared 18 rfl) rfl rfl ?_
    refine x_iload_n hc (xd dk_N_declared 19 rfl) rfl rfl ?_
    refine x_iconst hc (v := 0) (xd dk_N_declared 20 rfl) (by decide) ?_
    refine x_iconst hc (v := 5) (xd dk_N_declared 21 rfl) (by decide) ?_
    obtain ⟨r37, M, e38, hf⟩ := xbind_some hf
    refine x_callS hc (As := [.int p2, .int 0, .int 5]) (n := 3) (s_N_in e38) (hR.call (by decide) (by decide)) ⟨by decide, by decide, by decide⟩ rfl rfl xw1043 xw18 xw1041 xw1042 (Nat.le_of_ble_eq_true rfl) ⟨Nat.zero_le _, Nat.zero_le _⟩ (xd dk_N_declared 22 rfl) ?_
    refine x_if_ne hc (tgt := 46) (xd dk_N_declared 23 rfl) rfl (fun q39 => ?_) (fun q39 => ?_)
    · rw [if_neg q39] at hf
      refine x_iconst hc (v := 0) (xd dk_N_declared 26 rfl) (by decide) ?_
      exact s_N_declared_47 hc hR hb 0 M hf
    · rw [if_pos q39] at hf
      refine x_iconst hc (v := 1) (xd dk_N_declared 24 rfl) (by decide) ?_
      refine x_goto hc (tgt := 47) (xd dk_N_declared 25 rfl) rfl ?_
      exact s_N_declared_47 hc hR hb 1 M hf
set_option maxRecDepth 100000 in
set_option maxHeartbeats 400000 in
theorem s_N_declared {l : Launch} {G : xG} {Y : xY} {sz : Nat} {b : Nat} {p1 : Int32} {p2 : Int32}  (hb : xMd Y b) {M M' : xMem} {r : Int32} (hf : f_N_declared b p1 p2 M = some (r, M')) : xM l G y_N_declared c_N_declared 5 (some .int) 1 0 0 [.ref b, .int p1, .int p2] (xo G Y M) sz (some (.int r)) (xo G Y M') sz := by
  unfold f_N_declared at hf
  refine xM.of (k := 2) (L0 := [some (.ref b), some (.int p1), some (.int p2), none, none]) (by decide) (Nat.le_of_ble_eq_true rfl) rfl ?_
  intro p e s m args below meth c hc hnm
  have hR : xRm { frames := 1, cells := 0, slots := 0, locals := 48 * 1 } 1 := ⟨Nat.le_refl _, Nat.le_refl _⟩
  refine x_aload_n hc (xd dk_N_declared 0 rfl) rfl rfl ?_
  refine x_iconst hc (v := 0) (xd dk_N_declared 1 rfl) (by decide) ?_
  refine x_put hc (ci := 10) (k := 0) fi_N ft_N ft_N_ok fn_N (c_N hb _) rfl (by decide) rfl xw1143 rfl rfl rfl (Nat.le_of_ble_eq_true rfl) (xd dk_N_declared 2 rfl) ?_
  rw [w_N_0 hb]
  replace hf := xlet_some hf
  generalize wI M b 0 0 = M at hf ⊢
  refine x_aload_n hc (xd dk_N_declared 3 rfl) rfl rfl ?_
  refine x_iload_n hc (xd dk_N_declared 4 rfl) rfl rfl ?_
  refine x_iconst hc (v := 0) (xd dk_N_declared 5 rfl) (by decide) ?_
  refine x_aload_n hc (xd dk_N_declared 6 rfl) rfl rfl ?_
  refine x_get hc (ci := 10) (k := 36) fi_N (c_N hb _) rfl (by decide) rfl xw1179 rfl (xd dk_N_declared 7 rfl) ?_
  refine x_iconst hc (v := 1) (xd dk_N_declared 8 rfl) (by decide) ?_
  refine x_isub hc (xd dk_N_declared 9 rfl) ?_
  obtain ⟨x40, hx40, hf⟩ := xval_ex hf
  rw [← hx40]
  obtain ⟨r41, M, e42, hf⟩ := xbind_some hf
  refine x_callS hc (As := [.int p1, .int 0, .int x40]) (n := 3) (s_N_in e42) (hR.call (by decide) (by decide)) ⟨by decide, by decide, by decide⟩ rfl rfl xw1043 xw18 xw1041 xw1042 (Nat.le_of_ble_eq_true rfl) ⟨Nat.zero_le _, Nat.zero_le _⟩ (xd dk_N_declared 10 rfl) ?_
  refine x_if_ne hc (tgt := 24) (xd dk_N_declared 11 rfl) rfl (fun q43 => ?_) (fun q43 => ?_)
  · rw [if_neg q43] at hf
    refine x_iconst hc (v := 0) (xd dk_N_declared 14 rfl) (by decide) ?_
    exact s_N_declared_25 hc hR hb 0 M hf
  · rw [if_pos q43] at hf
    refine x_iconst hc (v := 1) (xd dk_N_declared 12 rfl) (by decide) ?_
    refine x_goto hc (tgt := 25) (xd dk_N_declared 13 rfl) rfl ?_
    exact s_N_declared_25 hc hR hb 1 M hf
def f_N_isLetter (p0 : Int32) (M : xMem) : Option (Int32 × xMem) :=
  (xbind (f_N_in p0 97 122 M) fun r4 M => if xnar .boolean r4 = true then some (r4, M) else none)
set_option maxRecDepth 100000 in
set_option maxHeartbeats 400000 in
theorem s_N_isLetter {l : Launch} {G : xG} {Y : xY} {sz : Nat} {p0 : Int32}   {M M' : xMem} {r : Int32} (hf : f_N_isLetter p0 M = some (r, M')) : xM l G y_N_isLetter c_N_isLetter 1 (some .boolean) 1 0 0 [.int p0] (xo G Y M) sz (some (.int r)) (xo G Y M') sz := by
  unfold f_N_isLetter at hf
  refine xM.of (k := 0) (L0 := [some (.int p0)]) (by decide) (Nat.le_of_ble_eq_true rfl) rfl ?_
  intro p e s m args below meth c hc hnm
  have hR : xRm { frames := 1, cells := 0, slots := 0, locals := 48 * 1 } 1 := ⟨Nat.le_refl _, Nat.le_refl _⟩
  refine x_iload_n hc (xd dk_N_isLetter 0 rfl) rfl rfl ?_
  refine x_bipush hc (v := 97) (xd dk_N_isLetter 1 rfl) (by decide) ?_
  refine x_bipush hc (v := 122) (xd dk_N_isLetter 2 rfl) (by decide) ?_
  obtain ⟨r4, M, e5, hf⟩ := xbind_some hf
  refine x_callS hc (As := [.int p0, .int 97, .int 122]) (n := 3) (s_N_in e5) (hR.call (by decide) (by decide)) ⟨by decide, by decide, by decide⟩ rfl rfl xw1043 xw18 xw1041 xw1042 (Nat.le_of_ble_eq_true rfl) ⟨Nat.zero_le _, Nat.zero_le _⟩ (xd dk_N_isLetter 3 rfl) ?_
  by_cases q6 : xnar .boolean r4 = true
  case neg => rw [if_neg q6] at hf; cases hf
  rw [if_pos q6] at hf
  cases hf
  exact x_zreturn hc (xnar_n q6) (xd dk_N_isLetter 4 rfl)
def f_N_word_270 (b : Nat) (p1 : Int32) (w0 : Int32) (M : xMem) : Option (Int32 × xMem) :=
  (if w0 = 0 then (some (1, M)) else (some (11, M)))
def f_N_word_269 (b : Nat) (p1 : Int32) (M : xMem) : Option (Int32 × xMem) :=
  (f_N_word_270 b p1 0 M)
def f_N_word (b : Nat) (p1 : Int32) (M : xMem) : Option (Int32 × xMem) :=
  (xbind (f_N_spells b p1 3 108 101 116 0 0 M) fun r30 M => if r30 = 0 then (xbind (f_N_spells b p1 5 99 111 110 115 116 M) fun r33 M => if r33 = 0 then (xbind (f_N_spells b p1 3 118 97 114 0 0 M) fun r36 M => if r36 = 0 then (xbind (f_N_spells b p1 2 102 110 0 0 0 M) fun r39 M => if r39 = 0 then (xbind (f_N_spells b p1 2 105 102 0 0 0 M) fun r42 M => if r42 = 0 then (xbind (f_N_spells b p1 4 101 108 115 101 0 M) fun r45 M => if r45 = 0 then (xbind (f_N_spells b p1 5 119 104 105 108 101 M) fun r48 M => if r48 = 0 then (if xin p1 64 = true then if xin p1 64 = true then if ((M.1 (b + 10) p1.toNatClampNeg) - (M.1 (b + 9) p1.toNatClampNeg)) = 6 then (if xin p1 64 = true then if xin (M.1 (b + 9) p1.toNatClampNeg) 160 = true then if M.1 (b + 2) (M.1 (b + 9) p1.toNatClampNeg).toNatClampNeg = 114 then (if xin p1 64 = true then if xin ((M.1 (b + 9) p1.toNatClampNeg) + 1) 160 = true then if M.1 (b + 2) ((M.1 (b + 9) p1.toNatClampNeg) + 1).toNatClampNeg = 101 then (if xin p1 64 = true then if xin ((M.1 (b + 9) p1.toNatClampNeg) + 2) 160 = true then if M.1 (b + 2) ((M.1 (b + 9) p1.toNatClampNeg) + 2).toNatClampNeg = 116 then (if xin p1 64 = true then if xin ((M.1 (b + 9) p1.toNatClampNeg) + 3) 160 = true then if M.1 (b + 2) ((M.1 (b + 9) p1.toNatClampNeg) + 3).toNatClampNeg = 117 then (if xin p1 64 = true then if xin ((M.1 (b + 9) p1.toNatClampNeg) + 4) 160 = true then if M.1 (b + 2) ((M.1 (b + 9) p1.toNatClampNeg) + 4).toNatClampNeg = 114 then (if xin p1 64 = true then if xin ((M.1 (b + 9) p1.toNatClampNeg) + 5) 160 = true then if M.1 (b + 2) ((M.1 (b + 9) p1.toNatClampNeg) + 5).toNatClampNeg = 110 then (f_N_word_270 b p1 1 M) else (f_N_word_269 b p1 M) else none else none) else (f_N_word_269 b p1 M) else none else none) else (f_N_word_269 b p1 M) else none else none) else (f_N_word_269 b p1 M) else none else none) else (f_N_word_269 b p1 M) else none else none) else (f_N_word_269 b p1 M) else none else none) else (f_N_word_269 b p1 M) else none else none) else (some (10, M))) else (some (9, M))) else (some (8, M))) else (some (7, M))) else (some (6, M))) else (some (5, M))) else (some (4, M)))
set_option maxRecDepth 100000 in
set_option maxHeartbeats 400000 in
theorem s_N_word_270 {p : Program} {l : Launch} {e : Env} {R : Room} {s : State} {m : MethodId} {args : Array Value} {below : List Frame} {meth : Method} {c : Code} {G : xG} {Y : xY} {sz : Nat} {b : Nat} {p1 : Int32}  (hc : xC p s m args meth c G 3 c_N_word y_N_word.cls (some .int)) (hR : xRm R 1) (hb : xMd Y b) {M' : xMem} {r : Int32} (w0 : Int32) (M : xMem) (hf : f_N_word_270 b p1 w0 M = some (r, M')) : xW p l e R s m args below meth c G 3 (MQ below (xQc G (some (.int r)) (xo G Y M') sz) args s 0 0 (xA G)) (xo G Y M) sz 0 0 270 [some (.ref b), some (.int p1), none] [.int w0] := by
  unfold f_N_word_270 at hf
  refine x_istore_n hc (xd dk_N_word 162 rfl) (by decide) rfl ?_
  refine x_iload_n hc (xd dk_N_word 163 rfl) rfl rfl ?_
  refine x_if_eq hc (tgt := 280) (xd dk_N_word 164 rfl) rfl (fun q29 => ?_) (fun q29 => ?_)
  · rw [if_pos q29] at hf
    refine x_iconst hc (v := 1) (xd dk_N_word 167 rfl) (by decide) ?_
    cases hf
    exact x_ireturn hc (xd dk_N_word 168 rfl)
  · rw [if_neg q29] at hf
    refine x_bipush hc (v := 11) (xd dk_N_word 165 rfl) (by decide) ?_
    refine x_goto hc (tgt := 281) (xd dk_N_word 166 rfl) rfl ?_
    cases hf
    exact x_ireturn hc (xd dk_N_word 168 rfl)
set_option maxRecDepth 100000 in
set_option maxHeartbeats 400000 in
theorem s_N_word_269 {p : Program} {l : Launch} {e : Env} {R : Room} {s : State} {m : MethodId} {args : Array Value} {below : List Frame} {meth : Method} {c : Code} {G : xG} {Y : xY} {sz : Nat} {b : Nat} {p1 : Int32}  (hc : xC p s m args meth c G 3 c_N_word y_N_word.cls (some .int)) (hR : xRm R 1) (hb : xMd Y b) {M' : xMem} {r : Int32} (M : xMem) (hf : f_N_word_269 b p1 M = some (r, M')) : xW p l e R s m args below meth c G 3 (MQ below (xQc G (some (.int r)) (xo G Y M') sz) args s 0 0 (xA G)) (xo G Y M) sz 0 0 269 [some (.ref b), some (.int p1), none] [] := by
  unfold f_N_word_269 at hf
  refine x_iconst hc (v := 0) (xd dk_N_word 161 rfl) (by decide) ?_
  exact s_N_word_270 hc hR hb 0 M hf
set_option maxRecDepth 100000 in
set_option maxHeartbeats 400000 in
theorem s_N_word {l : Launch} {G : xG} {Y : xY} {sz : Nat} {b : Nat} {p1 : Int32}  (hb : xMd Y b) {M M' : xMem} {r : Int32} (hf : f_N_word b p1 M = some (r, M')) : xM l G y_N_word c_N_word 3 (some .int) 1 0 0 [.ref b, .int p1] (xo G Y M) sz (some (.int r)) (xo G Y M') sz := by
  unfold f_N_word at hf
  refine xM.of (k := 1) (L0 := [some (.ref b), some (.int p1), none]) (by decide) (Nat.le_of_ble_eq_true rfl) rfl ?_
  intro p e s m args below meth c hc hnm
  have hR : xRm { frames := 1, cells := 0, slots := 0, locals := 48 * 1 } 1 := ⟨Nat.le_refl _, Nat.le_refl _⟩
  refine x_aload_n hc (xd dk_N_word 0 rfl) rfl rfl ?_
  refine x_iload_n hc (xd dk_N_word 1 rfl) rfl rfl ?_
  refine x_iconst hc (v := 3) (xd dk_N_word 2 rfl) (by decide) ?_
  refine x_bipush hc (v := 108) (xd dk_N_word 3 rfl) (by decide) ?_
  refine x_bipush hc (v := 101) (xd dk_N_word 4 rfl) (by decide) ?_
  refine x_bipush hc (v := 116) (xd dk_N_word 5 rfl) (by decide) ?_
  refine x_iconst hc (v := 0) (xd dk_N_word 6 rfl) (by decide) ?_
  refine x_iconst hc (v := 0) (xd dk_N_word 7 rfl) (by decide) ?_
  obtain ⟨r30, M, e31, hf⟩ := xbind_some hf
  refine x_callV hc (As := [.int p1, .int 3, .int 108, .int 101, .int 116, .int 0, .int 0]) (n := 7) (s_N_spells hb e31) (c_N hb _) rfl (hR.call (by decide) (by decide)) ⟨by decide, by decide, by decide⟩ rfl rfl xw1058 xw18 xw1055 xw1057 xs_N_spells (Nat.le_of_ble_eq_true rfl) ⟨Nat.zero_le _, Nat.zero_le _⟩ (xd dk_N_word 8 rfl) ?_
  refine x_if_eq hc (tgt := 19) (xd dk_N_word 9 rfl) rfl (fun q32 => ?_) (fun q32 => ?_)
  · rw [if_pos q32] at hf
    refine x_aload_n hc (xd dk_N_word 12 rfl) rfl rfl ?_
    refine x_iload_n hc (xd dk_N_word 13 rfl) rfl rfl ?_
    refine x_iconst hc (v := 5) (xd dk_N_word 14 rfl) (by decide) ?_
    refine x_bipush hc (v := 99) (xd dk_N_word 15 rfl) (by decide) ?_
    refine x_bipush hc (v := 111) (xd dk_N_word 16 rfl) (by decide) ?_
    refine x_bipush hc (v := 110) (xd dk_N_word 17 rfl) (by decide) ?_
    refine x_bipush hc (v := 115) (xd dk_N_word 18 rfl) (by decide) ?_
    refine x_bipush hc (v := 116) (xd dk_N_word 19 rfl) (by decide) ?_
    obtain ⟨r33, M, e34, hf⟩ := xbind_some hf
    refine x_callV hc (As := [.int p1, .int 5, .int 99, .int 111, .int 110, .int 115, .int 116]) (n := 7) (s_N_spells hb e34) (c_N hb _) rfl (hR.call (by decide) (by decide)) ⟨by decide, by decide, by decide⟩ rfl rfl xw1058 xw18 xw1055 xw1057 xs_N_spells (Nat.le_of_ble_eq_true rfl) ⟨Nat.zero_le _, Nat.zero_le _⟩ (xd dk_N_word 20 rfl) ?_
    refine x_if_eq hc (tgt := 40) (xd dk_N_word 21 rfl) rfl (fun q35 => ?_) (fun q35 => ?_)
    · rw [if_pos q35] at hf
      refine x_aload_n hc (xd dk_N_word 24 rfl) rfl rfl ?_
      refine x_iload_n hc (xd dk_N_word 25 rfl) rfl rfl ?_
      refine x_iconst hc (v := 3) (xd dk_N_word 26 rfl) (by decide) ?_
      refine x_bipush hc (v := 118) (xd dk_N_word 27 rfl) (by decide) ?_
      refine x_bipush hc (v := 97) (xd dk_N_word 28 rfl) (by decide) ?_
      refine x_bipush hc (v := 114) (xd dk_N_word 29 rfl) (by decide) ?_
      refine x_iconst hc (v := 0) (xd dk_N_word 30 rfl) (by decide) ?_
      refine x_iconst hc (v := 0) (xd dk_N_word 31 rfl) (by decide) ?_
      obtain ⟨r36, M, e37, hf⟩ := xbind_some hf
      refine x_callV hc (As := [.int p1, .int 3, .int 118, .int 97, .int 114, .int 0, .int 0]) (n := 7) (s_N_spells hb e37) (c_N hb _) rfl (hR.call (by decide) (by decide)) ⟨by decide, by decide, by decide⟩ rfl rfl xw1058 xw18 xw1055 xw1057 xs_N_spells (Nat.le_of_ble_eq_true rfl) ⟨Nat.zero_le _, Nat.zero_le _⟩ (xd dk_N_word 32 rfl) ?_
      refine x_if_eq hc (tgt := 60) (xd dk_N_word 33 rfl) rfl (fun q38 => ?_) (fun q38 => ?_)
      · rw [if_pos q38] at hf
        refine x_aload_n hc (xd dk_N_word 36 rfl) rfl rfl ?_
        refine x_iload_n hc (xd dk_N_word 37 rfl) rfl rfl ?_
        refine x_iconst hc (v := 2) (xd dk_N_word 38 rfl) (by decide) ?_
        refine x_bipush hc (v := 102) (xd dk_N_word 39 rfl) (by decide) ?_
        refine x_bipush hc (v := 110) (xd dk_N_word 40 rfl) (by decide) ?_
        refine x_iconst hc (v := 0) (xd dk_N_word 41 rfl) (by decide) ?_
        refine x_iconst hc (v := 0) (xd dk_N_word 42 rfl) (by decide) ?_
        refine x_iconst hc (v := 0) (xd dk_N_word 43 rfl) (by decide) ?_
        obtain ⟨r39, M, e40, hf⟩ := xbind_some hf
        refine x_callV hc (As := [.int p1, .int 2, .int 102, .int 110, .int 0, .int 0, .int 0]) (n := 7) (s_N_spells hb e40) (c_N hb _) rfl (hR.call (by decide) (by decide)) ⟨by decide, by decide, by decide⟩ rfl rfl xw1058 xw18 xw1055 xw1057 xs_N_spells (Nat.le_of_ble_eq_true rfl) ⟨Nat.zero_le _, Nat.zero_le _⟩ (xd dk_N_word 44 rfl) ?_
        refine x_if_eq hc (tgt := 79) (xd dk_N_word 45 rfl) rfl (fun q41 => ?_) (fun q41 => ?_)
        · rw [if_pos q41] at hf
          refine x_aload_n hc (xd dk_N_word 48 rfl) rfl rfl ?_
          refine x_iload_n hc (xd dk_N_word 49 rfl) rfl rfl ?_
          refine x_iconst hc (v := 2) (xd dk_N_word 50 rfl) (by decide) ?_
          refine x_bipush hc (v := 105) (xd dk_N_word 51 rfl) (by decide) ?_
          refine x_bipush hc (v := 102) (xd dk_N_word 52 rfl) (by decide) ?_
          refine x_iconst hc (v := 0) (xd dk_N_word 53 rfl) (by decide) ?_
          refine x_iconst hc (v := 0) (xd dk_N_word 54 rfl) (by decide) ?_
          refine x_iconst hc (v := 0) (xd dk_N_word 55 rfl) (by decide) ?_
          obtain ⟨r42, M, e43, hf⟩ := xbind_some hf
          refine x_callV hc (As := [.int p1, .int 2, .int 105, .int 102, .int 0, .int 0, .int 0]) (n := 7) (s_N_spells hb e43) (c_N hb _) rfl (hR.call (by decide) (by decide)) ⟨by decide, by decide, by decide⟩ rfl rfl xw1058 xw18 xw1055 xw1057 xs_N_spells (Nat.le_of_ble_eq_true rfl) ⟨Nat.zero_le _, Nat.zero_le _⟩ (xd dk_N_word 56 rfl) ?_
          refine x_if_eq hc (tgt := 98) (xd dk_N_word 57 rfl) rfl (fun q44 => ?_) (fun q44 => ?_)
          · rw [if_pos q44] at hf
            refine x_aload_n hc (xd dk_N_word 60 rfl) rfl rfl ?_
            refine x_iload_n hc (xd dk_N_word 61 rfl) rfl rfl ?_
            refine x_iconst hc (v := 4) (xd dk_N_word 62 rfl) (by decide) ?_
            refine x_bipush hc (v := 101) (xd dk_N_word 63 rfl) (by decide) ?_
            refine x_bipush hc (v := 108) (xd dk_N_word 64 rfl) (by decide) ?_
            refine x_bipush hc (v := 115) (xd dk_N_word 65 rfl) (by decide) ?_
            refine x_bipush hc (v := 101) (xd dk_N_word 66 rfl) (by decide) ?_
            refine x_iconst hc (v := 0) (xd dk_N_word 67 rfl) (by decide) ?_
            obtain ⟨r45, M, e46, hf⟩ := xbind_some hf
            refine x_callV hc (As := [.int p1, .int 4, .int 101, .int 108, .int 115, .int 101, .int 0]) (n := 7) (s_N_spells hb e46) (c_N hb _) rfl (hR.call (by decide) (by decide)) ⟨by decide, by decide, by decide⟩ rfl rfl xw1058 xw18 xw1055 xw1057 xs_N_spells (Nat.le_of_ble_eq_true rfl) ⟨Nat.zero_le _, Nat.zero_le _⟩ (xd dk_N_word 68 rfl) ?_
            refine x_if_eq hc (tgt := 119) (xd dk_N_word 69 rfl) rfl (fun q47 => ?_) (fun q47 => ?_)
            · rw [if_pos q47] at hf
              refine x_aload_n hc (xd dk_N_word 72 rfl) rfl rfl ?_
              refine x_iload_n hc (xd dk_N_word 73 rfl) rfl rfl ?_
              refine x_iconst hc (v := 5) (xd dk_N_word 74 rfl) (by decide) ?_
              refine x_bipush hc (v := 119) (xd dk_N_word 75 rfl) (by decide) ?_
              refine x_bipush hc (v := 104) (xd dk_N_word 76 rfl) (by decide) ?_
              refine x_bipush hc (v := 105) (xd dk_N_word 77 rfl) (by decide) ?_
              refine x_bipush hc (v := 108) (xd dk_N_word 78 rfl) (by decide) ?_
              refine x_bipush hc (v := 101) (xd dk_N_word 79 rfl) (by decide) ?_
              obtain ⟨r48, M, e49, hf⟩ := xbind_some hf
              refine x_callV hc (As := [.int p1, .int 5, .int 119, .int 104, .int 105, .int 108, .int 101]) (n := 7) (s_N_spells hb e49) (c_N hb _) rfl (hR.call (by decide) (by decide)) ⟨by decide, by decide, by decide⟩ rfl rfl xw1058 xw18 xw1055 xw1057 xs_N_spells (Nat.le_of_ble_eq_true rfl) ⟨Nat.zero_le _, Nat.zero_le _⟩ (xd dk_N_word 80 rfl) ?_
              refine x_if_eq hc (tgt := 141) (xd dk_N_word 81 rfl) rfl (fun q50 => ?_) (fun q50 => ?_)
              · rw [if_pos q50] at hf
                refine x_aload_n hc (xd dk_N_word 84 rfl) rfl rfl ?_
                refine x_get hc (ci := 10) (k := 19) fi_N (c_N hb _) rfl (by decide) rfl xw1162 rfl (xd dk_N_word 85 rfl) ?_
                refine x_iload_n hc (xd dk_N_word 86 rfl) rfl rfl ?_
                by_cases q51 : xin p1 64 = true
                case neg => rw [if_neg q51] at hf; cases hf
                rw [if_pos q51] at hf
                refine x_iald hc (cA (xMd.ar hb 10 (by decide) rfl)) (xin_in q51) (xd dk_N_word 87 rfl) ?_
                refine x_aload_n hc (xd dk_N_word 88 rfl) rfl rfl ?_
                refine x_get hc (ci := 10) (k := 18) fi_N (c_N hb _) rfl (by decide) rfl xw1161 rfl (xd dk_N_word 89 rfl) ?_
                refine x_iload_n hc (xd dk_N_word 90 rfl) rfl rfl ?_
                by_cases q52 : xin p1 64 = true
                case neg => rw [if_neg q52] at hf; cases hf
                rw [if_pos q52] at hf
                refine x_iald hc (cA (xMd.ar hb 9 (by decide) rfl)) (xin_in q52) (xd dk_N_word 91 rfl) ?_
                refine x_isub hc (xd dk_N_word 92 rfl) ?_
                refine x_bipush hc (v := 6) (xd dk_N_word 93 rfl) (by decide) ?_
                refine x_icmp_ne hc (tgt := 269) (xd dk_N_word 94 rfl) rfl (fun q53 => ?_) (fun q53 => ?_)
                · rw [if_neg q53] at hf
                  exact s_N_word_269 hc hR hb M hf
                · rw [if_pos q53] at hf
                  refine x_aload_n hc (xd dk_N_word 95 rfl) rfl rfl ?_
                  refine x_get hc (ci := 10) (k := 11) fi_N (c_N hb _) rfl (by decide) rfl xw1154 rfl (xd dk_N_word 96 rfl) ?_
                  refine x_aload_n hc (xd dk_N_word 97 rfl) rfl rfl ?_
                  refine x_get hc (ci := 10) (k := 18) fi_N (c_N hb _) rfl (by decide) rfl xw1161 rfl (xd dk_N_word 98 rfl) ?_
                  refine x_iload_n hc (xd dk_N_word 99 rfl) rfl rfl ?_
                  by_cases q54 : xin p1 64 = true
                  case neg => rw [if_neg q54] at hf; cases hf
                  rw [if_pos q54] at hf
                  refine x_iald hc (cA (xMd.ar hb 9 (by decide) rfl)) (xin_in q54) (xd dk_N_word 100 rfl) ?_
                  by_cases q55 : xin (M.1 (b + 9) p1.toNatClampNeg) 160 = true
                  case neg => rw [if_neg q55] at hf; cases hf
                  rw [if_pos q55] at hf
                  refine x_iald hc (cA (xMd.ar hb 2 (by decide) rfl)) (xin_in q55) (xd dk_N_word 101 rfl) ?_
                  refine x_bipush hc (v := 114) (xd dk_N_word 102 rfl) (by decide) ?_
                  refine x_icmp_ne hc (tgt := 269) (xd dk_N_word 103 rfl) rfl (fun q56 => ?_) (fun q56 => ?_)
                  · rw [if_neg q56] at hf
                    exact s_N_word_269 hc hR hb M hf
                  · rw [if_pos q56] at hf
                    refine x_aload_n hc (xd dk_N_word 104 rfl) rfl rfl ?_
                    refine x_get hc (ci := 10) (k := 11) fi_N (c_N hb _) rfl (by decide) rfl xw1154 rfl (xd dk_N_word 105 rfl) ?_
                    refine x_aload_n hc (xd dk_N_word 106 rfl) rfl rfl ?_
                    refine x_get hc (ci := 10) (k := 18) fi_N (c_N hb _) rfl (by decide) rfl xw1161 rfl (xd dk_N_word 107 rfl) ?_
                    refine x_iload_n hc (xd dk_N_word 108 rfl) rfl rfl ?_
                    by_cases q57 : xin p1 64 = true
                    case neg => rw [if_neg q57] at hf; cases hf
                    rw [if_pos q57] at hf
                    refine x_iald hc (cA (xMd.ar hb 9 (by decide) rfl)) (xin_in q57) (xd dk_N_word 109 rfl) ?_
                    refine x_iconst hc (v := 1) (xd dk_N_word 110 rfl) (by decide) ?_
                    refine x_iadd hc (xd dk_N_word 111 rfl) ?_
                    by_cases q58 : xin ((M.1 (b + 9) p1.toNatClampNeg) + 1) 160 = true
                    case neg => rw [if_neg q58] at hf; cases hf
                    rw [if_pos q58] at hf
                    refine x_iald hc (cA (xMd.ar hb 2 (by decide) rfl)) (xin_in q58) (xd dk_N_word 112 rfl) ?_
                    refine x_bipush hc (v := 101) (xd dk_N_word 113 rfl) (by decide) ?_
                    refine x_icmp_ne hc (tgt := 269) (xd dk_N_word 114 rfl) rfl (fun q59 => ?_) (fun q59 => ?_)
                    · rw [if_neg q59] at hf
                      exact s_N_word_269 hc hR hb M hf
                    · rw [if_pos q59] at hf
                      refine x_aload_n hc (xd dk_N_word 115 rfl) rfl rfl ?_
                      refine x_get hc (ci := 10) (k := 11) fi_N (c_N hb _) rfl (by decide) rfl xw1154 rfl (xd dk_N_word 116 rfl) ?_
                      refine x_aload_n hc (xd dk_N_word 117 rfl) rfl rfl ?_
                      refine x_get hc (ci := 10) (k := 18) fi_N (c_N hb _) rfl (by decide) rfl xw1161 rfl (xd dk_N_word 118 rfl) ?_
                      refine x_iload_n hc (xd dk_N_word 119 rfl) rfl rfl ?_
                      by_cases q60 : xin p1 64 = true
                      case neg => rw [if_neg q60] at hf; cases hf
                      rw [if_pos q60] at hf
                      refine x_iald hc (cA (xMd.ar hb 9 (by decide) rfl)) (xin_in q60) (xd dk_N_word 120 rfl) ?_
                      refine x_iconst hc (v := 2) (xd dk_N_word 121 rfl) (by decide) ?_
                      refine x_iadd hc (xd dk_N_word 122 rfl) ?_
                      by_cases q61 : xin ((M.1 (b + 9) p1.toNatClampNeg) + 2) 160 = true
                      case neg => rw [if_neg q61] at hf; cases hf
                      rw [if_pos q61] at hf
                      refine x_iald hc (cA (xMd.ar hb 2 (by decide) rfl)) (xin_in q61) (xd dk_N_word 123 rfl) ?_
                      refine x_bipush hc (v := 116) (xd dk_N_word 124 rfl) (by decide) ?_
                      refine x_icmp_ne hc (tgt := 269) (xd dk_N_word 125 rfl) rfl (fun q62 => ?_) (fun q62 => ?_)
                      · rw [if_neg q62] at hf
                        exact s_N_word_269 hc hR hb M hf
                      · rw [if_pos q62] at hf
                        refine x_aload_n hc (xd dk_N_word 126 rfl) rfl rfl ?_
                        refine x_get hc (ci := 10) (k := 11) fi_N (c_N hb _) rfl (by decide) rfl xw1154 rfl (xd dk_N_word 127 rfl) ?_
                        refine x_aload_n hc (xd dk_N_word 128 rfl) rfl rfl ?_
                        refine x_get hc (ci := 10) (k := 18) fi_N (c_N hb _) rfl (by decide) rfl xw1161 rfl (xd dk_N_word 129 rfl) ?_
                        refine x_iload_n hc (xd dk_N_word 130 rfl) rfl rfl ?_
                        by_cases q63 : xin p1 64 = true
                        case neg => rw [if_neg q63] at hf; cases hf
                        rw [if_pos q63] at hf
                        refine x_iald hc (cA (xMd.ar hb 9 (by decide) rfl)) (xin_in q63) (xd dk_N_word 131 rfl) ?_
                        refine x_iconst hc (v := 3) (xd dk_N_word 132 rfl) (by decide) ?_
                        refine x_iadd hc (xd dk_N_word 133 rfl) ?_
                        by_cases q64 : xin ((M.1 (b + 9) p1.toNatClampNeg) + 3) 160 = true
                        case neg => rw [if_neg q64] at hf; cases hf
                        rw [if_pos q64] at hf
                        refine x_iald hc (cA (xMd.ar hb 2 (by decide) rfl)) (xin_in q64) (xd dk_N_word 134 rfl) ?_
                        refine x_bipush hc (v := 117) (xd dk_N_word 135 rfl) (by decide) ?_
                        refine x_icmp_ne hc (tgt := 269) (xd dk_N_word 136 rfl) rfl (fun q65 => ?_) (fun q65 => ?_)
                        · rw [if_neg q65] at hf
                          exact s_N_word_269 hc hR hb M hf
                        · rw [if_pos q65] at hf
                          refine x_aload_n hc (xd dk_N_word 137 rfl) rfl rfl ?_
                          refine x_get hc (ci := 10) (k := 11) fi_N (c_N hb _) rfl (by decide) rfl xw1154 rfl (xd dk_N_word 138 rfl) ?_
                          refine x_aload_n hc (xd dk_N_word 139 rfl) rfl rfl ?_
                          refine x_get hc (ci := 10) (k := 18) fi_N (c_N hb _) rfl (by decide) rfl xw1161 rfl (xd dk_N_word 140 rfl) ?_
                          refine x_iload_n hc (xd dk_N_word 141 rfl) rfl rfl ?_
                          by_cases q66 : xin p1 64 = true
                          case neg => rw [if_neg q66] at hf; cases hf
                          rw [if_pos q66] at hf
                          refine x_iald hc (cA (xMd.ar hb 9 (by decide) rfl)) (xin_in q66) (xd dk_N_word 142 rfl) ?_
                          refine x_iconst hc (v := 4) (xd dk_N_word 143 rfl) (by decide) ?_
                          refine x_iadd hc (xd dk_N_word 144 rfl) ?_
                          by_cases q67 : xin ((M.1 (b + 9) p1.toNatClampNeg) + 4) 160 = true
                          case neg => rw [if_neg q67] at hf; cases hf
                          rw [if_pos q67] at hf
                          refine x_iald hc (cA (xMd.ar hb 2 (by decide) rfl)) (xin_in q67) (xd dk_N_word 145 rfl) ?_
                          refine x_bipush hc (v := 114) (xd dk_N_word 146 rfl) (by decide) ?_
                          refine x_icmp_ne hc (tgt := 269) (xd dk_N_word 147 rfl) rfl (fun q68 => ?_) (fun q68 => ?_)
                          · rw [if_neg q68] at hf
                            exact s_N_word_269 hc hR hb M hf
                          · rw [if_pos q68] at hf
                            refine x_aload_n hc (xd dk_N_word 148 rfl) rfl rfl ?_
                            refine x_get hc (ci := 10) (k := 11) fi_N (c_N hb _) rfl (by decide) rfl xw1154 rfl (xd dk_N_word 149 rfl) ?_
                            refine x_aload_n hc (xd dk_N_word 150 rfl) rfl rfl ?_
                            refine x_get hc (ci := 10) (k := 18) fi_N (c_N hb _) rfl (by decide) rfl xw1161 rfl (xd dk_N_word 151 rfl) ?_
                            refine x_iload_n hc (xd dk_N_word 152 rfl) rfl rfl ?_
                            by_cases q69 : xin p1 64 = true
                            case neg => rw [if_neg q69] at hf; cases hf
                            rw [if_pos q69] at hf
                            refine x_iald hc (cA (xMd.ar hb 9 (by decide) rfl)) (xin_in q69) (xd dk_N_word 153 rfl) ?_
                            refine x_iconst hc (v := 5) (xd dk_N_word 154 rfl) (by decide) ?_
                            refine x_iadd hc (xd dk_N_word 155 rfl) ?_
                            by_cases q70 : xin ((M.1 (b + 9) p1.toNatClampNeg) + 5) 160 = true
                            case neg => rw [if_neg q70] at hf; cases hf
                            rw [if_pos q70] at hf
                            refine x_iald hc (cA (xMd.ar hb 2 (by decide) rfl)) (xin_in q70) (xd dk_N_word 156 rfl) ?_
                            refine x_bipush hc (v := 110) (xd dk_N_word 157 rfl) (by decide) ?_
                            refine x_icmp_ne hc (tgt := 269) (xd dk_N_word 158 rfl) rfl (fun q71 => ?_) (fun q71 => ?_)
                            · rw [if_neg q71] at hf
                              exact s_N_word_269 hc hR hb M hf
                            · rw [if_pos q71] at hf
                              refine x_iconst hc (v := 1) (xd dk_N_word 159 rfl) (by decide) ?_
                              refine x_goto hc (tgt := 270) (xd dk_N_word 160 rfl) rfl ?_
                              exact s_N_word_270 hc hR hb 1 M hf
              · rw [if_neg q50] at hf
                refine x_bipush hc (v := 10) (xd dk_N_word 82 rfl) (by decide) ?_
                cases hf
                exact x_ireturn hc (xd dk_N_word 83 rfl)
            · rw [if_neg q47] at hf
              refine x_bipush hc (v := 9) (xd dk_N_word 70 rfl) (by decide) ?_
              cases hf
              exact x_ireturn hc (xd dk_N_word 71 rfl)
          · rw [if_neg q44] at hf
            refine x_bipush hc (v := 8) (xd dk_N_word 58 rfl) (by decide) ?_
            cases hf
            exact x_ireturn hc (xd dk_N_word 59 rfl)
        · rw [if_neg q41] at hf
          refine x_bipush hc (v := 7) (xd dk_N_word 46 rfl) (by decide) ?_
          cases hf
          exact x_ireturn hc (xd dk_N_word 47 rfl)
      · rw [if_neg q38] at hf
        refine x_bipush hc (v := 6) (xd dk_N_word 34 rfl) (by decide) ?_
        cases hf
        exact x_ireturn hc (xd dk_N_word 35 rfl)
    · rw [if_neg q35] at hf
      refine x_iconst hc (v := 5) (xd dk_N_word 22 rfl) (by decide) ?_
      cases hf
      exact x_ireturn hc (xd dk_N_word 23 rfl)
  · rw [if_neg q32] at hf
    refine x_iconst hc (v := 4) (xd dk_N_word 10 rfl) (by decide) ?_
    cases hf
    exact x_ireturn hc (xd dk_N_word 11 rfl)
def f_N_lists (b : Nat) (p1 : Int32) (p2 : Int32) (M : xMem) : Option (Unit × xMem) :=
  (xval (M.1 b 29) fun x4 => if xin x4 64 = true then xlet (wI M (b + 16) x4.toNatClampNeg 0) fun M => xval (M.1 b 29) fun x6 => xbind (f_N_push b 1 p1 p2 x6 M) fun r7 M => xval ((M.1 b 29) + 1) fun x9 => xlet (wI M b 29 x9) fun M => some ((), M) else none)
set_option maxRecDepth 100000 in
set_option maxHeartbeats 400000 in
theorem s_N_lists {l : Launch} {G : xG} {Y : xY} {sz : Nat} {b : Nat} {p1 : Int32} {p2 : Int32}  (hb : xMd Y b) {M M' : xMem} {r : Unit} (hf : f_N_lists b p1 p2 M = some (r, M')) : xM l G y_N_lists c_N_lists 3 none 1 0 0 [.ref b, .int p1, .int p2] (xo G Y M) sz none (xo G Y M') sz := by
  unfold f_N_lists at hf
  refine xM.of (k := 0) (L0 := [some (.ref b), some (.int p1), some (.int p2)]) (by decide) (Nat.le_of_ble_eq_true rfl) rfl ?_
  intro p e s m args below meth c hc hnm
  have hR : xRm { frames := 1, cells := 0, slots := 0, locals := 48 * 1 } 1 := ⟨Nat.le_refl _, Nat.le_refl _⟩
  refine x_aload_n hc (xd dk_N_lists 0 rfl) rfl rfl ?_
  refine x_get hc (ci := 10) (k := 25) fi_N (c_N hb _) rfl (by decide) rfl xw1168 rfl (xd dk_N_lists 1 rfl) ?_
  refine x_aload_n hc (xd dk_N_lists 2 rfl) rfl rfl ?_
  refine x_get hc (ci := 10) (k := 29) fi_N (c_N hb _) rfl (by decide) rfl xw1172 rfl (xd dk_N_lists 3 rfl) ?_
  refine x_iconst hc (v := 0) (xd dk_N_lists 4 rfl) (by decide) ?_
  obtain ⟨x4, hx4, hf⟩ := xval_ex hf
  rw [← hx4]
  by_cases q5 : xin x4 64 = true
  case neg => rw [if_neg q5] at hf; cases hf
  rw [if_pos q5] at hf
  refine x_iast hc (cA (xMd.ar hb 16 (by decide) rfl)) (xin_in q5) (xd dk_N_lists 5 rfl) ?_
  rw [wA (xMd.ar hb 16 (by decide) rfl)]
  replace hf := xlet_some hf
  generalize wI M (b + 16) x4.toNatClampNeg 0 = M at hf ⊢
  refine x_aload_n hc (xd dk_N_lists 6 rfl) rfl rfl ?_
  refine x_iconst hc (v := 1) (xd dk_N_lists 7 rfl) (by decide) ?_
  refine x_iload_n hc (xd dk_N_lists 8 rfl) rfl rfl ?_
  refine x_iload_n hc (xd dk_N_lists 9 rfl) rfl rfl ?_
  refine x_aload_n hc (xd dk_N_lists 10 rfl) rfl rfl ?_
  refine x_get hc (ci := 10) (k := 29) fi_N (c_N hb _) rfl (by decide) rfl xw1172 rfl (xd dk_N_lists 11 rfl) ?_
  obtain ⟨x6, hx6, hf⟩ := xval_ex hf
  rw [← hx6]
  obtain ⟨r7, M, e8, hf⟩ := xbind_some hf
  refine x_callV hc (As := [.int 1, .int p1, .int p2, .int x6]) (n := 4) (s_N_push hb e8) (c_N hb _) rfl (hR.call (by decide) (by decide)) ⟨by decide, by decide, by decide⟩ rfl rfl xw1078 xw18 xw1075 xw1077 xs_N_push (Nat.le_of_ble_eq_true rfl) ⟨Nat.zero_le _, Nat.zero_le _⟩ (xd dk_N_lists 12 rfl) ?_
  refine x_aload_n hc (xd dk_N_lists 13 rfl) rfl rfl ?_
  refine x_dup hc (xd dk_N_lists 14 rfl) rfl ?_
  refine x_get hc (ci := 10) (k := 29) fi_N (c_N hb _) rfl (by decide) rfl xw1172 rfl (xd dk_N_lists 15 rfl) ?_
  refine x_iconst hc (v := 1) (xd dk_N_lists 16 rfl) (by decide) ?_
  refine x_iadd hc (xd dk_N_lists 17 rfl) ?_
  obtain ⟨x9, hx9, hf⟩ := xval_ex hf
  rw [← hx9]
  refine x_put hc (ci := 10) (k := 29) fi_N ft_N ft_N_ok fn_N (c_N hb _) rfl (by decide) rfl xw1172 rfl rfl rfl (Nat.le_of_ble_eq_true rfl) (xd dk_N_lists 18 rfl) ?_
  rw [w_N_29 hb]
  replace hf := xlet_some hf
  generalize wI M b 29 x9 = M at hf ⊢
  cases hf
  exact x_return hc (xd dk_N_lists 19 rfl)
def f_N_thingIn_36 (b : Nat) (p1 : Int32) (p2 : Int32) (k2 : Int32 → xMem → Option (Int32 × xMem)) (v3 : Int32) (M : xMem) : Option (Int32 × xMem) :=
  (k2 (v3 + Int32.ofInt 1) M)
def f_N_thingIn_2 (b : Nat) (p1 : Int32) (p2 : Int32) : Nat → Int32 → xMem → Option (Int32 × xMem)
  | 0, _, _ => none
  | n + 1, v3, M =>
    (if M.1 b 36 ≤ v3 then (some ((-1), M)) else (if xin v3 64 = true then if M.1 (b + 19) v3.toNatClampNeg = p1 then (if xin v3 64 = true then xval (M.1 (b + 18) v3.toNatClampNeg) fun x9 => xbind (f_N_alike b x9 p2 M) fun r10 M => if r10 = 0 then (f_N_thingIn_36 b p1 p2 (f_N_thingIn_2 b p1 p2 n) v3 M) else (some (v3, M)) else none) else (f_N_thingIn_36 b p1 p2 (f_N_thingIn_2 b p1 p2 n) v3 M) else none))
def f_N_thingIn (b : Nat) (p1 : Int32) (p2 : Int32) (M : xMem) : Option (Int32 × xMem) :=
  (f_N_thingIn_2 b p1 p2 xFuel 0 M)
set_option maxRecDepth 100000 in
set_option maxHeartbeats 400000 in
theorem s_N_thingIn_36 {p : Program} {l : Launch} {e : Env} {R : Room} {s : State} {m : MethodId} {args : Array Value} {below : List Frame} {meth : Method} {c : Code} {G : xG} {Y : xY} {sz : Nat} {b : Nat} {p1 : Int32} {p2 : Int32}  (hc : xC p s m args meth c G 4 c_N_thingIn y_N_thingIn.cls (some .int)) (hR : xRm R 1) (hb : xMd Y b) {k2 : Int32 → xMem → Option (Int32 × xMem)} {M' : xMem} {r : Int32} (hk2 : ∀ (v3 : Int32) (M : xMem), k2 v3 M = some (r, M') → xW p l e R s m args below meth c G 4 (MQ below (xQc G (some (.int r)) (xo G Y M') sz) args s 0 0 (xA G)) (xo G Y M) sz 0 0 2 [some (.ref b), some (.int p1), some (.int p2), some (.int v3)] []) (v3 : Int32) (M : xMem) (hf : f_N_thingIn_36 b p1 p2 k2 v3 M = some (r, M')) : xW p l e R s m args below meth c G 4 (MQ below (xQc G (some (.int r)) (xo G Y M') sz) args s 0 0 (xA G)) (xo G Y M) sz 0 0 36 [some (.ref b), some (.int p1), some (.int p2), some (.int v3)] [] := by
  unfold f_N_thingIn_36 at hf
  refine x_iinc hc (xd dk_N_thingIn 22 rfl) rfl (by decide) rfl ?_
  refine x_goto hc (tgt := 2) (xd dk_N_thingIn 23 rfl) rfl ?_
  exact hk2 (v3 + Int32.ofInt 1) M hf
set_option maxRecDepth 100000 in
set_option maxHeartbeats 400000 in
theorem s_N_thingIn_2 {p : Program} {l : Launch} {e : Env} {R : Room} {s : State} {m : MethodId} {args : Array Value} {below : List Frame} {meth : Method} {c : Code} {G : xG} {Y : xY} {sz : Nat} {b : Nat} {p1 : Int32} {p2 : Int32}  (hc : xC p s m args meth c G 4 c_N_thingIn y_N_thingIn.cls (some .int)) (hR : xRm R 1) (hb : xMd Y b) {M' : xMem} {r : Int32} : ∀ (n : Nat) (v3 : Int32) (M : xMem), f_N_thingIn_2 b p1 p2 n v3 M = some (r, M') → xW p l e R s m args below meth c G 4 (MQ below (xQc G (some (.int r)) (xo G Y M') sz) args s 0 0 (xA G)) (xo G Y M) sz 0 0 2 [some (.ref b), some (.int p1), some (.int p2), some (.int v3)] [] := by
  intro n
  induction n with
  | zero => intro v3 M hf; simp only [f_N_thingIn_2] at hf; cases hf
  | succ n ih =>
    intro v3 M hf
    simp only [f_N_thingIn_2] at hf
    refine x_iload_n hc (xd dk_N_thingIn 2 rfl) rfl rfl ?_
    refine x_aload_n hc (xd dk_N_thingIn 3 rfl) rfl rfl ?_
    refine x_get hc (ci := 10) (k := 36) fi_N (c_N hb _) rfl (by decide) rfl xw1179 rfl (xd dk_N_thingIn 4 rfl) ?_
    refine x_icmp_ge hc (tgt := 42) (xd dk_N_thingIn 5 rfl) rfl (fun q5 => ?_) (fun q5 => ?_)
    · rw [if_pos q5] at hf
      refine x_iconst hc (v := (-1)) (xd dk_N_thingIn 24 rfl) (by decide) ?_
      cases hf
      exact x_ireturn hc (xd dk_N_thingIn 25 rfl)
    · rw [if_neg q5] at hf
      refine x_aload_n hc (xd dk_N_thingIn 6 rfl) rfl rfl ?_
      refine x_get hc (ci := 10) (k := 31) fi_N (c_N hb _) rfl (by decide) rfl xw1174 rfl (xd dk_N_thingIn 7 rfl) ?_
      refine x_iload_n hc (xd dk_N_thingIn 8 rfl) rfl rfl ?_
      by_cases q6 : xin v3 64 = true
      case neg => rw [if_neg q6] at hf; cases hf
      rw [if_pos q6] at hf
      refine x_iald hc (cA (xMd.ar hb 19 (by decide) rfl)) (xin_in q6) (xd dk_N_thingIn 9 rfl) ?_
      refine x_iload_n hc (xd dk_N_thingIn 10 rfl) rfl rfl ?_
      refine x_icmp_ne hc (tgt := 36) (xd dk_N_thingIn 11 rfl) rfl (fun q7 => ?_) (fun q7 => ?_)
      · rw [if_neg q7] at hf
        exact s_N_thingIn_36 hc hR hb ih v3 M hf
      · rw [if_pos q7] at hf
        refine x_aload_n hc (xd dk_N_thingIn 12 rfl) rfl rfl ?_
        refine x_aload_n hc (xd dk_N_thingIn 13 rfl) rfl rfl ?_
        refine x_get hc (ci := 10) (k := 30) fi_N (c_N hb _) rfl (by decide) rfl xw1173 rfl (xd dk_N_thingIn 14 rfl) ?_
        refine x_iload_n hc (xd dk_N_thingIn 15 rfl) rfl rfl ?_
        by_cases q8 : xin v3 64 = true
        case neg => rw [if_neg q8] at hf; cases hf
        rw [if_pos q8] at hf
        refine x_iald hc (cA (xMd.ar hb 18 (by decide) rfl)) (xin_in q8) (xd dk_N_thingIn 16 rfl) ?_
        refine x_iload_n hc (xd dk_N_thingIn 17 rfl) rfl rfl ?_
        obtain ⟨x9, hx9, hf⟩ := xval_ex hf
        rw [← hx9]
        obtain ⟨r10, M, e11, hf⟩ := xbind_some hf
        refine x_callV hc (As := [.int x9, .int p2]) (n := 2) (s_N_alike hb e11) (c_N hb _) rfl (hR.call (by decide) (by decide)) ⟨by decide, by decide, by decide⟩ rfl rfl xw1118 xw18 xw1115 xw1117 xs_N_alike (Nat.le_of_ble_eq_true rfl) ⟨Nat.zero_le _, Nat.zero_le _⟩ (xd dk_N_thingIn 18 rfl) ?_
        refine x_if_eq hc (tgt := 36) (xd dk_N_thingIn 19 rfl) rfl (fun q12 => ?_) (fun q12 => ?_)
        · rw [if_pos q12] at hf
          exact s_N_thingIn_36 hc hR hb ih v3 M hf
        · rw [if_neg q12] at hf
          refine x_iload_n hc (xd dk_N_thingIn 20 rfl) rfl rfl ?_
          cases hf
          exact x_ireturn hc (xd dk_N_thingIn 21 rfl)
set_option maxRecDepth 100000 in
set_option maxHeartbeats 400000 in
theorem s_N_thingIn {l : Launch} {G : xG} {Y : xY} {sz : Nat} {b : Nat} {p1 : Int32} {p2 : Int32}  (hb : xMd Y b) {M M' : xMem} {r : Int32} (hf : f_N_thingIn b p1 p2 M = some (r, M')) : xM l G y_N_thingIn c_N_thingIn 4 (some .int) 1 0 0 [.ref b, .int p1, .int p2] (xo G Y M) sz (some (.int r)) (xo G Y M') sz := by
  unfold f_N_thingIn at hf
  refine xM.of (k := 1) (L0 := [some (.ref b), some (.int p1), some (.int p2), none]) (by decide) (Nat.le_of_ble_eq_true rfl) rfl ?_
  intro p e s m args below meth c hc hnm
  have hR : xRm { frames := 1, cells := 0, slots := 0, locals := 48 * 1 } 1 := ⟨Nat.le_refl _, Nat.le_refl _⟩
  refine x_iconst hc (v := 0) (xd dk_N_thingIn 0 rfl) (by decide) ?_
  refine x_istore_n hc (xd dk_N_thingIn 1 rfl) (by decide) rfl ?_
  exact s_N_thingIn_2 hc hR hb xFuel 0 M hf
def f_N_value_82 (b : Nat) (p1 : Int32) (p2 : Int32) (M : xMem) : Option (Unit × xMem) :=
  (xbind (f_N_push b 6 p1 0 0 M) fun r14 M => xbind (f_N_push b 7 p1 0 0 M) fun r16 M => some ((), M))
def f_N_value_17 (b : Nat) (p1 : Int32) (p2 : Int32) (w1 : Int32) (M : xMem) : Option (Unit × xMem) :=
  (xbind (f_N_wrongs b w1 M) fun r18 M => if M.1 b 4 < 0 then (xbind (f_N_is b 1 M) fun r21 M => if r21 = 0 then (f_N_value_82 b p1 p2 M) else (if xin ((M.1 b 7) + 1) 64 = true then if M.1 (b + 8) ((M.1 b 7) + 1).toNatClampNeg = 14 then (xval (M.1 b 7) fun x26 => xbind (f_N_use b x26 1 M) fun r27 M => xval ((M.1 b 7) + 2) fun x29 => xlet (wI M b 7 x29) fun M => xbind (f_N_push b 5 (p1 + 1) 1 0 M) fun r30 M => some ((), M)) else (f_N_value_82 b p1 p2 M) else none)) else (some ((), M)))
def f_N_value_16 (b : Nat) (p1 : Int32) (p2 : Int32) (M : xMem) : Option (Unit × xMem) :=
  (f_N_value_17 b p1 p2 0 M)
def f_N_value (b : Nat) (p1 : Int32) (p2 : Int32) (M : xMem) : Option (Unit × xMem) :=
  (if p2 = 1 then (if p1 ≤ 12 then (f_N_value_16 b p1 p2 M) else (f_N_value_17 b p1 p2 1 M)) else (f_N_value_16 b p1 p2 M))
set_option maxRecDepth 100000 in
set_option maxHeartbeats 400000 in
theorem s_N_value_82 {p : Program} {l : Launch} {e : Env} {R : Room} {s : State} {m : MethodId} {args : Array Value} {below : List Frame} {meth : Method} {c : Code} {G : xG} {Y : xY} {sz : Nat} {b : Nat} {p1 : Int32} {p2 : Int32}  (hc : xC p s m args meth c G 3 c_N_value y_N_value.cls none) (hR : xRm R 1) (hb : xMd Y b) {M' : xMem} {r : Unit} (M : xMem) (hf : f_N_value_82 b p1 p2 M = some (r, M')) : xW p l e R s m args below meth c G 3 (MQ below (xQc G none (xo G Y M') sz) args s 0 0 (xA G)) (xo G Y M) sz 0 0 82 [some (.ref b), some (.int p1), some (.int p2)] [] := by
  unfold f_N_value_82 at hf
  refine x_aload_n hc (xd dk_N_value 48 rfl) rfl rfl ?_
  refine x_bipush hc (v := 6) (xd dk_N_value 49 rfl) (by decide) ?_
  refine x_iload_n hc (xd dk_N_value 50 rfl) rfl rfl ?_
  refine x_iconst hc (v := 0) (xd dk_N_value 51 rfl) (by decide) ?_
  refine x_iconst hc (v := 0) (xd dk_N_value 52 rfl) (by decide) ?_
  obtain ⟨r14, M, e15, hf⟩ := xbind_some hf
  refine x_callV hc (As := [.int 6, .int p1, .int 0, .int 0]) (n := 4) (s_N_push hb e15) (c_N hb _) rfl (hR.call (by decide) (by decide)) ⟨by decide, by decide, by decide⟩ rfl rfl xw1078 xw18 xw1075 xw1077 xs_N_push (Nat.le_of_ble_eq_true rfl) ⟨Nat.zero_le _, Nat.zero_le _⟩ (xd dk_N_value 53 rfl) ?_
  refine x_aload_n hc (xd dk_N_value 54 rfl) rfl rfl ?_
  refine x_bipush hc (v := 7) (xd dk_N_value 55 rfl) (by decide) ?_
  refine x_iload_n hc (xd dk_N_value 56 rfl) rfl rfl ?_
  refine x_iconst hc (v := 0) (xd dk_N_value 57 rfl) (by decide) ?_
  refine x_iconst hc (v := 0) (xd dk_N_value 58 rfl) (by decide) ?_
  obtain ⟨r16, M, e17, hf⟩ := xbind_some hf
  refine x_callV hc (As := [.int 7, .int p1, .int 0, .int 0]) (n := 4) (s_N_push hb e17) (c_N hb _) rfl (hR.call (by decide) (by decide)) ⟨by decide, by decide, by decide⟩ rfl rfl xw1078 xw18 xw1075 xw1077 xs_N_push (Nat.le_of_ble_eq_true rfl) ⟨Nat.zero_le _, Nat.zero_le _⟩ (xd dk_N_value 59 rfl) ?_
  cases hf
  exact x_return hc (xd dk_N_value 60 rfl)
set_option maxRecDepth 100000 in
set_option maxHeartbeats 400000 in
theorem s_N_value_17 {p : Program} {l : Launch} {e : Env} {R : Room} {s : State} {m : MethodId} {args : Array Value} {below : List Frame} {meth : Method} {c : Code} {G : xG} {Y : xY} {sz : Nat} {b : Nat} {p1 : Int32} {p2 : Int32}  (hc : xC p s m args meth c G 3 c_N_value y_N_value.cls none) (hR : xRm R 1) (hb : xMd Y b) {M' : xMem} {r : Unit} (w1 : Int32) (M : xMem) (hf : f_N_value_17 b p1 p2 w1 M = some (r, M')) : xW p l e R s m args below meth c G 3 (MQ below (xQc G none (xo G Y M') sz) args s 0 0 (xA G)) (xo G Y M) sz 0 0 17 [some (.ref b), some (.int p1), some (.int p2)] [.int w1, .ref b] := by
  unfold f_N_value_17 at hf
  obtain ⟨r18, M, e19, hf⟩ := xbind_some hf
  refine x_callV hc (As := [.int w1]) (n := 1) (s_N_wrongs hb e19) (c_N hb _) rfl (hR.call (by decide) (by decide)) ⟨by decide, by decide, by decide⟩ rfl rfl xw1090 xw18 xw1087 xw1089 xs_N_wrongs (Nat.le_of_ble_eq_true rfl) ⟨Nat.zero_le _, Nat.zero_le _⟩ (xd dk_N_value 10 rfl) ?_
  refine x_aload_n hc (xd dk_N_value 11 rfl) rfl rfl ?_
  refine x_get hc (ci := 10) (k := 4) fi_N (c_N hb _) rfl (by decide) rfl xw1147 rfl (xd dk_N_value 12 rfl) ?_
  refine x_if_lt hc (tgt := 28) (xd dk_N_value 13 rfl) rfl (fun q20 => ?_) (fun q20 => ?_)
  · rw [if_pos q20] at hf
    refine x_aload_n hc (xd dk_N_value 15 rfl) rfl rfl ?_
    refine x_iconst hc (v := 1) (xd dk_N_value 16 rfl) (by decide) ?_
    obtain ⟨r21, M, e22, hf⟩ := xbind_some hf
    refine x_callV hc (As := [.int 1]) (n := 1) (s_N_is hb e22) (c_N hb _) rfl (hR.call (by decide) (by decide)) ⟨by decide, by decide, by decide⟩ rfl rfl xw1082 xw18 xw1079 xw1081 xs_N_is (Nat.le_of_ble_eq_true rfl) ⟨Nat.zero_le _, Nat.zero_le _⟩ (xd dk_N_value 17 rfl) ?_
    refine x_if_eq hc (tgt := 82) (xd dk_N_value 18 rfl) rfl (fun q23 => ?_) (fun q23 => ?_)
    · rw [if_pos q23] at hf
      exact s_N_value_82 hc hR hb M hf
    · rw [if_neg q23] at hf
      refine x_aload_n hc (xd dk_N_value 19 rfl) rfl rfl ?_
      refine x_get hc (ci := 10) (k := 17) fi_N (c_N hb _) rfl (by decide) rfl xw1160 rfl (xd dk_N_value 20 rfl) ?_
      refine x_aload_n hc (xd dk_N_value 21 rfl) rfl rfl ?_
      refine x_get hc (ci := 10) (k := 7) fi_N (c_N hb _) rfl (by decide) rfl xw1150 rfl (xd dk_N_value 22 rfl) ?_
      refine x_iconst hc (v := 1) (xd dk_N_value 23 rfl) (by decide) ?_
      refine x_iadd hc (xd dk_N_value 24 rfl) ?_
      by_cases q24 : xin ((M.1 b 7) + 1) 64 = true
      case neg => rw [if_neg q24] at hf; cases hf
      rw [if_pos q24] at hf
      refine x_iald hc (cA (xMd.ar hb 8 (by decide) rfl)) (xin_in q24) (xd dk_N_value 25 rfl) ?_
      refine x_bipush hc (v := 14) (xd dk_N_value 26 rfl) (by decide) ?_
      refine x_icmp_ne hc (tgt := 82) (xd dk_N_value 27 rfl) rfl (fun q25 => ?_) (fun q25 => ?_)
      · rw [if_neg q25] at hf
        exact s_N_value_82 hc hR hb M hf
      · rw [if_pos q25] at hf
        refine x_aload_n hc (xd dk_N_value 28 rfl) rfl rfl ?_
        refine x_aload_n hc (xd dk_N_value 29 rfl) rfl rfl ?_
        refine x_get hc (ci := 10) (k := 7) fi_N (c_N hb _) rfl (by decide) rfl xw1150 rfl (xd dk_N_value 30 rfl) ?_
        refine x_iconst hc (v := 1) (xd dk_N_value 31 rfl) (by decide) ?_
        obtain ⟨x26, hx26, hf⟩ := xval_ex hf
        rw [← hx26]
        obtain ⟨r27, M, e28, hf⟩ := xbind_some hf
        refine x_callV hc (As := [.int x26, .int 1]) (n := 2) (s_N_use hb e28) (c_N hb _) rfl (hR.call (by decide) (by decide)) ⟨by decide, by decide, by decide⟩ rfl rfl xw1130 xw18 xw1127 xw1129 xs_N_use (Nat.le_of_ble_eq_true rfl) ⟨Nat.zero_le _, Nat.zero_le _⟩ (xd dk_N_value 32 rfl) ?_
        refine x_aload_n hc (xd dk_N_value 33 rfl) rfl rfl ?_
        refine x_dup hc (xd dk_N_value 34 rfl) rfl ?_
        refine x_get hc (ci := 10) (k := 7) fi_N (c_N hb _) rfl (by decide) rfl xw1150 rfl (xd dk_N_value 35 rfl) ?_
        refine x_iconst hc (v := 2) (xd dk_N_value 36 rfl) (by decide) ?_
        refine x_iadd hc (xd dk_N_value 37 rfl) ?_
        obtain ⟨x29, hx29, hf⟩ := xval_ex hf
        rw [← hx29]
        refine x_put hc (ci := 10) (k := 7) fi_N ft_N ft_N_ok fn_N (c_N hb _) rfl (by decide) rfl xw1150 rfl rfl rfl (Nat.le_of_ble_eq_true rfl) (xd dk_N_value 38 rfl) ?_
        rw [w_N_7 hb]
        replace hf := xlet_some hf
        generalize wI M b 7 x29 = M at hf ⊢
        refine x_aload_n hc (xd dk_N_value 39 rfl) rfl rfl ?_
        refine x_iconst hc (v := 5) (xd dk_N_value 40 rfl) (by decide) ?_
        refine x_iload_n hc (xd dk_N_value 41 rfl) rfl rfl ?_
        refine x_iconst hc (v := 1) (xd dk_N_value 42 rfl) (by decide) ?_
        refine x_iadd hc (xd dk_N_value 43 rfl) ?_
        refine x_iconst hc (v := 1) (xd dk_N_value 44 rfl) (by decide) ?_
        refine x_iconst hc (v := 0) (xd dk_N_value 45 rfl) (by decide) ?_
        obtain ⟨r30, M, e31, hf⟩ := xbind_some hf
        refine x_callV hc (As := [.int 5, .int ((p1 + 1)), .int 1, .int 0]) (n := 4) (s_N_push hb e31) (c_N hb _) rfl (hR.call (by decide) (by decide)) ⟨by decide, by decide, by decide⟩ rfl rfl xw1078 xw18 xw1075 xw1077 xs_N_push (Nat.le_of_ble_eq_true rfl) ⟨Nat.zero_le _, Nat.zero_le _⟩ (xd dk_N_value 46 rfl) ?_
        cases hf
        exact x_return hc (xd dk_N_value 47 rfl)
  · rw [if_neg q20] at hf
    cases hf
    exact x_return hc (xd dk_N_value 14 rfl)
set_option maxRecDepth 100000 in
set_option maxHeartbeats 400000 in
theorem s_N_value_16 {p : Program} {l : Launch} {e : Env} {R : Room} {s : State} {m : MethodId} {args : Array Value} {below : List Frame} {meth : Method} {c : Code} {G : xG} {Y : xY} {sz : Nat} {b : Nat} {p1 : Int32} {p2 : Int32}  (hc : xC p s m args meth c G 3 c_N_value y_N_value.cls none) (hR : xRm R 1) (hb : xMd Y b) {M' : xMem} {r : Unit} (M : xMem) (hf : f_N_value_16 b p1 p2 M = some (r, M')) : xW p l e R s m args below meth c G 3 (MQ below (xQc G none (xo G Y M') sz) args s 0 0 (xA G)) (xo G Y M) sz 0 0 16 [some (.ref b), some (.int p1), some (.int p2)] [.ref b] := by
  unfold f_N_value_16 at hf
  refine x_iconst hc (v := 0) (xd dk_N_value 9 rfl) (by decide) ?_
  exact s_N_value_17 hc hR hb 0 M hf
set_option maxRecDepth 100000 in
set_option maxHeartbeats 400000 in
theorem s_N_value {l : Launch} {G : xG} {Y : xY} {sz : Nat} {b : Nat} {p1 : Int32} {p2 : Int32}  (hb : xMd Y b) {M M' : xMem} {r : Unit} (hf : f_N_value b p1 p2 M = some (r, M')) : xM l G y_N_value c_N_value 3 none 1 0 0 [.ref b, .int p1, .int p2] (xo G Y M) sz none (xo G Y M') sz := by
  unfold f_N_value at hf
  refine xM.of (k := 0) (L0 := [some (.ref b), some (.int p1), some (.int p2)]) (by decide) (Nat.le_of_ble_eq_true rfl) rfl ?_
  intro p e s m args below meth c hc hnm
  have hR : xRm { frames := 1, cells := 0, slots := 0, locals := 48 * 1 } 1 := ⟨Nat.le_refl _, Nat.le_refl _⟩
  refine x_aload_n hc (xd dk_N_value 0 rfl) rfl rfl ?_
  refine x_iload_n hc (xd dk_N_value 1 rfl) rfl rfl ?_
  refine x_iconst hc (v := 1) (xd dk_N_value 2 rfl) (by decide) ?_
  refine x_icmp_ne hc (tgt := 16) (xd dk_N_value 3 rfl) rfl (fun q32 => ?_) (fun q32 => ?_)
  · rw [if_neg q32] at hf
    exact s_N_value_16 hc hR hb M hf
  · rw [if_pos q32] at hf
    refine x_iload_n hc (xd dk_N_value 4 rfl) rfl rfl ?_
    refine x_bipush hc (v := 12) (xd dk_N_value 5 rfl) (by decide) ?_
    refine x_icmp_le hc (tgt := 16) (xd dk_N_value 6 rfl) rfl (fun q33 => ?_) (fun q33 => ?_)
    · rw [if_pos q33] at hf
      exact s_N_value_16 hc hR hb M hf
    · rw [if_neg q33] at hf
      refine x_iconst hc (v := 1) (xd dk_N_value 7 rfl) (by decide) ?_
      refine x_goto hc (tgt := 17) (xd dk_N_value 8 rfl) rfl ?_
      exact s_N_value_17 hc hR hb 1 M hf
def f_N_thingAround_2 (b : Nat) (p1 : Int32) (p2 : Int32) : Nat → Int32 → xMem → Option (Int32 × xMem)
  | 0, _, _ => none
  | n + 1, v3, M =>
    (if v3 < 0 then (some ((-1), M)) else (xbind (f_N_thingIn b v3 p2 M) fun r12 M => if r12 < 0 then (if xin v3 64 = true then f_N_thingAround_2 b p1 p2 n (M.1 (b + 15) v3.toNatClampNeg) M else none) else (xbind (f_N_thingIn b v3 p2 M) fun r16 M => some (r16, M))))
def f_N_thingAround (b : Nat) (p1 : Int32) (p2 : Int32) (M : xMem) : Option (Int32 × xMem) :=
  (f_N_thingAround_2 b p1 p2 xFuel p1 M)
set_option maxRecDepth 100000 in
set_option maxHeartbeats 400000 in
theorem s_N_thingAround_2 {p : Program} {l : Launch} {e : Env} {R : Room} {s : State} {m : MethodId} {args : Array Value} {below : List Frame} {meth : Method} {c : Code} {G : xG} {Y : xY} {sz : Nat} {b : Nat} {p1 : Int32} {p2 : Int32}  (hc : xC p s m args meth c G 4 c_N_thingAround y_N_thingAround.cls (some .int)) (hR : xRm R 2) (hb : xMd Y b) {M' : xMem} {r : Int32} : ∀ (n : Nat) (v3 : Int32) (M : xMem), f_N_thingAround_2 b p1 p2 n v3 M = some (r, M') → xW p l e R s m args below meth c G 4 (MQ below (xQc G (some (.int r)) (xo G Y M') sz) args s 0 0 (xA G)) (xo G Y M) sz 0 0 2 [some (.ref b), some (.int p1), some (.int p2), some (.int v3)] [] := by
  intro n
  induction n with
  | zero => intro v3 M hf; simp only [f_N_thingAround_2] at hf; cases hf
  | succ n ih =>
    intro v3 M hf
    simp only [f_N_thingAround_2] at hf
    refine x_iload_n hc (xd dk_N_thingAround 2 rfl) rfl rfl ?_
    refine x_if_lt hc (tgt := 32) (xd dk_N_thingAround 3 rfl) rfl (fun q11 => ?_) (fun q11 => ?_)
    · rw [if_pos q11] at hf
      refine x_iconst hc (v := (-1)) (xd dk_N_thingAround 20 rfl) (by decide) ?_
      cases hf
      exact x_ireturn hc (xd dk_N_thingAround 21 rfl)
    · rw [if_neg q11] at hf
      refine x_aload_n hc (xd dk_N_thingAround 4 rfl) rfl rfl ?_
      refine x_iload_n hc (xd dk_N_thingAround 5 rfl) rfl rfl ?_
      refine x_iload_n hc (xd dk_N_thingAround 6 rfl) rfl rfl ?_
      obtain ⟨r12, M, e13, hf⟩ := xbind_some hf
      refine x_callV hc (As := [.int v3, .int p2]) (n := 2) (s_N_thingIn hb e13) (c_N hb _) rfl (hR.call (by decide) (by decide)) ⟨by decide, by decide, by decide⟩ rfl rfl xw1114 xw18 xw1111 xw1113 xs_N_thingIn (Nat.le_of_ble_eq_true rfl) ⟨Nat.zero_le _, Nat.zero_le _⟩ (xd dk_N_thingAround 7 rfl) ?_
      refine x_if_lt hc (tgt := 22) (xd dk_N_thingAround 8 rfl) rfl (fun q14 => ?_) (fun q14 => ?_)
      · rw [if_pos q14] at hf
        refine x_aload_n hc (xd dk_N_thingAround 14 rfl) rfl rfl ?_
        refine x_get hc (ci := 10) (k := 24) fi_N (c_N hb _) rfl (by decide) rfl xw1167 rfl (xd dk_N_thingAround 15 rfl) ?_
        refine x_iload_n hc (xd dk_N_thingAround 16 rfl) rfl rfl ?_
        by_cases q15 : xin v3 64 = true
        case neg => rw [if_neg q15] at hf; cases hf
        rw [if_pos q15] at hf
        refine x_iald hc (cA (xMd.ar hb 15 (by decide) rfl)) (xin_in q15) (xd dk_N_thingAround 17 rfl) ?_
        refine x_istore_n hc (xd dk_N_thingAround 18 rfl) (by decide) rfl ?_
        refine x_goto hc (tgt := 2) (xd dk_N_thingAround 19 rfl) rfl ?_
        exact ih (M.1 (b + 15) v3.toNatClampNeg) M hf
      · rw [if_neg q14] at hf
        refine x_aload_n hc (xd dk_N_thingAround 9 rfl) rfl rfl ?_
        refine x_iload_n hc (xd dk_N_thingAround 10 rfl) rfl rfl ?_
        refine x_iload_n hc (xd dk_N_thingAround 11 rfl) rfl rfl ?_
        obtain ⟨r16, M, e17, hf⟩ := xbind_some hf
        refine x_callV hc (As := [.int v3, .int p2]) (n := 2) (s_N_thingIn hb e17) (c_N hb _) rfl (hR.call (by decide) (by decide)) ⟨by decide, by decide, by decide⟩ rfl rfl xw1114 xw18 xw1111 xw1113 xs_N_thingIn (Nat.le_of_ble_eq_true rfl) ⟨Nat.zero_le _, Nat.zero_le _⟩ (xd dk_N_thingAround 12 rfl) ?_
        cases hf
        exact x_ireturn hc (xd dk_N_thingAround 13 rfl)
set_option maxRecDepth 100000 in
set_option maxHeartbeats 400000 in
theorem s_N_thingAround {l : Launch} {G : xG} {Y : xY} {sz : Nat} {b : Nat} {p1 : Int32} {p2 : Int32}  (hb : xMd Y b) {M M' : xMem} {r : Int32} (hf : f_N_thingAround b p1 p2 M = some (r, M')) : xM l G y_N_thingAround c_N_thingAround 4 (some .int) 2 0 0 [.ref b, .int p1, .int p2] (xo G Y M) sz (some (.int r)) (xo G Y M') sz := by
  unfold f_N_thingAround at hf
  refine xM.of (k := 1) (L0 := [some (.ref b), some (.int p1), some (.int p2), none]) (by decide) (Nat.le_of_ble_eq_true rfl) rfl ?_
  intro p e s m args below meth c hc hnm
  have hR : xRm { frames := 2, cells := 0, slots := 0, locals := 48 * 2 } 2 := ⟨Nat.le_refl _, Nat.le_refl _⟩
  refine x_iload_n hc (xd dk_N_thingAround 0 rfl) rfl rfl ?_
  refine x_istore_n hc (xd dk_N_thingAround 1 rfl) (by decide) rfl ?_
  exact s_N_thingAround_2 hc hR hb xFuel p1 M hf
def f_N_sizeOf_2 (p0 : Int64) : Nat → Int32 → xMem → Option (Int32 × xMem)
  | 0, _, _ => none
  | n + 1, v2, M =>
    (if 8 ≤ v2 then (some (v2, M)) else (xbind (f_N_octet p0 v2 M) fun r4 M => if r4 = 0 then (some (v2, M)) else (f_N_sizeOf_2 p0 n (v2 + Int32.ofInt 1) M)))
def f_N_sizeOf (p0 : Int64) (M : xMem) : Option (Int32 × xMem) :=
  (f_N_sizeOf_2 p0 xFuel 0 M)
set_option maxRecDepth 100000 in
set_option maxHeartbeats 400000 in
theorem s_N_sizeOf_2 {p : Program} {l : Launch} {e : Env} {R : Room} {s : State} {m : MethodId} {args : Array Value} {below : List Frame} {meth : Method} {c : Code} {G : xG} {Y : xY} {sz : Nat} {p0 : Int64}  (hc : xC p s m args meth c G 3 c_N_sizeOf y_N_sizeOf.cls (some .int)) (hR : xRm R 1)  {M' : xMem} {r : Int32} : ∀ (n : Nat) (v2 : Int32) (M : xMem), f_N_sizeOf_2 p0 n v2 M = some (r, M') → xW p l e R s m args below meth c G 3 (MQ below (xQc G (some (.int r)) (xo G Y M') sz) args s 0 0 (xA G)) (xo G Y M) sz 0 0 2 [some (.long (p0)), none, some (.int v2)] [] := by
  intro n
  induction n with
  | zero => intro v2 M hf; simp only [f_N_sizeOf_2] at hf; cases hf
  | succ n ih =>
    intro v2 M hf
    simp only [f_N_sizeOf_2] at hf
    refine x_iload_n hc (xd dk_N_sizeOf 2 rfl) rfl rfl ?_
    refine x_bipush hc (v := 8) (xd dk_N_sizeOf 3 rfl) (by decide) ?_
    refine x_icmp_ge hc (tgt := 22) (xd dk_N_sizeOf 4 rfl) rfl (fun q3 => ?_) (fun q3 => ?_)
    · rw [if_pos q3] at hf
      refine x_iload_n hc (xd dk_N_sizeOf 11 rfl) rfl rfl ?_
      cases hf
      exact x_ireturn hc (xd dk_N_sizeOf 12 rfl)
    · rw [if_neg q3] at hf
      refine x_lload_n hc (xd dk_N_sizeOf 5 rfl) rfl rfl ?_
      refine x_iload_n hc (xd dk_N_sizeOf 6 rfl) rfl rfl ?_
      obtain ⟨r4, M, e5, hf⟩ := xbind_some hf
      refine x_callS hc (As := [.long (p0), .int v2]) (n := 2) (s_N_octet e5) (hR.call (by decide) (by decide)) ⟨by decide, by decide, by decide⟩ rfl rfl xw1352 xw18 xw1350 xw1351 (Nat.le_of_ble_eq_true rfl) ⟨Nat.zero_le _, Nat.zero_le _⟩ (xd dk_N_sizeOf 7 rfl) ?_
      refine x_if_eq hc (tgt := 22) (xd dk_N_sizeOf 8 rfl) rfl (fun q6 => ?_) (fun q6 => ?_)
      · rw [if_pos q6] at hf
        refine x_iload_n hc (xd dk_N_sizeOf 11 rfl) rfl rfl ?_
        cases hf
        exact x_ireturn hc (xd dk_N_sizeOf 12 rfl)
      · rw [if_neg q6] at hf
        refine x_iinc hc (xd dk_N_sizeOf 9 rfl) rfl (by decide) rfl ?_
        refine x_goto hc (tgt := 2) (xd dk_N_sizeOf 10 rfl) rfl ?_
        exact ih (v2 + Int32.ofInt 1) M hf
set_option maxRecDepth 100000 in
set_option maxHeartbeats 400000 in
theorem s_N_sizeOf {l : Launch} {G : xG} {Y : xY} {sz : Nat} {p0 : Int64}   {M M' : xMem} {r : Int32} (hf : f_N_sizeOf p0 M = some (r, M')) : xM l G y_N_sizeOf c_N_sizeOf 3 (some .int) 1 0 0 [.long (p0)] (xo G Y M) sz (some (.int r)) (xo G Y M') sz := by
  unfold f_N_sizeOf at hf
  refine xM.of (k := 1) (L0 := [some (.long (p0)), none, none]) (by decide) (Nat.le_of_ble_eq_true rfl) rfl ?_
  intro p e s m args below meth c hc hnm
  have hR : xRm { frames := 1, cells := 0, slots := 0, locals := 48 * 1 } 1 := ⟨Nat.le_refl _, Nat.le_refl _⟩
  refine x_iconst hc (v := 0) (xd dk_N_sizeOf 0 rfl) (by decide) ?_
  refine x_istore_n hc (xd dk_N_sizeOf 1 rfl) (by decide) rfl ?_
  exact s_N_sizeOf_2 hc hR xFuel 0 M hf
