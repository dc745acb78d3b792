/-! the law's wrappers (printed by gen/run6.py) -/
set_option maxRecDepth 100000 in
theorem xcw_write : Cond.codeWith y_W_write c_W_write 5 (some .int) [(0, 9, 12, 13), (0, 9, 16, 15)] ∈ xWs := xWs_of (lw_T (i := 800) rfl) rfl
set_option maxRecDepth 100000 in
set_option maxHeartbeats 400000 in
theorem w_write_r {l : Launch} {G : xG} {kk bs : Nat → Nat} {o : Nat} {f : Nat → Int64} {sz : Nat} {b : Nat} {p1 : Int64} (hb : xDk (yO G kk bs o f) b) (ho : kk o = 0) {M M' : xMem} {r : Int32} (hf : f_D_write b p1 M = some (.inl r, M')) : xMW l G y_W_write c_W_write 5 (some .int) [(0, 9, 12, 13), (0, 9, 16, 15)] 7 1 6 [.ref b, .long p1, .ref o] (xo G (yO G kk bs o f) M) sz (some (.int 0)) (xo G (yO G kk bs o (vp_updL f 0 r.toInt64)) M') sz := by
  refine xMW.of (k := 1) (L0 := [some (.ref b), some (.long p1), none, some (.ref o), none]) (by decide) (Nat.le_of_ble_eq_true rfl) rfl ?_
  intro p e s m args below meth c hc hT htab
  have hR : xRm { frames := 7, cells := 1, slots := 6, locals := 48 * 7 } 7 := ⟨Nat.le_refl _, Nat.le_refl _⟩
  refine x_aload_n hc (xd dk_W_write 0 rfl) rfl rfl ?_
  refine x_iconst hc (v := 0) (xd dk_W_write 1 rfl) (by decide) ?_
  refine x_aload_n hc (xd dk_W_write 2 rfl) rfl rfl ?_
  refine x_lload_n hc (xd dk_W_write 3 rfl) rfl rfl ?_
  refine x_callV hc (As := [.long p1]) (n := 1) (s_D_write hb hf) (c_D hb _) rfl (hR.call (by decide) (by decide)) ⟨by decide, by decide, by decide⟩ rfl rfl xw806 xw1 xw803 xw804 xw805 (Nat.le_of_ble_eq_true rfl) ⟨Nat.zero_le _, Nat.zero_le _⟩ (xd dk_W_write 4 rfl) ?_
  refine x_i2l hc (xd dk_W_write 5 rfl) rfl ?_
  refine x_last hc (cO ho) (xin_in (by decide)) (xd dk_W_write 6 rfl) ?_
  rw [wO ho]
  refine x_goto hc (tgt := 20) (xd dk_W_write 7 rfl) rfl ?_
  refine x_iconst hc (v := 0) (xd dk_W_write 14 rfl) (by decide) ?_
  exact x_widen (by decide) (by decide) (x_ireturn hc (xd dk_W_write 15 rfl))
set_option maxRecDepth 100000 in
set_option maxHeartbeats 400000 in
theorem w_write_t {l : Launch} {G : xG} {kk bs : Nat → Nat} {o : Nat} {f : Nat → Int64} {sz : Nat} {b : Nat} {p1 : Int64} (hb : xDk (yO G kk bs o f) b) (ho : kk o = 0) (hl : xNT l) {M M' : xMem} {er : Nat} {v : Int32} (hf : f_D_write b p1 M = some (.inr er, M')) (hv : v = nI ((fun e => if e = 0 then 1 else 2) er)) : xMW l G y_W_write c_W_write 5 (some .int) [(0, 9, 12, 13), (0, 9, 16, 15)] 7 1 6 [.ref b, .long p1, .ref o] (xo G (yO G kk bs o f) M) sz (some (.int v)) (xo G (yO G kk bs o f) M') (sz + 1) := by
  refine xMW.of (k := 1) (L0 := [some (.ref b), some (.long p1), none, some (.ref o), none]) (by decide) (Nat.le_of_ble_eq_true rfl) rfl ?_
  intro p e s m args below meth c hc hT htab
  have hR : xRm { frames := 7, cells := 1, slots := 6, locals := 48 * 7 } 7 := ⟨Nat.le_refl _, Nat.le_refl _⟩
  refine x_aload_n hc (xd dk_W_write 0 rfl) rfl rfl ?_
  refine x_iconst hc (v := 0) (xd dk_W_write 1 rfl) (by decide) ?_
  refine x_aload_n hc (xd dk_W_write 2 rfl) rfl rfl ?_
  refine x_lload_n hc (xd dk_W_write 3 rfl) rfl rfl ?_
  have hE := e_D_write _ _ hf
  rcases hE with rfl | rfl
  · have hv : v = 1 := hv.trans (by decide)
    subst hv
    refine x_callT hc hT (As := [.long p1]) (n := 1) (tgt := 12) (t_D_write hb hl hf) (c_D hb _) rfl (hR.call (by decide) (by decide)) ⟨by decide, by decide, by decide⟩ rfl rfl xw806 xw1 xw803 xw804 xw805 (Nat.le_of_ble_eq_true rfl) ⟨by decide, by decide⟩ (xd dk_W_write 4 rfl) htab ⟨⟨by decide, by decide, by decide⟩, .inl ⟨rfl, xw801, by decide +kernel⟩⟩ fun ax => ?_
    refine x_astore hc (xd dk_W_write 8 rfl) (by decide) rfl ?_
    refine x_iconst hc (v := 1) (xd dk_W_write 9 rfl) (by decide) ?_
    exact x_ireturn hc (xd dk_W_write 10 rfl)
  · have hv : v = 2 := hv.trans (by decide)
    subst hv
    refine x_callT hc hT (As := [.long p1]) (n := 1) (tgt := 16) (t_D_write hb hl hf) (c_D hb _) rfl (hR.call (by decide) (by decide)) ⟨by decide, by decide, by decide⟩ rfl rfl xw806 xw1 xw803 xw804 xw805 (Nat.le_of_ble_eq_true rfl) ⟨by decide, by decide⟩ (xd dk_W_write 4 rfl) htab ⟨⟨by decide, by decide, by decide⟩, .inr ⟨_, xw801, by decide +kernel, ⟨⟨by decide, by decide, by decide⟩, .inl ⟨rfl, xw802, by decide +kernel⟩⟩⟩⟩ fun ax => ?_
    refine x_astore hc (xd dk_W_write 11 rfl) (by decide) rfl ?_
    refine x_iconst hc (v := 2) (xd dk_W_write 12 rfl) (by decide) ?_
    exact x_ireturn hc (xd dk_W_write 13 rfl)
set_option maxRecDepth 100000 in
theorem xcw_read : Cond.codeWith y_W_read c_W_read 3 (some .int) [(0, 8, 11, 13)] ∈ xWs := xWs_of (lw_T (i := 902) rfl) rfl
set_option maxRecDepth 100000 in
set_option maxHeartbeats 400000 in
theorem w_read_r {l : Launch} {G : xG} {kk bs : Nat → Nat} {o : Nat} {f : Nat → Int64} {sz : Nat} {b : Nat}  (hb : xDk (yO G kk bs o f) b) (ho : kk o = 0) {M M' : xMem} {r : Int32} (hf : f_D_read b M = some (.inl r, M')) : xMW l G y_W_read c_W_read 3 (some .int) [(0, 8, 11, 13)] 162 1 6 [.ref b, .ref o] (xo G (yO G kk bs o f) M) sz (some (.int 0)) (xo G (yO G kk bs o (vp_updL f 0 r.toInt64)) M') sz := by
  refine xMW.of (k := 1) (L0 := [some (.ref b), some (.ref o), none]) (by decide) (Nat.le_of_ble_eq_true rfl) rfl ?_
  intro p e s m args below meth c hc hT htab
  have hR : xRm { frames := 162, cells := 1, slots := 6, locals := 48 * 162 } 162 := ⟨Nat.le_refl _, Nat.le_refl _⟩
  refine x_aload_n hc (xd dk_W_read 0 rfl) rfl rfl ?_
  refine x_iconst hc (v := 0) (xd dk_W_read 1 rfl) (by decide) ?_
  refine x_aload_n hc (xd dk_W_read 2 rfl) rfl rfl ?_
  refine x_callV hc (As := []) (n := 0) (s_D_read hb hf) (c_D hb _) rfl (hR.call (by decide) (by decide)) ⟨by decide, by decide, by decide⟩ rfl rfl xw906 xw1 xw903 xw904 xw905 (Nat.le_of_ble_eq_true rfl) ⟨Nat.zero_le _, Nat.zero_le _⟩ (xd dk_W_read 3 rfl) ?_
  refine x_i2l hc (xd dk_W_read 4 rfl) rfl ?_
  refine x_last hc (cO ho) (xin_in (by decide)) (xd dk_W_read 5 rfl) ?_
  rw [wO ho]
  refine x_goto hc (tgt := 14) (xd dk_W_read 6 rfl) rfl ?_
  refine x_iconst hc (v := 0) (xd dk_W_read 10 rfl) (by decide) ?_
  exact x_widen (by decide) (by decide) (x_ireturn hc (xd dk_W_read 11 rfl))
set_option maxRecDepth 100000 in
set_option maxHeartbeats 400000 in
theorem w_read_t {l : Launch} {G : xG} {kk bs : Nat → Nat} {o : Nat} {f : Nat → Int64} {sz : Nat} {b : Nat}  (hb : xDk (yO G kk bs o f) b) (ho : kk o = 0) (hl : xNT l) {M M' : xMem} {er : Nat} {v : Int32} (hf : f_D_read b M = some (.inr er, M')) (hv : v = nI ((fun e => 1) er)) : xMW l G y_W_read c_W_read 3 (some .int) [(0, 8, 11, 13)] 162 1 6 [.ref b, .ref o] (xo G (yO G kk bs o f) M) sz (some (.int v)) (xo G (yO G kk bs o f) M') (sz + 1) := by
  refine xMW.of (k := 1) (L0 := [some (.ref b), some (.ref o), none]) (by decide) (Nat.le_of_ble_eq_true rfl) rfl ?_
  intro p e s m args below meth c hc hT htab
  have hR : xRm { frames := 162, cells := 1, slots := 6, locals := 48 * 162 } 162 := ⟨Nat.le_refl _, Nat.le_refl _⟩
  refine x_aload_n hc (xd dk_W_read 0 rfl) rfl rfl ?_
  refine x_iconst hc (v := 0) (xd dk_W_read 1 rfl) (by decide) ?_
  refine x_aload_n hc (xd dk_W_read 2 rfl) rfl rfl ?_
  have hE := e_D_read _ _ hf
  cases hE
  have hv : v = 1 := hv.trans (by decide)
  subst hv
  refine x_callT hc hT (As := []) (n := 0) (tgt := 11) (t_D_read hb hl hf) (c_D hb _) rfl (hR.call (by decide) (by decide)) ⟨by decide, by decide, by decide⟩ rfl rfl xw906 xw1 xw903 xw904 xw905 (Nat.le_of_ble_eq_true rfl) ⟨by decide, by decide⟩ (xd dk_W_read 3 rfl) htab ⟨⟨by decide, by decide, by decide⟩, .inl ⟨rfl, xw801, by decide +kernel⟩⟩ fun ax => ?_
  refine x_astore_n hc (xd dk_W_read 7 rfl) (by decide) rfl ?_
  refine x_iconst hc (v := 1) (xd dk_W_read 8 rfl) (by decide) ?_
  exact x_ireturn hc (xd dk_W_read 9 rfl)
set_option maxRecDepth 100000 in
theorem xcw_rule : Cond.codeWith y_W_rule c_W_rule 5 (some .int) [(0, 17, 20, 13)] ∈ xWs := xWs_of (lw_T (i := 920) rfl) rfl
set_option maxRecDepth 100000 in
set_option maxHeartbeats 400000 in
theorem w_rule_r {l : Launch} {G : xG} {kk bs : Nat → Nat} {o : Nat} {f : Nat → Int64} {sz : Nat} {b : Nat} {p1 : Int32} {p2 : Int32} (hb : xDk (yO G kk bs o f) b) (ho : kk o = 0) {M M' : xMem} {r : Int32} (hf : f_D_rule b p1 p2 M = some (.inl r, M')) : xMW l G y_W_rule c_W_rule 5 (some .int) [(0, 17, 20, 13)] 7 1 6 [.ref b, .int p1, .int p2, .ref o] (xo G (yO G kk bs o f) M) sz (some (.int 0)) (xo G (yO G kk bs o (vp_updL f 0 (if r = 0 then 0 else 1))) M') sz := by
  refine xMW.of (k := 1) (L0 := [some (.ref b), some (.int p1), some (.int p2), some (.ref o), none]) (by decide) (Nat.le_of_ble_eq_true rfl) rfl ?_
  intro p e s m args below meth c hc hT htab
  have hR : xRm { frames := 7, cells := 1, slots := 6, locals := 48 * 7 } 7 := ⟨Nat.le_refl _, Nat.le_refl _⟩
  refine x_aload_n hc (xd dk_W_rule 0 rfl) rfl rfl ?_
  refine x_iconst hc (v := 0) (xd dk_W_rule 1 rfl) (by decide) ?_
  refine x_aload_n hc (xd dk_W_rule 2 rfl) rfl rfl ?_
  refine x_iload_n hc (xd dk_W_rule 3 rfl) rfl rfl ?_
  refine x_iload_n hc (xd dk_W_rule 4 rfl) rfl rfl ?_
  refine x_callV hc (As := [.int p1, .int p2]) (n := 2) (s_D_rule hb hf) (c_D hb _) rfl (hR.call (by decide) (by decide)) ⟨by decide, by decide, by decide⟩ rfl rfl xw924 xw1 xw921 xw922 xw923 (Nat.le_of_ble_eq_true rfl) ⟨Nat.zero_le _, Nat.zero_le _⟩ (xd dk_W_rule 5 rfl) ?_
  refine x_if_eq hc (tgt := 15) (xd dk_W_rule 6 rfl) rfl (fun q => ?_) (fun q => ?_)
  · rw [if_pos q]
    refine x_lconst hc (v := 0) (xd dk_W_rule 9 rfl) (by decide) ?_
    refine x_last hc (cO ho) (xin_in (by decide)) (xd dk_W_rule 10 rfl) ?_
    rw [wO ho]
    refine x_goto hc (tgt := 24) (xd dk_W_rule 11 rfl) rfl ?_
    refine x_iconst hc (v := 0) (xd dk_W_rule 15 rfl) (by decide) ?_
    exact x_widen (by decide) (by decide) (x_ireturn hc (xd dk_W_rule 16 rfl))
  · rw [if_neg q]
    refine x_lconst hc (v := 1) (xd dk_W_rule 7 rfl) (by decide) ?_
    refine x_goto hc (tgt := 16) (xd dk_W_rule 8 rfl) rfl ?_
    refine x_last hc (cO ho) (xin_in (by decide)) (xd dk_W_rule 10 rfl) ?_
    rw [wO ho]
    refine x_goto hc (tgt := 24) (xd dk_W_rule 11 rfl) rfl ?_
    refine x_iconst hc (v := 0) (xd dk_W_rule 15 rfl) (by decide) ?_
    exact x_widen (by decide) (by decide) (x_ireturn hc (xd dk_W_rule 16 rfl))
set_option maxRecDepth 100000 in
set_option maxHeartbeats 400000 in
theorem w_rule_t {l : Launch} {G : xG} {kk bs : Nat → Nat} {o : Nat} {f : Nat → Int64} {sz : Nat} {b : Nat} {p1 : Int32} {p2 : Int32} (hb : xDk (yO G kk bs o f) b) (ho : kk o = 0) (hl : xNT l) {M M' : xMem} {er : Nat} {v : Int32} (hf : f_D_rule b p1 p2 M = some (.inr er, M')) (hv : v = nI ((fun e => 1) er)) : xMW l G y_W_rule c_W_rule 5 (some .int) [(0, 17, 20, 13)] 7 1 6 [.ref b, .int p1, .int p2, .ref o] (xo G (yO G kk bs o f) M) sz (some (.int v)) (xo G (yO G kk bs o f) M') (sz + 1) := by
  refine xMW.of (k := 1) (L0 := [some (.ref b), some (.int p1), some (.int p2), some (.ref o), none]) (by decide) (Nat.le_of_ble_eq_true rfl) rfl ?_
  intro p e s m args below meth c hc hT htab
  have hR : xRm { frames := 7, cells := 1, slots := 6, locals := 48 * 7 } 7 := ⟨Nat.le_refl _, Nat.le_refl _⟩
  refine x_aload_n hc (xd dk_W_rule 0 rfl) rfl rfl ?_
  refine x_iconst hc (v := 0) (xd dk_W_rule 1 rfl) (by decide) ?_
  refine x_aload_n hc (xd dk_W_rule 2 rfl) rfl rfl ?_
  refine x_iload_n hc (xd dk_W_rule 3 rfl) rfl rfl ?_
  refine x_iload_n hc (xd dk_W_rule 4 rfl) rfl rfl ?_
  have hE := e_D_rule _ _ hf
  cases hE
  have hv : v = 1 := hv.trans (by decide)
  subst hv
  refine x_callT hc hT (As := [.int p1, .int p2]) (n := 2) (tgt := 20) (t_D_rule hb hl hf) (c_D hb _) rfl (hR.call (by decide) (by decide)) ⟨by decide, by decide, by decide⟩ rfl rfl xw924 xw1 xw921 xw922 xw923 (Nat.le_of_ble_eq_true rfl) ⟨by decide, by decide⟩ (xd dk_W_rule 5 rfl) htab ⟨⟨by decide, by decide, by decide⟩, .inl ⟨rfl, xw801, by decide +kernel⟩⟩ fun ax => ?_
  refine x_astore hc (xd dk_W_rule 12 rfl) (by decide) rfl ?_
  refine x_iconst hc (v := 1) (xd dk_W_rule 13 rfl) (by decide) ?_
  exact x_ireturn hc (xd dk_W_rule 14 rfl)
set_option maxRecDepth 100000 in
theorem xcw_give : Cond.codeWith y_W_give c_W_give 5 (some .int) [(0, 9, 12, 13), (0, 9, 16, 28), (0, 9, 20, 15)] ∈ xWs := xWs_of (lw_T (i := 936) rfl) rfl
set_option maxRecDepth 100000 in
set_option maxHeartbeats 400000 in
theorem w_give_r {l : Launch} {G : xG} {kk bs : Nat → Nat} {o : Nat} {f : Nat → Int64} {sz : Nat} {b : Nat} {p1 : Int64} (hb : xDk (yO G kk bs o f) b) (ho : kk o = 0) {M M' : xMem} {r : Int32} (hf : f_D_give b p1 M = some (.inl r, M')) : xMW l G y_W_give c_W_give 5 (some .int) [(0, 9, 12, 13), (0, 9, 16, 28), (0, 9, 20, 15)] 7 1 6 [.ref b, .long p1, .ref o] (xo G (yO G kk bs o f) M) sz (some (.int 0)) (xo G (yO G kk bs o (vp_updL f 0 r.toInt64)) M') sz := by
  refine xMW.of (k := 1) (L0 := [some (.ref b), some (.long p1), none, some (.ref o), none]) (by decide) (Nat.le_of_ble_eq_true rfl) rfl ?_
  intro p e s m args below meth c hc hT htab
  have hR : xRm { frames := 7, cells := 1, slots := 6, locals := 48 * 7 } 7 := ⟨Nat.le_refl _, Nat.le_refl _⟩
  refine x_aload_n hc (xd dk_W_give 0 rfl) rfl rfl ?_
  refine x_iconst hc (v := 0) (xd dk_W_give 1 rfl) (by decide) ?_
  refine x_aload_n hc (xd dk_W_give 2 rfl) rfl rfl ?_
  refine x_lload_n hc (xd dk_W_give 3 rfl) rfl rfl ?_
  refine x_callV hc (As := [.long p1]) (n := 1) (s_D_give hb hf) (c_D hb _) rfl (hR.call (by decide) (by decide)) ⟨by decide, by decide, by decide⟩ rfl rfl xw941 xw1 xw938 xw939 xw940 (Nat.le_of_ble_eq_true rfl) ⟨Nat.zero_le _, Nat.zero_le _⟩ (xd dk_W_give 4 rfl) ?_
  refine x_i2l hc (xd dk_W_give 5 rfl) rfl ?_
  refine x_last hc (cO ho) (xin_in (by decide)) (xd dk_W_give 6 rfl) ?_
  rw [wO ho]
  refine x_goto hc (tgt := 24) (xd dk_W_give 7 rfl) rfl ?_
  refine x_iconst hc (v := 0) (xd dk_W_give 17 rfl) (by decide) ?_
  exact x_widen (by decide) (by decide) (x_ireturn hc (xd dk_W_give 18 rfl))
set_option maxRecDepth 100000 in
set_option maxHeartbeats 400000 in
theorem w_give_t {l : Launch} {G : xG} {kk bs : Nat → Nat} {o : Nat} {f : Nat → Int64} {sz : Nat} {b : Nat} {p1 : Int64} (hb : xDk (yO G kk bs o f) b) (ho : kk o = 0) (hl : xNT l) {M M' : xMem} {er : Nat} {v : Int32} (hf : f_D_give b p1 M = some (.inr er, M')) (hv : v = nI ((fun e => e + 1) er)) : xMW l G y_W_give c_W_give 5 (some .int) [(0, 9, 12, 13), (0, 9, 16, 28), (0, 9, 20, 15)] 7 1 6 [.ref b, .long p1, .ref o] (xo G (yO G kk bs o f) M) sz (some (.int v)) (xo G (yO G kk bs o f) M') (sz + 1) := by
  refine xMW.of (k := 1) (L0 := [some (.ref b), some (.long p1), none, some (.ref o), none]) (by decide) (Nat.le_of_ble_eq_true rfl) rfl ?_
  intro p e s m args below meth c hc hT htab
  have hR : xRm { frames := 7, cells := 1, slots := 6, locals := 48 * 7 } 7 := ⟨Nat.le_refl _, Nat.le_refl _⟩
  refine x_aload_n hc (xd dk_W_give 0 rfl) rfl rfl ?_
  refine x_iconst hc (v := 0) (xd dk_W_give 1 rfl) (by decide) ?_
  refine x_aload_n hc (xd dk_W_give 2 rfl) rfl rfl ?_
  refine x_lload_n hc (xd dk_W_give 3 rfl) rfl rfl ?_
  have hE := e_D_give _ _ hf
  rcases hE with rfl | rfl | rfl
  · have hv : v = 1 := hv.trans (by decide)
    subst hv
    refine x_callT hc hT (As := [.long p1]) (n := 1) (tgt := 12) (t_D_give hb hl hf) (c_D hb _) rfl (hR.call (by decide) (by decide)) ⟨by decide, by decide, by decide⟩ rfl rfl xw941 xw1 xw938 xw939 xw940 (Nat.le_of_ble_eq_true rfl) ⟨by decide, by decide⟩ (xd dk_W_give 4 rfl) htab ⟨⟨by decide, by decide, by decide⟩, .inl ⟨rfl, xw801, by decide +kernel⟩⟩ fun ax => ?_
    refine x_astore hc (xd dk_W_give 8 rfl) (by decide) rfl ?_
    refine x_iconst hc (v := 1) (xd dk_W_give 9 rfl) (by decide) ?_
    exact x_ireturn hc (xd dk_W_give 10 rfl)
  · have hv : v = 2 := hv.trans (by decide)
    subst hv
    refine x_callT hc hT (As := [.long p1]) (n := 1) (tgt := 16) (t_D_give hb hl hf) (c_D hb _) rfl (hR.call (by decide) (by decide)) ⟨by decide, by decide, by decide⟩ rfl rfl xw941 xw1 xw938 xw939 xw940 (Nat.le_of_ble_eq_true rfl) ⟨by decide, by decide⟩ (xd dk_W_give 4 rfl) htab ⟨⟨by decide, by decide, by decide⟩, .inr ⟨_, xw801, by decide +kernel, ⟨⟨by decide, by decide, by decide⟩, .inl ⟨rfl, xw937, by decide +kernel⟩⟩⟩⟩ fun ax => ?_
    refine x_astore hc (xd dk_W_give 11 rfl) (by decide) rfl ?_
    refine x_iconst hc (v := 2) (xd dk_W_give 12 rfl) (by decide) ?_
    exact x_ireturn hc (xd dk_W_give 13 rfl)
  · have hv : v = 3 := hv.trans (by decide)
    subst hv
    refine x_callT hc hT (As := [.long p1]) (n := 1) (tgt := 20) (t_D_give hb hl hf) (c_D hb _) rfl (hR.call (by decide) (by decide)) ⟨by decide, by decide, by decide⟩ rfl rfl xw941 xw1 xw938 xw939 xw940 (Nat.le_of_ble_eq_true rfl) ⟨by decide, by decide⟩ (xd dk_W_give 4 rfl) htab ⟨⟨by decide, by decide, by decide⟩, .inr ⟨_, xw801, by decide +kernel, ⟨⟨by decide, by decide, by decide⟩, .inr ⟨_, xw937, by decide +kernel, ⟨⟨by decide, by decide, by decide⟩, .inl ⟨rfl, xw802, by decide +kernel⟩⟩⟩⟩⟩⟩ fun ax => ?_
    refine x_astore hc (xd dk_W_give 14 rfl) (by decide) rfl ?_
    refine x_iconst hc (v := 3) (xd dk_W_give 15 rfl) (by decide) ?_
    exact x_ireturn hc (xd dk_W_give 16 rfl)
set_option maxRecDepth 100000 in
theorem xcw_found : Cond.codeWith y_W_found c_W_found 4 (some .int) [(0, 9, 12, 15)] ∈ xWs := xWs_of (lw_T (i := 976) rfl) rfl
set_option maxRecDepth 100000 in
set_option maxHeartbeats 400000 in
theorem w_found_r {l : Launch} {G : xG} {kk bs : Nat → Nat} {o : Nat} {f : Nat → Int64} {sz : Nat} {b : Nat} {p1 : Int32} (hb : xDk (yO G kk bs o f) b) (ho : kk o = 0) {M M' : xMem} {r : Int32} (hf : f_D_found b p1 M = some (.inl r, M')) : xMW l G y_W_found c_W_found 4 (some .int) [(0, 9, 12, 15)] 7 1 6 [.ref b, .int p1, .ref o] (xo G (yO G kk bs o f) M) sz (some (.int 0)) (xo G (yO G kk bs o (vp_updL f 0 r.toInt64)) M') sz := by
  refine xMW.of (k := 1) (L0 := [some (.ref b), some (.int p1), some (.ref o), none]) (by decide) (Nat.le_of_ble_eq_true rfl) rfl ?_
  intro p e s m args below meth c hc hT htab
  have hR : xRm { frames := 7, cells := 1, slots := 6, locals := 48 * 7 } 7 := ⟨Nat.le_refl _, Nat.le_refl _⟩
  refine x_aload_n hc (xd dk_W_found 0 rfl) rfl rfl ?_
  refine x_iconst hc (v := 0) (xd dk_W_found 1 rfl) (by decide) ?_
  refine x_aload_n hc (xd dk_W_found 2 rfl) rfl rfl ?_
  refine x_iload_n hc (xd dk_W_found 3 rfl) rfl rfl ?_
  refine x_callV hc (As := [.int p1]) (n := 1) (s_D_found hb hf) (c_D hb _) rfl (hR.call (by decide) (by decide)) ⟨by decide, by decide, by decide⟩ rfl rfl xw980 xw1 xw977 xw978 xw979 (Nat.le_of_ble_eq_true rfl) ⟨Nat.zero_le _, Nat.zero_le _⟩ (xd dk_W_found 4 rfl) ?_
  refine x_i2l hc (xd dk_W_found 5 rfl) rfl ?_
  refine x_last hc (cO ho) (xin_in (by decide)) (xd dk_W_found 6 rfl) ?_
  rw [wO ho]
  refine x_goto hc (tgt := 15) (xd dk_W_found 7 rfl) rfl ?_
  refine x_iconst hc (v := 0) (xd dk_W_found 11 rfl) (by decide) ?_
  exact x_widen (by decide) (by decide) (x_ireturn hc (xd dk_W_found 12 rfl))
set_option maxRecDepth 100000 in
set_option maxHeartbeats 400000 in
theorem w_found_t {l : Launch} {G : xG} {kk bs : Nat → Nat} {o : Nat} {f : Nat → Int64} {sz : Nat} {b : Nat} {p1 : Int32} (hb : xDk (yO G kk bs o f) b) (ho : kk o = 0) (hl : xNT l) {M M' : xMem} {er : Nat} {v : Int32} (hf : f_D_found b p1 M = some (.inr er, M')) (hv : v = nI ((fun e => 1) er)) : xMW l G y_W_found c_W_found 4 (some .int) [(0, 9, 12, 15)] 7 1 6 [.ref b, .int p1, .ref o] (xo G (yO G kk bs o f) M) sz (some (.int v)) (xo G (yO G kk bs o f) M') (sz + 1) := by
  refine xMW.of (k := 1) (L0 := [some (.ref b), some (.int p1), some (.ref o), none]) (by decide) (Nat.le_of_ble_eq_true rfl) rfl ?_
  intro p e s m args below meth c hc hT htab
  have hR : xRm { frames := 7, cells := 1, slots := 6, locals := 48 * 7 } 7 := ⟨Nat.le_refl _, Nat.le_refl _⟩
  refine x_aload_n hc (xd dk_W_found 0 rfl) rfl rfl ?_
  refine x_iconst hc (v := 0) (xd dk_W_found 1 rfl) (by decide) ?_
  refine x_aload_n hc (xd dk_W_found 2 rfl) rfl rfl ?_
  refine x_iload_n hc (xd dk_W_found 3 rfl) rfl rfl ?_
  have hE := e_D_found _ _ hf
  cases hE
  have hv : v = 1 := hv.trans (by decide)
  subst hv
  refine x_callT hc hT (As := [.int p1]) (n := 1) (tgt := 12) (t_D_found hb hl hf) (c_D hb _) rfl (hR.call (by decide) (by decide)) ⟨by decide, by decide, by decide⟩ rfl rfl xw980 xw1 xw977 xw978 xw979 (Nat.le_of_ble_eq_true rfl) ⟨by decide, by decide⟩ (xd dk_W_found 4 rfl) htab ⟨⟨by decide, by decide, by decide⟩, .inl ⟨rfl, xw802, by decide +kernel⟩⟩ fun ax => ?_
  refine x_astore_n hc (xd dk_W_found 8 rfl) (by decide) rfl ?_
  refine x_iconst hc (v := 1) (xd dk_W_found 9 rfl) (by decide) ?_
  exact x_ireturn hc (xd dk_W_found 10 rfl)
set_option maxRecDepth 100000 in
theorem xcw_place : Cond.codeWith y_W_place c_W_place 4 (some .int) [(0, 9, 12, 15)] ∈ xWs := xWs_of (lw_T (i := 988) rfl) rfl
set_option maxRecDepth 100000 in
set_option maxHeartbeats 400000 in
theorem w_place_r {l : Launch} {G : xG} {kk bs : Nat → Nat} {o : Nat} {f : Nat → Int64} {sz : Nat} {b : Nat} {p1 : Int32} (hb : xDk (yO G kk bs o f) b) (ho : kk o = 0) {M M' : xMem} {r : Int32} (hf : f_D_place b p1 M = some (.inl r, M')) : xMW l G y_W_place c_W_place 4 (some .int) [(0, 9, 12, 15)] 7 1 6 [.ref b, .int p1, .ref o] (xo G (yO G kk bs o f) M) sz (some (.int 0)) (xo G (yO G kk bs o (vp_updL f 0 r.toInt64)) M') sz := by
  refine xMW.of (k := 1) (L0 := [some (.ref b), some (.int p1), some (.ref o), none]) (by decide) (Nat.le_of_ble_eq_true rfl) rfl ?_
  intro p e s m args below meth c hc hT htab
  have hR : xRm { frames := 7, cells := 1, slots := 6, locals := 48 * 7 } 7 := ⟨Nat.le_refl _, Nat.le_refl _⟩
  refine x_aload_n hc (xd dk_W_place 0 rfl) rfl rfl ?_
  refine x_iconst hc (v := 0) (xd dk_W_place 1 rfl) (by decide) ?_
  refine x_aload_n hc (xd dk_W_place 2 rfl) rfl rfl ?_
  refine x_iload_n hc (xd dk_W_place 3 rfl) rfl rfl ?_
  refine x_callV hc (As := [.int p1]) (n := 1) (s_D_place hb hf) (c_D hb _) rfl (hR.call (by decide) (by decide)) ⟨by decide, by decide, by decide⟩ rfl rfl xw992 xw1 xw989 xw990 xw991 (Nat.le_of_ble_eq_true rfl) ⟨Nat.zero_le _, Nat.zero_le _⟩ (xd dk_W_place 4 rfl) ?_
  refine x_i2l hc (xd dk_W_place 5 rfl) rfl ?_
  refine x_last hc (cO ho) (xin_in (by decide)) (xd dk_W_place 6 rfl) ?_
  rw [wO ho]
  refine x_goto hc (tgt := 15) (xd dk_W_place 7 rfl) rfl ?_
  refine x_iconst hc (v := 0) (xd dk_W_place 11 rfl) (by decide) ?_
  exact x_widen (by decide) (by decide) (x_ireturn hc (xd dk_W_place 12 rfl))
set_option maxRecDepth 100000 in
set_option maxHeartbeats 400000 in
theorem w_place_t {l : Launch} {G : xG} {kk bs : Nat → Nat} {o : Nat} {f : Nat → Int64} {sz : Nat} {b : Nat} {p1 : Int32} (hb : xDk (yO G kk bs o f) b) (ho : kk o = 0) (hl : xNT l) {M M' : xMem} {er : Nat} {v : Int32} (hf : f_D_place b p1 M = some (.inr er, M')) (hv : v = nI ((fun e => 1) er)) : xMW l G y_W_place c_W_place 4 (some .int) [(0, 9, 12, 15)] 7 1 6 [.ref b, .int p1, .ref o] (xo G (yO G kk bs o f) M) sz (some (.int v)) (xo G (yO G kk bs o f) M') (sz + 1) := by
  refine xMW.of (k := 1) (L0 := [some (.ref b), some (.int p1), some (.ref o), none]) (by decide) (Nat.le_of_ble_eq_true rfl) rfl ?_
  intro p e s m args below meth c hc hT htab
  have hR : xRm { frames := 7, cells := 1, slots := 6, locals := 48 * 7 } 7 := ⟨Nat.le_refl _, Nat.le_refl _⟩
  refine x_aload_n hc (xd dk_W_place 0 rfl) rfl rfl ?_
  refine x_iconst hc (v := 0) (xd dk_W_place 1 rfl) (by decide) ?_
  refine x_aload_n hc (xd dk_W_place 2 rfl) rfl rfl ?_
  refine x_iload_n hc (xd dk_W_place 3 rfl) rfl rfl ?_
  have hE := e_D_place _ _ hf
  cases hE
  have hv : v = 1 := hv.trans (by decide)
  subst hv
  refine x_callT hc hT (As := [.int p1]) (n := 1) (tgt := 12) (t_D_place hb hl hf) (c_D hb _) rfl (hR.call (by decide) (by decide)) ⟨by decide, by decide, by decide⟩ rfl rfl xw992 xw1 xw989 xw990 xw991 (Nat.le_of_ble_eq_true rfl) ⟨by decide, by decide⟩ (xd dk_W_place 4 rfl) htab ⟨⟨by decide, by decide, by decide⟩, .inl ⟨rfl, xw802, by decide +kernel⟩⟩ fun ax => ?_
  refine x_astore_n hc (xd dk_W_place 8 rfl) (by decide) rfl ?_
  refine x_iconst hc (v := 1) (xd dk_W_place 9 rfl) (by decide) ?_
  exact x_ireturn hc (xd dk_W_place 10 rfl)
set_option maxRecDepth 100000 in
theorem xcw_letter : Cond.codeWith y_W_letter c_W_letter 4 (some .int) [(0, 9, 12, 15)] ∈ xWs := xWs_of (lw_T (i := 995) rfl) rfl
set_option maxRecDepth 100000 in
set_option maxHeartbeats 400000 in
theorem w_letter_r {l : Launch} {G : xG} {kk bs : Nat → Nat} {o : Nat} {f : Nat → Int64} {sz : Nat} {b : Nat} {p1 : Int32} (hb : xDk (yO G kk bs o f) b) (ho : kk o = 0) {M M' : xMem} {r : Int32} (hf : f_D_letter b p1 M = some (.inl r, M')) : xMW l G y_W_letter c_W_letter 4 (some .int) [(0, 9, 12, 15)] 7 1 6 [.ref b, .int p1, .ref o] (xo G (yO G kk bs o f) M) sz (some (.int 0)) (xo G (yO G kk bs o (vp_updL f 0 r.toInt64)) M') sz := by
  refine xMW.of (k := 1) (L0 := [some (.ref b), some (.int p1), some (.ref o), none]) (by decide) (Nat.le_of_ble_eq_true rfl) rfl ?_
  intro p e s m args below meth c hc hT htab
  have hR : xRm { frames := 7, cells := 1, slots := 6, locals := 48 * 7 } 7 := ⟨Nat.le_refl _, Nat.le_refl _⟩
  refine x_aload_n hc (xd dk_W_letter 0 rfl) rfl rfl ?_
  refine x_iconst hc (v := 0) (xd dk_W_letter 1 rfl) (by decide) ?_
  refine x_aload_n hc (xd dk_W_letter 2 rfl) rfl rfl ?_
  refine x_iload_n hc (xd dk_W_letter 3 rfl) rfl rfl ?_
  refine x_callV hc (As := [.int p1]) (n := 1) (s_D_letter hb hf) (c_D hb _) rfl (hR.call (by decide) (by decide)) ⟨by decide, by decide, by decide⟩ rfl rfl xw999 xw1 xw996 xw997 xw998 (Nat.le_of_ble_eq_true rfl) ⟨Nat.zero_le _, Nat.zero_le _⟩ (xd dk_W_letter 4 rfl) ?_
  refine x_i2l hc (xd dk_W_letter 5 rfl) rfl ?_
  refine x_last hc (cO ho) (xin_in (by decide)) (xd dk_W_letter 6 rfl) ?_
  rw [wO ho]
  refine x_goto hc (tgt := 15) (xd dk_W_letter 7 rfl) rfl ?_
  refine x_iconst hc (v := 0) (xd dk_W_letter 11 rfl) (by decide) ?_
  exact x_widen (by decide) (by decide) (x_ireturn hc (xd dk_W_letter 12 rfl))
set_option maxRecDepth 100000 in
set_option maxHeartbeats 400000 in
theorem w_letter_t {l : Launch} {G : xG} {kk bs : Nat → Nat} {o : Nat} {f : Nat → Int64} {sz : Nat} {b : Nat} {p1 : Int32} (hb : xDk (yO G kk bs o f) b) (ho : kk o = 0) (hl : xNT l) {M M' : xMem} {er : Nat} {v : Int32} (hf : f_D_letter b p1 M = some (.inr er, M')) (hv : v = nI ((fun e => 1) er)) : xMW l G y_W_letter c_W_letter 4 (some .int) [(0, 9, 12, 15)] 7 1 6 [.ref b, .int p1, .ref o] (xo G (yO G kk bs o f) M) sz (some (.int v)) (xo G (yO G kk bs o f) M') (sz + 1) := by
  refine xMW.of (k := 1) (L0 := [some (.ref b), some (.int p1), some (.ref o), none]) (by decide) (Nat.le_of_ble_eq_true rfl) rfl ?_
  intro p e s m args below meth c hc hT htab
  have hR : xRm { frames := 7, cells := 1, slots := 6, locals := 48 * 7 } 7 := ⟨Nat.le_refl _, Nat.le_refl _⟩
  refine x_aload_n hc (xd dk_W_letter 0 rfl) rfl rfl ?_
  refine x_iconst hc (v := 0) (xd dk_W_letter 1 rfl) (by decide) ?_
  refine x_aload_n hc (xd dk_W_letter 2 rfl) rfl rfl ?_
  refine x_iload_n hc (xd dk_W_letter 3 rfl) rfl rfl ?_
  have hE := e_D_letter _ _ hf
  cases hE
  have hv : v = 1 := hv.trans (by decide)
  subst hv
  refine x_callT hc hT (As := [.int p1]) (n := 1) (tgt := 12) (t_D_letter hb hl hf) (c_D hb _) rfl (hR.call (by decide) (by decide)) ⟨by decide, by decide, by decide⟩ rfl rfl xw999 xw1 xw996 xw997 xw998 (Nat.le_of_ble_eq_true rfl) ⟨by decide, by decide⟩ (xd dk_W_letter 4 rfl) htab ⟨⟨by decide, by decide, by decide⟩, .inl ⟨rfl, xw802, by decide +kernel⟩⟩ fun ax => ?_
  refine x_astore_n hc (xd dk_W_letter 8 rfl) (by decide) rfl ?_
  refine x_iconst hc (v := 1) (xd dk_W_letter 9 rfl) (by decide) ?_
  exact x_ireturn hc (xd dk_W_letter 10 rfl)
set_option maxRecDepth 100000 in
theorem xcw_declared : Cond.codeWith y_W_declared c_W_declared 5 (some .int) [(0, 10, 13, 15), (0, 10, 17, 13)] ∈ xWs := xWs_of (lw_T (i := 1004) rfl) rfl
set_option maxRecDepth 100000 in
set_option maxHeartbeats 400000 in
theorem w_declared_r {l : Launch} {G : xG} {kk bs : Nat → Nat} {o : Nat} {f : Nat → Int64} {sz : Nat} {b : Nat} {p1 : Int32} {p2 : Int32} (hb : xDk (yO G kk bs o f) b) (ho : kk o = 0) {M M' : xMem} {r : Int32} (hf : f_D_declared b p1 p2 M = some (.inl r, M')) : xMW l G y_W_declared c_W_declared 5 (some .int) [(0, 10, 13, 15), (0, 10, 17, 13)] 7 1 6 [.ref b, .int p1, .int p2, .ref o] (xo G (yO G kk bs o f) M) sz (some (.int 0)) (xo G (yO G kk bs o (vp_updL f 0 r.toInt64)) M') sz := by
  refine xMW.of (k := 1) (L0 := [some (.ref b), some (.int p1), some (.int p2), some (.ref o), none]) (by decide) (Nat.le_of_ble_eq_true rfl) rfl ?_
  intro p e s m args below meth c hc hT htab
  have hR : xRm { frames := 7, cells := 1, slots := 6, locals := 48 * 7 } 7 := ⟨Nat.le_refl _, Nat.le_refl _⟩
  refine x_aload_n hc (xd dk_W_declared 0 rfl) rfl rfl ?_
  refine x_iconst hc (v := 0) (xd dk_W_declared 1 rfl) (by decide) ?_
  refine x_aload_n hc (xd dk_W_declared 2 rfl) rfl rfl ?_
  refine x_iload_n hc (xd dk_W_declared 3 rfl) rfl rfl ?_
  refine x_iload_n hc (xd dk_W_declared 4 rfl) rfl rfl ?_
  refine x_callV hc (As := [.int p1, .int p2]) (n := 2) (s_D_declared hb hf) (c_D hb _) rfl (hR.call (by decide) (by decide)) ⟨by decide, by decide, by decide⟩ rfl rfl xw1008 xw1 xw1005 xw1006 xw1007 (Nat.le_of_ble_eq_true rfl) ⟨Nat.zero_le _, Nat.zero_le _⟩ (xd dk_W_declared 5 rfl) ?_
  refine x_i2l hc (xd dk_W_declared 6 rfl) rfl ?_
  refine x_last hc (cO ho) (xin_in (by decide)) (xd dk_W_declared 7 rfl) ?_
  rw [wO ho]
  refine x_goto hc (tgt := 21) (xd dk_W_declared 8 rfl) rfl ?_
  refine x_iconst hc (v := 0) (xd dk_W_declared 15 rfl) (by decide) ?_
  exact x_widen (by decide) (by decide) (x_ireturn hc (xd dk_W_declared 16 rfl))
set_option maxRecDepth 100000 in
set_option maxHeartbeats 400000 in
theorem w_declared_t {l : Launch} {G : xG} {kk bs : Nat → Nat} {o : Nat} {f : Nat → Int64} {sz : Nat} {b : Nat} {p1 : Int32} {p2 : Int32} (hb : xDk (yO G kk bs o f) b) (ho : kk o = 0) (hl : xNT l) {M M' : xMem} {er : Nat} {v : Int32} (hf : f_D_declared b p1 p2 M = some (.inr er, M')) (hv : v = nI ((fun e => if e = 0 then 2 else 1) er)) : xMW l G y_W_declared c_W_declared 5 (some .int) [(0, 10, 13, 15), (0, 10, 17, 13)] 7 1 6 [.ref b, .int p1, .int p2, .ref o] (xo G (yO G kk bs o f) M) sz (some (.int v)) (xo G (yO G kk bs o f) M') (sz + 1) := by
  refine xMW.of (k := 1) (L0 := [some (.ref b), some (.int p1), some (.int p2), some (.ref o), none]) (by decide) (Nat.le_of_ble_eq_true rfl) rfl ?_
  intro p e s m args below meth c hc hT htab
  have hR : xRm { frames := 7, cells := 1, slots := 6, locals := 48 * 7 } 7 := ⟨Nat.le_refl _, Nat.le_refl _⟩
  refine x_aload_n hc (xd dk_W_declared 0 rfl) rfl rfl ?_
  refine x_iconst hc (v := 0) (xd dk_W_declared 1 rfl) (by decide) ?_
  refine x_aload_n hc (xd dk_W_declared 2 rfl) rfl rfl ?_
  refine x_iload_n hc (xd dk_W_declared 3 rfl) rfl rfl ?_
  refine x_iload_n hc (xd dk_W_declared 4 rfl) rfl rfl ?_
  have hE := e_D_declared _ _ hf
  rcases hE with rfl | rfl
  · have hv : v = 2 := hv.trans (by decide)
    subst hv
    refine x_callT hc hT (As := [.int p1, .int p2]) (n := 2) (tgt := 17) (t_D_declared hb hl hf) (c_D hb _) rfl (hR.call (by decide) (by decide)) ⟨by decide, by decide, by decide⟩ rfl rfl xw1008 xw1 xw1005 xw1006 xw1007 (Nat.le_of_ble_eq_true rfl) ⟨by decide, by decide⟩ (xd dk_W_declared 5 rfl) htab ⟨⟨by decide, by decide, by decide⟩, .inr ⟨_, xw802, by decide +kernel, ⟨⟨by decide, by decide, by decide⟩, .inl ⟨rfl, xw801, by decide +kernel⟩⟩⟩⟩ fun ax => ?_
    refine x_astore hc (xd dk_W_declared 12 rfl) (by decide) rfl ?_
    refine x_iconst hc (v := 2) (xd dk_W_declared 13 rfl) (by decide) ?_
    exact x_ireturn hc (xd dk_W_declared 14 rfl)
  · have hv : v = 1 := hv.trans (by decide)
    subst hv
    refine x_callT hc hT (As := [.int p1, .int p2]) (n := 2) (tgt := 13) (t_D_declared hb hl hf) (c_D hb _) rfl (hR.call (by decide) (by decide)) ⟨by decide, by decide, by decide⟩ rfl rfl xw1008 xw1 xw1005 xw1006 xw1007 (Nat.le_of_ble_eq_true rfl) ⟨by decide, by decide⟩ (xd dk_W_declared 5 rfl) htab ⟨⟨by decide, by decide, by decide⟩, .inl ⟨rfl, xw802, by decide +kernel⟩⟩ fun ax => ?_
    refine x_astore hc (xd dk_W_declared 9 rfl) (by decide) rfl ?_
    refine x_iconst hc (v := 1) (xd dk_W_declared 10 rfl) (by decide) ?_
    exact x_ireturn hc (xd dk_W_declared 11 rfl)
set_option maxRecDepth 100000 in
theorem xcw_count : Cond.codeWith y_W_count c_W_count 4 (some .int) [(0, 9, 12, 13)] ∈ xWs := xWs_of (lw_T (i := 1014) rfl) rfl
set_option maxRecDepth 100000 in
set_option maxHeartbeats 400000 in
theorem w_count_r {l : Launch} {G : xG} {kk bs : Nat → Nat} {o : Nat} {f : Nat → Int64} {sz : Nat} {b : Nat} {p1 : Int32} (hb : xDk (yO G kk bs o f) b) (ho : kk o = 0) {M M' : xMem} {r : Int32} (hf : f_D_count b p1 M = some (.inl r, M')) : xMW l G y_W_count c_W_count 4 (some .int) [(0, 9, 12, 13)] 7 1 6 [.ref b, .int p1, .ref o] (xo G (yO G kk bs o f) M) sz (some (.int 0)) (xo G (yO G kk bs o (vp_updL f 0 r.toInt64)) M') sz := by
  refine xMW.of (k := 1) (L0 := [some (.ref b), some (.int p1), some (.ref o), none]) (by decide) (Nat.le_of_ble_eq_true rfl) rfl ?_
  intro p e s m args below meth c hc hT htab
  have hR : xRm { frames := 7, cells := 1, slots := 6, locals := 48 * 7 } 7 := ⟨Nat.le_refl _, Nat.le_refl _⟩
  refine x_aload_n hc (xd dk_W_count 0 rfl) rfl rfl ?_
  refine x_iconst hc (v := 0) (xd dk_W_count 1 rfl) (by decide) ?_
  refine x_aload_n hc (xd dk_W_count 2 rfl) rfl rfl ?_
  refine x_iload_n hc (xd dk_W_count 3 rfl) rfl rfl ?_
  refine x_callV hc (As := [.int p1]) (n := 1) (s_D_count hb hf) (c_D hb _) rfl (hR.call (by decide) (by decide)) ⟨by decide, by decide, by decide⟩ rfl rfl xw1018 xw1 xw1015 xw1016 xw1017 (Nat.le_of_ble_eq_true rfl) ⟨Nat.zero_le _, Nat.zero_le _⟩ (xd dk_W_count 4 rfl) ?_
  refine x_i2l hc (xd dk_W_count 5 rfl) rfl ?_
  refine x_last hc (cO ho) (xin_in (by decide)) (xd dk_W_count 6 rfl) ?_
  rw [wO ho]
  refine x_goto hc (tgt := 15) (xd dk_W_count 7 rfl) rfl ?_
  refine x_iconst hc (v := 0) (xd dk_W_count 11 rfl) (by decide) ?_
  exact x_widen (by decide) (by decide) (x_ireturn hc (xd dk_W_count 12 rfl))
set_option maxRecDepth 100000 in
set_option maxHeartbeats 400000 in
theorem w_count_t {l : Launch} {G : xG} {kk bs : Nat → Nat} {o : Nat} {f : Nat → Int64} {sz : Nat} {b : Nat} {p1 : Int32} (hb : xDk (yO G kk bs o f) b) (ho : kk o = 0) (hl : xNT l) {M M' : xMem} {er : Nat} {v : Int32} (hf : f_D_count b p1 M = some (.inr er, M')) (hv : v = nI ((fun e => 1) er)) : xMW l G y_W_count c_W_count 4 (some .int) [(0, 9, 12, 13)] 7 1 6 [.ref b, .int p1, .ref o] (xo G (yO G kk bs o f) M) sz (some (.int v)) (xo G (yO G kk bs o f) M') (sz + 1) := by
  refine xMW.of (k := 1) (L0 := [some (.ref b), some (.int p1), some (.ref o), none]) (by decide) (Nat.le_of_ble_eq_true rfl) rfl ?_
  intro p e s m args below meth c hc hT htab
  have hR : xRm { frames := 7, cells := 1, slots := 6, locals := 48 * 7 } 7 := ⟨Nat.le_refl _, Nat.le_refl _⟩
  refine x_aload_n hc (xd dk_W_count 0 rfl) rfl rfl ?_
  refine x_iconst hc (v := 0) (xd dk_W_count 1 rfl) (by decide) ?_
  refine x_aload_n hc (xd dk_W_count 2 rfl) rfl rfl ?_
  refine x_iload_n hc (xd dk_W_count 3 rfl) rfl rfl ?_
  have hE := e_D_count _ _ hf
  cases hE
  have hv : v = 1 := hv.trans (by decide)
  subst hv
  refine x_callT hc hT (As := [.int p1]) (n := 1) (tgt := 12) (t_D_count hb hl hf) (c_D hb _) rfl (hR.call (by decide) (by decide)) ⟨by decide, by decide, by decide⟩ rfl rfl xw1018 xw1 xw1015 xw1016 xw1017 (Nat.le_of_ble_eq_true rfl) ⟨by decide, by decide⟩ (xd dk_W_count 4 rfl) htab ⟨⟨by decide, by decide, by decide⟩, .inl ⟨rfl, xw801, by decide +kernel⟩⟩ fun ax => ?_
  refine x_astore_n hc (xd dk_W_count 8 rfl) (by decide) rfl ?_
  refine x_iconst hc (v := 1) (xd dk_W_count 9 rfl) (by decide) ?_
  exact x_ireturn hc (xd dk_W_count 10 rfl)
