/-! the knot of the grammar, and what stands on it (printed by gen/gen.py) -/
def f_P_rec (b : Nat) : Nat → Nat → Int32 → Int32 → Int32 → xMem → Option (Int32 × xMem)
  | 0, _, _, _, _, _ => none
  | n + 1, i, a1, a2, a3, M => match i with
    | 0 => f_P_statements (f_P_rec b n) b a1 M
    | 1 => f_P_statement (f_P_rec b n) b a1 a2 a3 M
    | 2 => f_P_variable (f_P_rec b n) b a1 a2 M
    | 3 => f_P_function (f_P_rec b n) b a1 M
    | 4 => f_P_block (f_P_rec b n) b a1 a2 M
    | 5 => f_P_choice (f_P_rec b n) b a1 M
    | 6 => f_P_condition (f_P_rec b n) b a1 M
    | 7 => f_P_loop (f_P_rec b n) b a1 M
    | 8 => f_P_leave (f_P_rec b n) b a1 M
    | 9 => f_P_excuse (f_P_rec b n) b a1 a2 M
    | 10 => f_P_value (f_P_rec b n) b a1 M
    | 11 => f_P_part (f_P_rec b n) b a1 M
    | 12 => f_P_use (f_P_rec b n) b a1 M
    | 13 => f_P_arguments (f_P_rec b n) b a1 M
    | _ => none
set_option maxRecDepth 100000 in
theorem s_P_rec {l : Launch} {G : xG} {Y : xY} {b sz : Nat} (hb : xRd Y b) : ∀ n : Nat, xGr l G Y b sz (8 + n) (f_P_rec b n) := by
  intro n
  induction n with
  | zero => exact ⟨fun _ _ _ _ _ _ hf => (by cases hf), fun _ _ _ _ _ _ hf => (by cases hf), fun _ _ _ _ _ _ hf => (by cases hf), fun _ _ _ _ _ _ hf => (by cases hf), fun _ _ _ _ _ _ hf => (by cases hf), fun _ _ _ _ _ _ hf => (by cases hf), fun _ _ _ _ _ _ hf => (by cases hf), fun _ _ _ _ _ _ hf => (by cases hf), fun _ _ _ _ _ _ hf => (by cases hf), fun _ _ _ _ _ _ hf => (by cases hf), fun _ _ _ _ _ _ hf => (by cases hf), fun _ _ _ _ _ _ hf => (by cases hf), fun _ _ _ _ _ _ hf => (by cases hf), fun _ _ _ _ _ _ hf => (by cases hf)⟩
  | succ n ih =>
    have hd : 8 ≤ 8 + n := Nat.le_add_right 8 n
    exact ⟨fun a1 a2 a3 M r M' hf => s_P_statements hb hd ih hf, fun a1 a2 a3 M r M' hf => s_P_statement hb hd ih hf, fun a1 a2 a3 M r M' hf => s_P_variable hb hd ih hf, fun a1 a2 a3 M r M' hf => s_P_function hb hd ih hf, fun a1 a2 a3 M r M' hf => s_P_block hb hd ih hf, fun a1 a2 a3 M r M' hf => s_P_choice hb hd ih hf, fun a1 a2 a3 M r M' hf => s_P_condition hb hd ih hf, fun a1 a2 a3 M r M' hf => s_P_loop hb hd ih hf, fun a1 a2 a3 M r M' hf => s_P_leave hb hd ih hf, fun a1 a2 a3 M r M' hf => s_P_excuse hb hd ih hf, fun a1 a2 a3 M r M' hf => s_P_value hb hd ih hf, fun a1 a2 a3 M r M' hf => s_P_part hb hd ih hf, fun a1 a2 a3 M r M' hf => s_P_use hb hd ih hf, fun a1 a2 a3 M r M' hf => s_P_arguments hb hd ih hf⟩

def f_P_program_54 (b : Nat) (w0 : Int32) (M : xMem) : Option (Int32 × xMem) :=
  (if w0 = 0 then (xval (M.1 (b + 29) 4) fun x14 => xbind (f_T_startOf b x14 M) fun r15 M => some (r15, M)) else (some ((-1), M)))
def f_P_program_53 (b : Nat) (M : xMem) : Option (Int32 × xMem) :=
  (f_P_program_54 b 0 M)
def f_P_program (b : Nat) (M : xMem) : Option (Int32 × xMem) :=
  (xbind (f_S_clear b M) fun r17 M => xbind (f_M_clear b M) fun r19 M => xbind (f_B_clear b M) fun r21 M => xlet (wI M (b + 29) 4 0) fun M => xlet (wI M (b + 29) 5 0) fun M => xbind (f_P_rec b 150 0 1 0 0 M) fun r23 M => if r23 = 0 then (f_P_program_53 b M) else (xbind (f_P_next b M) fun r26 M => if r26 < 28 then if r26 = 26 then (f_P_program_54 b 1 M) else (f_P_program_53 b M) else none))
set_option maxRecDepth 100000 in
set_option maxHeartbeats 400000 in
theorem s_P_program_54 {p : Program} {l : Launch} {e : Env} {R : Room} {s : State} {m : MethodId} {args : Array Value} {below : List Frame} {meth : Method} {c : Code} {G : xG} {Y : xY} {sz : Nat} {b : Nat}  (hc : xC p s m args meth c G 2 c_P_program y_P_program.cls (some .int)) (hR : xRm R 159) (hb : xRd Y b) {M' : xMem} {r : Int32} (w0 : Int32) (M : xMem) (hf : f_P_program_54 b w0 M = some (r, M')) : xW p l e R s m args below meth c G 2 (MQ below (xQc G (some (.int r)) (xo G Y M') sz) args s 0 0 (xA G)) (xo G Y M) sz 0 0 54 [some (.ref (b + 29)), none] [.int w0] := by
  unfold f_P_program_54 at hf
  refine x_istore_n hc (xd dk_P_program 26 rfl) (by decide) rfl ?_
  refine x_iload_n hc (xd dk_P_program 27 rfl) rfl rfl ?_
  refine x_if_eq hc (tgt := 63) (xd dk_P_program 28 rfl) rfl (fun q13 => ?_) (fun q13 => ?_)
  · rw [if_pos q13] at hf
    refine x_aload_n hc (xd dk_P_program 31 rfl) rfl rfl ?_
    refine x_get hc (ci := 8) (k := 0) fi_P (c_P hb _) rfl (by decide) rfl xw232 rfl (xd dk_P_program 32 rfl) ?_
    refine x_aload_n hc (xd dk_P_program 33 rfl) rfl rfl ?_
    refine x_get hc (ci := 8) (k := 4) fi_P (c_P hb _) rfl (by decide) rfl xw236 rfl (xd dk_P_program 34 rfl) ?_
    obtain ⟨x14, hx14, hf⟩ := xval_ex hf
    rw [← hx14]
    obtain ⟨r15, M, e16, hf⟩ := xbind_some hf
    refine x_callV hc (As := [.int x14]) (n := 1) (s_T_startOf hb e16) (c_T hb _) rfl (hR.call (by decide) (by decide)) ⟨by decide, by decide, by decide⟩ rfl rfl xw625 xw4 xw636 xw623 xw624 (Nat.le_of_ble_eq_true rfl) ⟨Nat.zero_le _, Nat.zero_le _⟩ (xd dk_P_program 35 rfl) ?_
    cases hf
    exact x_ireturn hc (xd dk_P_program 36 rfl)
  · rw [if_neg q13] at hf
    refine x_iconst hc (v := (-1)) (xd dk_P_program 29 rfl) (by decide) ?_
    refine x_goto hc (tgt := 74) (xd dk_P_program 30 rfl) rfl ?_
    cases hf
    exact x_ireturn hc (xd dk_P_program 36 rfl)
set_option maxRecDepth 100000 in
set_option maxHeartbeats 400000 in
theorem s_P_program_53 {p : Program} {l : Launch} {e : Env} {R : Room} {s : State} {m : MethodId} {args : Array Value} {below : List Frame} {meth : Method} {c : Code} {G : xG} {Y : xY} {sz : Nat} {b : Nat}  (hc : xC p s m args meth c G 2 c_P_program y_P_program.cls (some .int)) (hR : xRm R 159) (hb : xRd Y b) {M' : xMem} {r : Int32} (M : xMem) (hf : f_P_program_53 b M = some (r, M')) : xW p l e R s m args below meth c G 2 (MQ below (xQc G (some (.int r)) (xo G Y M') sz) args s 0 0 (xA G)) (xo G Y M) sz 0 0 53 [some (.ref (b + 29)), none] [] := by
  unfold f_P_program_53 at hf
  refine x_iconst hc (v := 0) (xd dk_P_program 25 rfl) (by decide) ?_
  exact s_P_program_54 hc hR hb 0 M hf
set_option maxRecDepth 100000 in
set_option maxHeartbeats 400000 in
theorem s_P_program {l : Launch} {G : xG} {Y : xY} {sz : Nat} {b : Nat}  (hb : xRd Y b) {M M' : xMem} {r : Int32} (hf : f_P_program b M = some (r, M')) : xM l G y_P_program c_P_program 2 (some .int) 159 0 0 [.ref (b + 29)] (xo G Y M) sz (some (.int r)) (xo G Y M') sz := by
  unfold f_P_program at hf
  refine xM.of (k := 1) (L0 := [some (.ref (b + 29)), none]) (by decide) (Nat.le_of_ble_eq_true rfl) rfl ?_
  intro p e s m args below meth c hc hnm
  have hR : xRm { frames := 159, cells := 0, slots := 0, locals := 48 * 159 } 159 := ⟨Nat.le_refl _, Nat.le_refl _⟩
  refine x_aload_n hc (xd dk_P_program 0 rfl) rfl rfl ?_
  refine x_get hc (ci := 8) (k := 1) fi_P (c_P hb _) rfl (by decide) rfl xw233 rfl (xd dk_P_program 1 rfl) ?_
  obtain ⟨r17, M, e18, hf⟩ := xbind_some hf
  refine x_callV hc (As := []) (n := 0) (s_S_clear hb e18) (c_S hb _) rfl (hR.call (by decide) (by decide)) ⟨by decide, by decide, by decide⟩ rfl rfl xw429 xw5 xw426 xw427 xw428 (Nat.le_of_ble_eq_true rfl) ⟨Nat.zero_le _, Nat.zero_le _⟩ (xd dk_P_program 2 rfl) ?_
  refine x_aload_n hc (xd dk_P_program 3 rfl) rfl rfl ?_
  refine x_get hc (ci := 8) (k := 2) fi_P (c_P hb _) rfl (by decide) rfl xw234 rfl (xd dk_P_program 4 rfl) ?_
  obtain ⟨r19, M, e20, hf⟩ := xbind_some hf
  refine x_callV hc (As := []) (n := 0) (s_M_clear hb e20) (c_M hb _) rfl (hR.call (by decide) (by decide)) ⟨by decide, by decide, by decide⟩ rfl rfl xw433 xw7 xw430 xw431 xw432 (Nat.le_of_ble_eq_true rfl) ⟨Nat.zero_le _, Nat.zero_le _⟩ (xd dk_P_program 5 rfl) ?_
  refine x_aload_n hc (xd dk_P_program 6 rfl) rfl rfl ?_
  refine x_get hc (ci := 8) (k := 3) fi_P (c_P hb _) rfl (by decide) rfl xw235 rfl (xd dk_P_program 7 rfl) ?_
  obtain ⟨r21, M, e22, hf⟩ := xbind_some hf
  refine x_callV hc (As := []) (n := 0) (s_B_clear hb e22) (c_B hb _) rfl (hR.call (by decide) (by decide)) ⟨by decide, by decide, by decide⟩ rfl rfl xw437 xw8 xw434 xw435 xw436 (Nat.le_of_ble_eq_true rfl) ⟨Nat.zero_le _, Nat.zero_le _⟩ (xd dk_P_program 8 rfl) ?_
  refine x_aload_n hc (xd dk_P_program 9 rfl) rfl rfl ?_
  refine x_iconst hc (v := 0) (xd dk_P_program 10 rfl) (by decide) ?_
  refine x_put hc (ci := 8) (k := 4) fi_P ft_P ft_P_ok fn_P (c_P hb _) rfl (by decide) rfl xw236 rfl rfl rfl (Nat.le_of_ble_eq_true rfl) (xd dk_P_program 11 rfl) ?_
  rw [w_P_4 hb]
  replace hf := xlet_some hf
  generalize wI M (b + 29) 4 0 = M at hf ⊢
  refine x_aload_n hc (xd dk_P_program 12 rfl) rfl rfl ?_
  refine x_iconst hc (v := 0) (xd dk_P_program 13 rfl) (by decide) ?_
  refine x_put hc (ci := 8) (k := 5) fi_P ft_P ft_P_ok fn_P (c_P hb _) rfl (by decide) rfl xw237 rfl rfl rfl (Nat.le_of_ble_eq_true rfl) (xd dk_P_program 14 rfl) ?_
  rw [w_P_5 hb]
  replace hf := xlet_some hf
  generalize wI M (b + 29) 5 0 = M at hf ⊢
  refine x_aload_n hc (xd dk_P_program 15 rfl) rfl rfl ?_
  refine x_iconst hc (v := 1) (xd dk_P_program 16 rfl) (by decide) ?_
  obtain ⟨r23, M, e24, hf⟩ := xbind_some hf
  refine x_callV hc (As := [.int 1]) (n := 1) ((s_P_rec hb 150).1 _ _ _ _ _ _ e24) (c_P hb _) rfl (hR.call (by decide) (by decide)) ⟨by decide, by decide, by decide⟩ rfl rfl xw445 xw9 xw442 xw444 xs_P_statements (Nat.le_of_ble_eq_true rfl) ⟨Nat.zero_le _, Nat.zero_le _⟩ (xd dk_P_program 17 rfl) ?_
  refine x_if_eq hc (tgt := 53) (xd dk_P_program 18 rfl) rfl (fun q25 => ?_) (fun q25 => ?_)
  · rw [if_pos q25] at hf
    exact s_P_program_53 hc hR hb M hf
  · rw [if_neg q25] at hf
    refine x_aload_n hc (xd dk_P_program 19 rfl) rfl rfl ?_
    obtain ⟨r26, M, e27, hf⟩ := xbind_some hf
    refine x_callV hc (As := []) (n := 0) (s_P_next hb e27) (c_P hb _) rfl (hR.call (by decide) (by decide)) ⟨by decide, by decide, by decide⟩ rfl rfl xw449 xw9 xw446 xw448 xs_P_next (Nat.le_of_ble_eq_true rfl) ⟨Nat.zero_le _, Nat.zero_le _⟩ (xd dk_P_program 20 rfl) ?_
    by_cases htr26 : r26 < 28
    case neg => rw [if_neg htr26] at hf; cases hf
    rw [if_pos htr26] at hf
    refine x_getsK hc 26 (by decide) xw456 (xd dk_P_program 21 rfl) ?_
    refine x_tok_ne hc htr26 (by decide) (tgt := 53) (xd dk_P_program 22 rfl) rfl (fun q28 => ?_) (fun q28 => ?_)
    · rw [if_neg q28] at hf
      exact s_P_program_53 hc hR hb M hf
    · rw [if_pos q28] at hf
      refine x_iconst hc (v := 1) (xd dk_P_program 23 rfl) (by decide) ?_
      refine x_goto hc (tgt := 54) (xd dk_P_program 24 rfl) rfl ?_
      exact s_P_program_54 hc hR hb 1 M hf
def f_R_study (b : Nat) (M : xMem) : Option (Int32 × xMem) :=
  (xbind (f_T_scan b M) fun r7 M => xbind (f_P_program b M) fun r9 M => if 0 ≤ r9 then (some (r9, M)) else (xbind (f_B_bindAll b M) fun r12 M => some (r9, M)))
set_option maxRecDepth 100000 in
set_option maxHeartbeats 400000 in
theorem s_R_study {l : Launch} {G : xG} {Y : xY} {sz : Nat} {b : Nat}  (hb : xRd Y b) {M M' : xMem} {r : Int32} (hf : f_R_study b M = some (r, M')) : xM l G y_R_study c_R_study 2 (some .int) 160 0 0 [.ref (b + 30)] (xo G Y M) sz (some (.int r)) (xo G Y M') sz := by
  unfold f_R_study at hf
  refine xM.of (k := 1) (L0 := [some (.ref (b + 30)), none]) (by decide) (Nat.le_of_ble_eq_true rfl) rfl ?_
  intro p e s m args below meth c hc hnm
  have hR : xRm { frames := 160, cells := 0, slots := 0, locals := 48 * 160 } 160 := ⟨Nat.le_refl _, Nat.le_refl _⟩
  refine x_aload_n hc (xd dk_R_study 0 rfl) rfl rfl ?_
  refine x_get hc (ci := 9) (k := 1) fi_R (c_R hb _) rfl (by decide) rfl xw259 rfl (xd dk_R_study 1 rfl) ?_
  obtain ⟨r7, M, e8, hf⟩ := xbind_some hf
  refine x_callV hc (As := []) (n := 0) (s_T_scan hb e8) (c_T hb _) rfl (hR.call (by decide) (by decide)) ⟨by decide, by decide, by decide⟩ rfl rfl xw293 xw4 xw290 xw291 xw292 (Nat.le_of_ble_eq_true rfl) ⟨Nat.zero_le _, Nat.zero_le _⟩ (xd dk_R_study 2 rfl) ?_
  refine x_aload_n hc (xd dk_R_study 3 rfl) rfl rfl ?_
  refine x_get hc (ci := 9) (k := 6) fi_R (c_R hb _) rfl (by decide) rfl xw270 rfl (xd dk_R_study 4 rfl) ?_
  obtain ⟨r9, M, e10, hf⟩ := xbind_some hf
  refine x_callV hc (As := []) (n := 0) (s_P_program hb e10) (c_P hb _) rfl (hR.call (by decide) (by decide)) ⟨by decide, by decide, by decide⟩ rfl rfl xw425 xw9 xw422 xw423 xw424 (Nat.le_of_ble_eq_true rfl) ⟨Nat.zero_le _, Nat.zero_le _⟩ (xd dk_R_study 5 rfl) ?_
  refine x_istore_n hc (xd dk_R_study 6 rfl) (by decide) rfl ?_
  refine x_iload_n hc (xd dk_R_study 7 rfl) rfl rfl ?_
  refine x_if_ge hc (tgt := 26) (xd dk_R_study 8 rfl) rfl (fun q11 => ?_) (fun q11 => ?_)
  · rw [if_pos q11] at hf
    refine x_iload_n hc (xd dk_R_study 12 rfl) rfl rfl ?_
    cases hf
    exact x_ireturn hc (xd dk_R_study 13 rfl)
  · rw [if_neg q11] at hf
    refine x_aload_n hc (xd dk_R_study 9 rfl) rfl rfl ?_
    refine x_get hc (ci := 9) (k := 5) fi_R (c_R hb _) rfl (by decide) rfl xw268 rfl (xd dk_R_study 10 rfl) ?_
    obtain ⟨r12, M, e13, hf⟩ := xbind_some hf
    refine x_callV hc (As := []) (n := 0) (s_B_bindAll hb e13) (c_B hb _) rfl (hR.call (by decide) (by decide)) ⟨by decide, by decide, by decide⟩ rfl rfl xw640 xw8 xw637 xw638 xw639 (Nat.le_of_ble_eq_true rfl) ⟨Nat.zero_le _, Nat.zero_le _⟩ (xd dk_R_study 11 rfl) ?_
    refine x_iload_n hc (xd dk_R_study 12 rfl) rfl rfl ?_
    cases hf
    exact x_ireturn hc (xd dk_R_study 13 rfl)
