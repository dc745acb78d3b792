/-! the grammar: methods that call one another; rc stands for their calls (printed by gen/gen.py) -/
def xGr (l : Launch) (G : xG) (Y : xY) (b sz d : Nat) (rc : Nat → Int32 → Int32 → Int32 → xMem → Option (Int32 × xMem)) : Prop :=
  (∀ (a1 a2 a3 : Int32) (M : xMem) (r : Int32) (M' : xMem), rc 0 a1 a2 a3 M = some (r, M') → xM l G y_P_statements c_P_statements 5 (some .boolean) d 0 0 [.ref (b + 29), .int a1] (xo G Y M) sz (some (.int r)) (xo G Y M') sz) ∧
  (∀ (a1 a2 a3 : Int32) (M : xMem) (r : Int32) (M' : xMem), rc 1 a1 a2 a3 M = some (r, M') → xM l G y_P_statement c_P_statement 4 (some .boolean) d 0 0 [.ref (b + 29), .int a1, .int a2, .int a3] (xo G Y M) sz (some (.int r)) (xo G Y M') sz) ∧
  (∀ (a1 a2 a3 : Int32) (M : xMem) (r : Int32) (M' : xMem), rc 2 a1 a2 a3 M = some (r, M') → xM l G y_P_variable c_P_variable 6 (some .boolean) d 0 0 [.ref (b + 29), .int a1, .int a2] (xo G Y M) sz (some (.int r)) (xo G Y M') sz) ∧
  (∀ (a1 a2 a3 : Int32) (M : xMem) (r : Int32) (M' : xMem), rc 3 a1 a2 a3 M = some (r, M') → xM l G y_P_function c_P_function 5 (some .boolean) d 0 0 [.ref (b + 29), .int a1] (xo G Y M) sz (some (.int r)) (xo G Y M') sz) ∧
  (∀ (a1 a2 a3 : Int32) (M : xMem) (r : Int32) (M' : xMem), rc 4 a1 a2 a3 M = some (r, M') → xM l G y_P_block c_P_block 6 (some .boolean) d 0 0 [.ref (b + 29), .int a1, .int a2] (xo G Y M) sz (some (.int r)) (xo G Y M') sz) ∧
  (∀ (a1 a2 a3 : Int32) (M : xMem) (r : Int32) (M' : xMem), rc 5 a1 a2 a3 M = some (r, M') → xM l G y_P_choice c_P_choice 2 (some .boolean) d 0 0 [.ref (b + 29), .int a1] (xo G Y M) sz (some (.int r)) (xo G Y M') sz) ∧
  (∀ (a1 a2 a3 : Int32) (M : xMem) (r : Int32) (M' : xMem), rc 6 a1 a2 a3 M = some (r, M') → xM l G y_P_condition c_P_condition 2 (some .boolean) d 0 0 [.ref (b + 29), .int a1] (xo G Y M) sz (some (.int r)) (xo G Y M') sz) ∧
  (∀ (a1 a2 a3 : Int32) (M : xMem) (r : Int32) (M' : xMem), rc 7 a1 a2 a3 M = some (r, M') → xM l G y_P_loop c_P_loop 2 (some .boolean) d 0 0 [.ref (b + 29), .int a1] (xo G Y M) sz (some (.int r)) (xo G Y M') sz) ∧
  (∀ (a1 a2 a3 : Int32) (M : xMem) (r : Int32) (M' : xMem), rc 8 a1 a2 a3 M = some (r, M') → xM l G y_P_leave c_P_leave 2 (some .boolean) d 0 0 [.ref (b + 29), .int a1] (xo G Y M) sz (some (.int r)) (xo G Y M') sz) ∧
  (∀ (a1 a2 a3 : Int32) (M : xMem) (r : Int32) (M' : xMem), rc 9 a1 a2 a3 M = some (r, M') → xM l G y_P_excuse c_P_excuse 5 (some .boolean) d 0 0 [.ref (b + 29), .int a1, .int a2] (xo G Y M) sz (some (.int r)) (xo G Y M') sz) ∧
  (∀ (a1 a2 a3 : Int32) (M : xMem) (r : Int32) (M' : xMem), rc 10 a1 a2 a3 M = some (r, M') → xM l G y_P_value c_P_value 3 (some .boolean) d 0 0 [.ref (b + 29), .int a1] (xo G Y M) sz (some (.int r)) (xo G Y M') sz) ∧
  (∀ (a1 a2 a3 : Int32) (M : xMem) (r : Int32) (M' : xMem), rc 11 a1 a2 a3 M = some (r, M') → xM l G y_P_part c_P_part 2 (some .boolean) d 0 0 [.ref (b + 29), .int a1] (xo G Y M) sz (some (.int r)) (xo G Y M') sz) ∧
  (∀ (a1 a2 a3 : Int32) (M : xMem) (r : Int32) (M' : xMem), rc 12 a1 a2 a3 M = some (r, M') → xM l G y_P_use c_P_use 2 (some .boolean) d 0 0 [.ref (b + 29), .int a1] (xo G Y M) sz (some (.int r)) (xo G Y M') sz) ∧
  (∀ (a1 a2 a3 : Int32) (M : xMem) (r : Int32) (M' : xMem), rc 13 a1 a2 a3 M = some (r, M') → xM l G y_P_arguments c_P_arguments 3 (some .boolean) d 0 0 [.ref (b + 29), .int a1] (xo G Y M) sz (some (.int r)) (xo G Y M') sz)

def f_P_statements_91 (rc : Nat → Int32 → Int32 → Int32 → xMem → Option (Int32 × xMem)) (b : Nat) (p1 : Int32) (k4 : Int32 → Int32 → xMem → Option (Int32 × xMem)) (v2 : Int32) (v3 : Int32) (v4 : Int32) (w0 : Int32) (M : xMem) : Option (Int32 × xMem) :=
  (k4 w0 (v3 + Int32.ofInt 1) M)
def f_P_statements_59 (rc : Nat → Int32 → Int32 → Int32 → xMem → Option (Int32 × xMem)) (b : Nat) (p1 : Int32) (k4 : Int32 → Int32 → xMem → Option (Int32 × xMem)) (v2 : Int32) (v3 : Int32) (v4 : Int32) (M : xMem) : Option (Int32 × xMem) :=
  (xbind (rc 1 p1 1 1 M) fun r16 M => if r16 = 0 then (some (0, M)) else (xbind (f_T_kindOf b v4 M) fun r19 M => if r19 < 28 then if r19 = 7 then (f_P_statements_91 rc b p1 k4 v2 v3 v4 1 M) else (f_P_statements_91 rc b p1 k4 v2 v3 v4 0 M) else none))
def f_P_statements_4 (rc : Nat → Int32 → Int32 → Int32 → xMem → Option (Int32 × xMem)) (b : Nat) (p1 : Int32) : Nat → Int32 → Int32 → xMem → Option (Int32 × xMem)
  | 0, _, _, _ => none
  | n + 1, v2, v3, M =>
    (if 60 < v3 then (some (0, M)) else (xbind (f_P_next b M) fun r23 M => if r23 < 28 then if r23 = 19 then (some (1, M)) else (xbind (f_P_next b M) fun r26 M => if r26 < 28 then if r26 = 26 then (some (1, M)) else (xval (M.1 (b + 29) 4) fun x29 => xbind (f_T_behindExcuses b x29 M) fun r30 M => if v2 = 0 then (f_P_statements_59 rc b p1 (f_P_statements_4 rc b p1 n) v2 v3 r30 M) else (xbind (f_M_add b r30 5 M) fun r33 M => f_P_statements_59 rc b p1 (f_P_statements_4 rc b p1 n) v2 v3 r30 M)) else none) else none))
def f_P_statements (rc : Nat → Int32 → Int32 → Int32 → xMem → Option (Int32 × xMem)) (b : Nat) (p1 : Int32) (M : xMem) : Option (Int32 × xMem) :=
  (f_P_statements_4 rc b p1 xFuel 0 0 M)
set_option maxRecDepth 100000 in
set_option maxHeartbeats 400000 in
theorem s_P_statements_91 {p : Program} {l : Launch} {e : Env} {R : Room} {s : State} {m : MethodId} {args : Array Value} {below : List Frame} {meth : Method} {c : Code} {G : xG} {Y : xY} {sz : Nat} {rc : Nat → Int32 → Int32 → Int32 → xMem → Option (Int32 × xMem)} {b : Nat} {p1 : Int32} {d : Nat} (hc : xC p s m args meth c G 5 c_P_statements y_P_statements.cls (some .boolean)) (hR : xRm R (d + 1)) (hb : xRd Y b) (hd : 8 ≤ d) (hrc : xGr l G Y b sz d rc) {k4 : Int32 → Int32 → xMem → Option (Int32 × xMem)} {M' : xMem} {r : Int32} (hk4 : ∀ (v2 : Int32) (v3 : Int32) (M : xMem), k4 v2 v3 M = some (r, M') → xW p l e R s m args below meth c G 5 (MQ below (xQc G (some (.int r)) (xo G Y M') sz) args s 0 0 (xA G)) (xo G Y M) sz 0 0 4 [some (.ref (b + 29)), some (.int p1), some (.int v2), some (.int v3), none] []) (v2 : Int32) (v3 : Int32) (v4 : Int32) (w0 : Int32) (M : xMem) (hf : f_P_statements_91 rc b p1 k4 v2 v3 v4 w0 M = some (r, M')) : xW p l e R s m args below meth c G 5 (MQ below (xQc G (some (.int r)) (xo G Y M') sz) args s 0 0 (xA G)) (xo G Y M) sz 0 0 91 [some (.ref (b + 29)), some (.int p1), some (.int v2), some (.int v3), some (.int v4)] [.int w0] := by
  unfold f_P_statements_91 at hf
  refine x_istore_n hc (xd dk_P_statements 47 rfl) (by decide) rfl ?_
  refine x_iinc hc (xd dk_P_statements 48 rfl) rfl (by decide) rfl ?_
  refine x_goto hc (tgt := 4) (xd dk_P_statements 49 rfl) rfl ?_
  refine x_drop 4 ?_
  exact hk4 w0 (v3 + Int32.ofInt 1) M hf
set_option maxRecDepth 100000 in
set_option maxHeartbeats 400000 in
theorem s_P_statements_59 {p : Program} {l : Launch} {e : Env} {R : Room} {s : State} {m : MethodId} {args : Array Value} {below : List Frame} {meth : Method} {c : Code} {G : xG} {Y : xY} {sz : Nat} {rc : Nat → Int32 → Int32 → Int32 → xMem → Option (Int32 × xMem)} {b : Nat} {p1 : Int32} {d : Nat} (hc : xC p s m args meth c G 5 c_P_statements y_P_statements.cls (some .boolean)) (hR : xRm R (d + 1)) (hb : xRd Y b) (hd : 8 ≤ d) (hrc : xGr l G Y b sz d rc) {k4 : Int32 → Int32 → xMem → Option (Int32 × xMem)} {M' : xMem} {r : Int32} (hk4 : ∀ (v2 : Int32) (v3 : Int32) (M : xMem), k4 v2 v3 M = some (r, M') → xW p l e R s m args below meth c G 5 (MQ below (xQc G (some (.int r)) (xo G Y M') sz) args s 0 0 (xA G)) (xo G Y M) sz 0 0 4 [some (.ref (b + 29)), some (.int p1), some (.int v2), some (.int v3), none] []) (v2 : Int32) (v3 : Int32) (v4 : Int32) (M : xMem) (hf : f_P_statements_59 rc b p1 k4 v2 v3 v4 M = some (r, M')) : xW p l e R s m args below meth c G 5 (MQ below (xQc G (some (.int r)) (xo G Y M') sz) args s 0 0 (xA G)) (xo G Y M) sz 0 0 59 [some (.ref (b + 29)), some (.int p1), some (.int v2), some (.int v3), some (.int v4)] [] := by
  unfold f_P_statements_59 at hf
  refine x_aload_n hc (xd dk_P_statements 30 rfl) rfl rfl ?_
  refine x_iload_n hc (xd dk_P_statements 31 rfl) rfl rfl ?_
  refine x_iconst hc (v := 1) (xd dk_P_statements 32 rfl) (by decide) ?_
  refine x_iconst hc (v := 1) (xd dk_P_statements 33 rfl) (by decide) ?_
  obtain ⟨r16, M, e17, hf⟩ := xbind_some hf
  refine x_callV hc (As := [.int p1, .int 1, .int 1]) (n := 3) (hrc.2.1 _ _ _ _ _ _ e17) (c_P hb _) rfl (hR.call (by omega) (by decide)) ⟨by decide, by decide, by decide⟩ rfl rfl xw474 xw9 xw471 xw473 xs_P_statement (Nat.le_of_ble_eq_true rfl) ⟨Nat.zero_le _, Nat.zero_le _⟩ (xd dk_P_statements 34 rfl) ?_
  refine x_if_ne hc (tgt := 71) (xd dk_P_statements 35 rfl) rfl (fun q18 => ?_) (fun q18 => ?_)
  · rw [if_neg q18] at hf
    refine x_aload_n hc (xd dk_P_statements 38 rfl) rfl rfl ?_
    refine x_get hc (ci := 8) (k := 0) fi_P (c_P hb _) rfl (by decide) rfl xw232 rfl (xd dk_P_statements 39 rfl) ?_
    refine x_iload hc (xd dk_P_statements 40 rfl) rfl ?_
    obtain ⟨r19, M, e20, hf⟩ := xbind_some hf
    refine x_callV hc (As := [.int v4]) (n := 1) (s_T_kindOf hb e20) (c_T hb _) rfl (hR.call (by omega) (by decide)) ⟨by decide, by decide, by decide⟩ rfl rfl xw453 xw4 xw450 xw451 xw452 (Nat.le_of_ble_eq_true rfl) ⟨Nat.zero_le _, Nat.zero_le _⟩ (xd dk_P_statements 41 rfl) ?_
    by_cases htr19 : r19 < 28
    case neg => rw [if_neg htr19] at hf; cases hf
    rw [if_pos htr19] at hf
    refine x_getsK hc 7 (by decide) xw634 (xd dk_P_statements 42 rfl) ?_
    refine x_tok_ne hc htr19 (by decide) (tgt := 90) (xd dk_P_statements 43 rfl) rfl (fun q21 => ?_) (fun q21 => ?_)
    · rw [if_neg q21] at hf
      refine x_iconst hc (v := 0) (xd dk_P_statements 46 rfl) (by decide) ?_
      exact s_P_statements_91 hc hR hb hd hrc hk4 v2 v3 v4 0 M hf
    · rw [if_pos q21] at hf
      refine x_iconst hc (v := 1) (xd dk_P_statements 44 rfl) (by decide) ?_
      refine x_goto hc (tgt := 91) (xd dk_P_statements 45 rfl) rfl ?_
      exact s_P_statements_91 hc hR hb hd hrc hk4 v2 v3 v4 1 M hf
  · rw [if_pos q18] at hf
    refine x_iconst hc (v := 0) (xd dk_P_statements 36 rfl) (by decide) ?_
    cases hf
    exact x_zreturn hc rfl (xd dk_P_statements 37 rfl)
set_option maxRecDepth 100000 in
set_option maxHeartbeats 400000 in
theorem s_P_statements_4 {p : Program} {l : Launch} {e : Env} {R : Room} {s : State} {m : MethodId} {args : Array Value} {below : List Frame} {meth : Method} {c : Code} {G : xG} {Y : xY} {sz : Nat} {rc : Nat → Int32 → Int32 → Int32 → xMem → Option (Int32 × xMem)} {b : Nat} {p1 : Int32} {d : Nat} (hc : xC p s m args meth c G 5 c_P_statements y_P_statements.cls (some .boolean)) (hR : xRm R (d + 1)) (hb : xRd Y b) (hd : 8 ≤ d) (hrc : xGr l G Y b sz d rc) {M' : xMem} {r : Int32} : ∀ (n : Nat) (v2 : Int32) (v3 : Int32) (M : xMem), f_P_statements_4 rc b p1 n v2 v3 M = some (r, M') → xW p l e R s m args below meth c G 5 (MQ below (xQc G (some (.int r)) (xo G Y M') sz) args s 0 0 (xA G)) (xo G Y M) sz 0 0 4 [some (.ref (b + 29)), some (.int p1), some (.int v2), some (.int v3), none] [] := by
  intro n
  induction n with
  | zero => intro v2 v3 M hf; simp only [f_P_statements_4] at hf; cases hf
  | succ n ih =>
    intro v2 v3 M hf
    simp only [f_P_statements_4] at hf
    refine x_iload_n hc (xd dk_P_statements 4 rfl) rfl rfl ?_
    refine x_bipush hc (v := 60) (xd dk_P_statements 5 rfl) (by decide) ?_
    refine x_icmp_gt hc (tgt := 98) (xd dk_P_statements 6 rfl) rfl (fun q22 => ?_) (fun q22 => ?_)
    · rw [if_pos q22] at hf
      refine x_iconst hc (v := 0) (xd dk_P_statements 50 rfl) (by decide) ?_
      cases hf
      exact x_zreturn hc rfl (xd dk_P_statements 51 rfl)
    · rw [if_neg q22] at hf
      refine x_aload_n hc (xd dk_P_statements 7 rfl) rfl rfl ?_
      obtain ⟨r23, M, e24, hf⟩ := xbind_some hf
      refine x_callV hc (As := []) (n := 0) (s_P_next hb e24) (c_P hb _) rfl (hR.call (by omega) (by decide)) ⟨by decide, by decide, by decide⟩ rfl rfl xw449 xw9 xw446 xw448 xs_P_next (Nat.le_of_ble_eq_true rfl) ⟨Nat.zero_le _, Nat.zero_le _⟩ (xd dk_P_statements 8 rfl) ?_
      by_cases htr23 : r23 < 28
      case neg => rw [if_neg htr23] at hf; cases hf
      rw [if_pos htr23] at hf
      refine x_getsK hc 19 (by decide) xw454 (xd dk_P_statements 9 rfl) ?_
      refine x_tok_eq hc htr23 (by decide) (tgt := 30) (xd dk_P_statements 10 rfl) rfl (fun q25 => ?_) (fun q25 => ?_)
      · rw [if_pos q25] at hf
        refine x_iconst hc (v := 1) (xd dk_P_statements 15 rfl) (by decide) ?_
        cases hf
        exact x_zreturn hc rfl (xd dk_P_statements 16 rfl)
      · rw [if_neg q25] at hf
        refine x_aload_n hc (xd dk_P_statements 11 rfl) rfl rfl ?_
        obtain ⟨r26, M, e27, hf⟩ := xbind_some hf
        refine x_callV hc (As := []) (n := 0) (s_P_next hb e27) (c_P hb _) rfl (hR.call (by omega) (by decide)) ⟨by decide, by decide, by decide⟩ rfl rfl xw449 xw9 xw446 xw448 xs_P_next (Nat.le_of_ble_eq_true rfl) ⟨Nat.zero_le _, Nat.zero_le _⟩ (xd dk_P_statements 12 rfl) ?_
        by_cases htr26 : r26 < 28
        case neg => rw [if_neg htr26] at hf; cases hf
        rw [if_pos htr26] at hf
        refine x_getsK hc 26 (by decide) xw456 (xd dk_P_statements 13 rfl) ?_
        refine x_tok_ne hc htr26 (by decide) (tgt := 32) (xd dk_P_statements 14 rfl) rfl (fun q28 => ?_) (fun q28 => ?_)
        · rw [if_neg q28] at hf
          refine x_aload_n hc (xd dk_P_statements 17 rfl) rfl rfl ?_
          refine x_get hc (ci := 8) (k := 0) fi_P (c_P hb _) rfl (by decide) rfl xw232 rfl (xd dk_P_statements 18 rfl) ?_
          refine x_aload_n hc (xd dk_P_statements 19 rfl) rfl rfl ?_
          refine x_get hc (ci := 8) (k := 4) fi_P (c_P hb _) rfl (by decide) rfl xw236 rfl (xd dk_P_statements 20 rfl) ?_
          obtain ⟨x29, hx29, hf⟩ := xval_ex hf
          rw [← hx29]
          obtain ⟨r30, M, e31, hf⟩ := xbind_some hf
          refine x_callV hc (As := [.int x29]) (n := 1) (s_T_behindExcuses hb e31) (c_T hb _) rfl (hR.call (by omega) (by decide)) ⟨by decide, by decide, by decide⟩ rfl rfl xw460 xw4 xw457 xw458 xw459 (Nat.le_of_ble_eq_true rfl) ⟨Nat.zero_le _, Nat.zero_le _⟩ (xd dk_P_statements 21 rfl) ?_
          refine x_istore hc (xd dk_P_statements 22 rfl) (by decide) rfl ?_
          refine x_iload_n hc (xd dk_P_statements 23 rfl) rfl rfl ?_
          refine x_if_eq hc (tgt := 59) (xd dk_P_statements 24 rfl) rfl (fun q32 => ?_) (fun q32 => ?_)
          · rw [if_pos q32] at hf
            exact s_P_statements_59 hc hR hb hd hrc ih v2 v3 r30 M hf
          · rw [if_neg q32] at hf
            refine x_aload_n hc (xd dk_P_statements 25 rfl) rfl rfl ?_
            refine x_get hc (ci := 8) (k := 2) fi_P (c_P hb _) rfl (by decide) rfl xw234 rfl (xd dk_P_statements 26 rfl) ?_
            refine x_iload hc (xd dk_P_statements 27 rfl) rfl ?_
            refine x_iconst hc (v := 5) (xd dk_P_statements 28 rfl) (by decide) ?_
            obtain ⟨r33, M, e34, hf⟩ := xbind_some hf
            refine x_callV hc (As := [.int r30, .int 5]) (n := 2) (s_M_add hb e34) (c_M hb _) rfl (hR.call (by omega) (by decide)) ⟨by decide, by decide, by decide⟩ rfl rfl xw467 xw7 xw464 xw465 xw466 (Nat.le_of_ble_eq_true rfl) ⟨Nat.zero_le _, Nat.zero_le _⟩ (xd dk_P_statements 29 rfl) ?_
            exact s_P_statements_59 hc hR hb hd hrc ih v2 v3 r30 M hf
        · rw [if_pos q28] at hf
          refine x_iconst hc (v := 1) (xd dk_P_statements 15 rfl) (by decide) ?_
          cases hf
          exact x_zreturn hc rfl (xd dk_P_statements 16 rfl)
set_option maxRecDepth 100000 in
set_option maxHeartbeats 400000 in
theorem s_P_statements {l : Launch} {G : xG} {Y : xY} {sz : Nat} {rc : Nat → Int32 → Int32 → Int32 → xMem → Option (Int32 × xMem)} {b : Nat} {p1 : Int32} {d : Nat} (hb : xRd Y b) (hd : 8 ≤ d) (hrc : xGr l G Y b sz d rc) {M M' : xMem} {r : Int32} (hf : f_P_statements rc b p1 M = some (r, M')) : xM l G y_P_statements c_P_statements 5 (some .boolean) (d + 1) 0 0 [.ref (b + 29), .int p1] (xo G Y M) sz (some (.int r)) (xo G Y M') sz := by
  unfold f_P_statements at hf
  refine xM.of (k := 3) (L0 := [some (.ref (b + 29)), some (.int p1), none, none, none]) (by decide) (Nat.le_of_ble_eq_true rfl) rfl ?_
  intro p e s m args below meth c hc hnm
  have hR : xRm { frames := (d + 1), cells := 0, slots := 0, locals := 48 * (d + 1) } (d + 1) := ⟨Nat.le_refl _, Nat.le_refl _⟩
  refine x_iconst hc (v := 0) (xd dk_P_statements 0 rfl) (by decide) ?_
  refine x_istore_n hc (xd dk_P_statements 1 rfl) (by decide) rfl ?_
  refine x_iconst hc (v := 0) (xd dk_P_statements 2 rfl) (by decide) ?_
  refine x_istore_n hc (xd dk_P_statements 3 rfl) (by decide) rfl ?_
  exact s_P_statements_4 hc hR hb hd hrc xFuel 0 0 M hf
def f_P_statement (rc : Nat → Int32 → Int32 → Int32 → xMem → Option (Int32 × xMem)) (b : Nat) (p1 : Int32) (p2 : Int32) (p3 : Int32) (M : xMem) : Option (Int32 × xMem) :=
  (if p1 ≤ 12 then (xbind (f_P_next b M) fun r45 M => if r45 < 28 then xbind (f_JE_ordinal r45 M) fun r47 M => if xin r47 28 = true then if xSwM.getD r47.toNatClampNeg 0 = 1 then (if p3 = 0 then (some (0, M)) else (xbind (rc 2 p1 0 0 M) fun r52 M => if r52 = 0 then (some (0, M)) else (some (1, M)))) else if xSwM.getD r47.toNatClampNeg 0 = 2 then (if p3 = 0 then (some (0, M)) else (xbind (rc 2 p1 1 0 M) fun r57 M => if r57 = 0 then (some (0, M)) else (some (1, M)))) else if xSwM.getD r47.toNatClampNeg 0 = 3 then (if p3 = 0 then (some (0, M)) else (xbind (rc 2 p1 2 0 M) fun r62 M => if r62 = 0 then (some (0, M)) else (some (1, M)))) else if xSwM.getD r47.toNatClampNeg 0 = 4 then (if p3 = 0 then (some (0, M)) else (xbind (rc 3 p1 0 0 M) fun r67 M => if r67 = 0 then (some (0, M)) else (some (1, M)))) else if xSwM.getD r47.toNatClampNeg 0 = 5 then (xbind (rc 4 p1 p2 0 M) fun r71 M => if xnar .boolean r71 = true then some (r71, M) else none) else if xSwM.getD r47.toNatClampNeg 0 = 6 then (xbind (rc 5 p1 0 0 M) fun r75 M => if xnar .boolean r75 = true then some (r75, M) else none) else if xSwM.getD r47.toNatClampNeg 0 = 7 then (xbind (rc 7 p1 0 0 M) fun r79 M => if xnar .boolean r79 = true then some (r79, M) else none) else if xSwM.getD r47.toNatClampNeg 0 = 8 then (xval (M.1 (b + 29) 5) fun x83 => xbind (f_S_homeOf b x83 M) fun r84 M => if r84 = 0 then (some (0, M)) else (xbind (rc 8 p1 0 0 M) fun r87 M => if r87 = 0 then (some (0, M)) else (some (1, M)))) else if xSwM.getD r47.toNatClampNeg 0 = 9 then (xbind (rc 9 p1 p3 0 M) fun r91 M => if xnar .boolean r91 = true then some (r91, M) else none) else if xSwM.getD r47.toNatClampNeg 0 = 10 then (xbind (f_P_nothing b p2 M) fun r95 M => if xnar .boolean r95 = true then some (r95, M) else none) else (xbind (rc 10 p1 0 0 M) fun r98 M => if r98 = 0 then (some (0, M)) else (xbind (f_P_take b 20 M) fun r101 M => if r101 = 0 then (some (0, M)) else (some (1, M)))) else none else none) else (some (0, M)))
set_option maxRecDepth 100000 in
set_option maxHeartbeats 400000 in
theorem s_P_statement {l : Launch} {G : xG} {Y : xY} {sz : Nat} {rc : Nat → Int32 → Int32 → Int32 → xMem → Option (Int32 × xMem)} {b : Nat} {p1 : Int32} {p2 : Int32} {p3 : Int32} {d : Nat} (hb : xRd Y b) (hd : 8 ≤ d) (hrc : xGr l G Y b sz d rc) {M M' : xMem} {r : Int32} (hf : f_P_statement rc b p1 p2 p3 M = some (r, M')) : xM l G y_P_statement c_P_statement 4 (some .boolean) (d + 1) 0 0 [.ref (b + 29), .int p1, .int p2, .int p3] (xo G Y M) sz (some (.int r)) (xo G Y M') sz := by
  unfold f_P_statement at hf
  refine xM.of (k := 0) (L0 := [some (.ref (b + 29)), some (.int p1), some (.int p2), some (.int p3)]) (by decide) (Nat.le_of_ble_eq_true rfl) rfl ?_
  intro p e s m args below meth c hc hnm
  have hR : xRm { frames := (d + 1), cells := 0, slots := 0, locals := 48 * (d + 1) } (d + 1) := ⟨Nat.le_refl _, Nat.le_refl _⟩
  refine x_iload_n hc (xd dk_P_statement 0 rfl) rfl rfl ?_
  refine x_bipush hc (v := 12) (xd dk_P_statement 1 rfl) (by decide) ?_
  refine x_icmp_le hc (tgt := 8) (xd dk_P_statement 2 rfl) rfl (fun q44 => ?_) (fun q44 => ?_)
  · rw [if_pos q44] at hf
    refine x_getsW hc xw475 (xd dk_P_statement 5 rfl) ?_
    refine x_aload_n hc (xd dk_P_statement 6 rfl) rfl rfl ?_
    obtain ⟨r45, M, e46, hf⟩ := xbind_some hf
    refine x_callV hc (As := []) (n := 0) (s_P_next hb e46) (c_P hb _) rfl (hR.call (by omega) (by decide)) ⟨by decide, by decide, by decide⟩ rfl rfl xw449 xw9 xw446 xw448 xs_P_next (Nat.le_of_ble_eq_true rfl) ⟨Nat.zero_le _, Nat.zero_le _⟩ (xd dk_P_statement 7 rfl) ?_
    by_cases htr45 : r45 < 28
    case neg => rw [if_neg htr45] at hf; cases hf
    rw [if_pos htr45] at hf
    obtain ⟨r47, M, e48, hf⟩ := xbind_some hf
    refine x_callUO hc (x := ({ cls := "LintDesk$Token", name := "ordinal", desc := "()I" } : Jvm.MethodName)) (owner := "java/lang/Enum") (As := []) (n := 0) (s_JE_ordinal e48) ((hc.tk htr45).2.1) (hR.call (by omega) (by decide)) rfl ⟨by decide, by decide, by decide⟩ rfl rfl xw482 xw11 xw477 xw478 xw481 xw480 (Nat.le_of_ble_eq_true rfl) ⟨Nat.zero_le _, Nat.zero_le _⟩ (xd dk_P_statement 8 rfl) ?_
    by_cases q49 : xin r47 28 = true
    case neg => rw [if_neg q49] at hf; cases hf
    rw [if_pos q49] at hf
    refine x_wald hc (xin_in q49) (xd dk_P_statement 9 rfl) ?_
    by_cases q50 : xSwM.getD r47.toNatClampNeg 0 = 1
    case pos =>
      rw [if_pos q50] at hf
      refine x_tableIn hc (off := 53) (tgt := 72) (xd dk_P_statement 10 rfl) (by rw [q50]; decide) (by rw [q50]; decide) (by rw [q50]; rfl) rfl ?_
      refine x_iload_n hc (xd dk_P_statement 11 rfl) rfl rfl ?_
      refine x_if_eq hc (tgt := 89) (xd dk_P_statement 12 rfl) rfl (fun q51 => ?_) (fun q51 => ?_)
      · rw [if_pos q51] at hf
        refine x_iconst hc (v := 0) (xd dk_P_statement 20 rfl) (by decide) ?_
        cases hf
        exact x_zreturn hc rfl (xd dk_P_statement 21 rfl)
      · rw [if_neg q51] at hf
        refine x_aload_n hc (xd dk_P_statement 13 rfl) rfl rfl ?_
        refine x_iload_n hc (xd dk_P_statement 14 rfl) rfl rfl ?_
        refine x_iconst hc (v := 0) (xd dk_P_statement 15 rfl) (by decide) ?_
        obtain ⟨r52, M, e53, hf⟩ := xbind_some hf
        refine x_callV hc (As := [.int p1, .int 0]) (n := 2) (hrc.2.2.1 _ _ _ _ _ _ e53) (c_P hb _) rfl (hR.call (by omega) (by decide)) ⟨by decide, by decide, by decide⟩ rfl rfl xw486 xw9 xw483 xw485 xs_P_variable (Nat.le_of_ble_eq_true rfl) ⟨Nat.zero_le _, Nat.zero_le _⟩ (xd dk_P_statement 16 rfl) ?_
        refine x_if_eq hc (tgt := 89) (xd dk_P_statement 17 rfl) rfl (fun q54 => ?_) (fun q54 => ?_)
        · rw [if_pos q54] at hf
          refine x_iconst hc (v := 0) (xd dk_P_statement 20 rfl) (by decide) ?_
          cases hf
          exact x_zreturn hc rfl (xd dk_P_statement 21 rfl)
        · rw [if_neg q54] at hf
          refine x_iconst hc (v := 1) (xd dk_P_statement 18 rfl) (by decide) ?_
          refine x_goto hc (tgt := 90) (xd dk_P_statement 19 rfl) rfl ?_
          cases hf
          exact x_zreturn hc rfl (xd dk_P_statement 21 rfl)
    rw [if_neg q50] at hf
    by_cases q55 : xSwM.getD r47.toNatClampNeg 0 = 2
    case pos =>
      rw [if_pos q55] at hf
      refine x_tableIn hc (off := 72) (tgt := 91) (xd dk_P_statement 10 rfl) (by rw [q55]; decide) (by rw [q55]; decide) (by rw [q55]; rfl) rfl ?_
      refine x_iload_n hc (xd dk_P_statement 22 rfl) rfl rfl ?_
      refine x_if_eq hc (tgt := 108) (xd dk_P_statement 23 rfl) rfl (fun q56 => ?_) (fun q56 => ?_)
      · rw [if_pos q56] at hf
        refine x_iconst hc (v := 0) (xd dk_P_statement 31 rfl) (by decide) ?_
        cases hf
        exact x_zreturn hc rfl (xd dk_P_statement 32 rfl)
      · rw [if_neg q56] at hf
        refine x_aload_n hc (xd dk_P_statement 24 rfl) rfl rfl ?_
        refine x_iload_n hc (xd dk_P_statement 25 rfl) rfl rfl ?_
        refine x_iconst hc (v := 1) (xd dk_P_statement 26 rfl) (by decide) ?_
        obtain ⟨r57, M, e58, hf⟩ := xbind_some hf
        refine x_callV hc (As := [.int p1, .int 1]) (n := 2) (hrc.2.2.1 _ _ _ _ _ _ e58) (c_P hb _) rfl (hR.call (by omega) (by decide)) ⟨by decide, by decide, by decide⟩ rfl rfl xw486 xw9 xw483 xw485 xs_P_variable (Nat.le_of_ble_eq_true rfl) ⟨Nat.zero_le _, Nat.zero_le _⟩ (xd dk_P_statement 27 rfl) ?_
        refine x_if_eq hc (tgt := 108) (xd dk_P_statement 28 rfl) rfl (fun q59 => ?_) (fun q59 => ?_)
        · rw [if_pos q59] at hf
          refine x_iconst hc (v := 0) (xd dk_P_statement 31 rfl) (by decide) ?_
          cases hf
          exact x_zreturn hc rfl (xd dk_P_statement 32 rfl)
        · rw [if_neg q59] at hf
          refine x_iconst hc (v := 1) (xd dk_P_statement 29 rfl) (by decide) ?_
          refine x_goto hc (tgt := 109) (xd dk_P_statement 30 rfl) rfl ?_
          cases hf
          exact x_zreturn hc rfl (xd dk_P_statement 32 rfl)
    rw [if_neg q55] at hf
    by_cases q60 : xSwM.getD r47.toNatClampNeg 0 = 3
    case pos =>
      rw [if_pos q60] at hf
      refine x_tableIn hc (off := 91) (tgt := 110) (xd dk_P_statement 10 rfl) (by rw [q60]; decide) (by rw [q60]; decide) (by rw [q60]; rfl) rfl ?_
      refine x_iload_n hc (xd dk_P_statement 33 rfl) rfl rfl ?_
      refine x_if_eq hc (tgt := 127) (xd dk_P_statement 34 rfl) rfl (fun q61 => ?_) (fun q61 => ?_)
      · rw [if_pos q61] at hf
        refine x_iconst hc (v := 0) (xd dk_P_statement 42 rfl) (by decide) ?_
        cases hf
        exact x_zreturn hc rfl (xd dk_P_statement 43 rfl)
      · rw [if_neg q61] at hf
        refine x_aload_n hc (xd dk_P_statement 35 rfl) rfl rfl ?_
        refine x_iload_n hc (xd dk_P_statement 36 rfl) rfl rfl ?_
        refine x_iconst hc (v := 2) (xd dk_P_statement 37 rfl) (by decide) ?_
        obtain ⟨r62, M, e63, hf⟩ := xbind_some hf
        refine x_callV hc (As := [.int p1, .int 2]) (n := 2) (hrc.2.2.1 _ _ _ _ _ _ e63) (c_P hb _) rfl (hR.call (by omega) (by decide)) ⟨by decide, by decide, by decide⟩ rfl rfl xw486 xw9 xw483 xw485 xs_P_variable (Nat.le_of_ble_eq_true rfl) ⟨Nat.zero_le _, Nat.zero_le _⟩ (xd dk_P_statement 38 rfl) ?_
        refine x_if_eq hc (tgt := 127) (xd dk_P_statement 39 rfl) rfl (fun q64 => ?_) (fun q64 => ?_)
        · rw [if_pos q64] at hf
          refine x_iconst hc (v := 0) (xd dk_P_statement 42 rfl) (by decide) ?_
          cases hf
          exact x_zreturn hc rfl (xd dk_P_statement 43 rfl)
        · rw [if_neg q64] at hf
          refine x_iconst hc (v := 1) (xd dk_P_statement 40 rfl) (by decide) ?_
          refine x_goto hc (tgt := 128) (xd dk_P_statement 41 rfl) rfl ?_
          cases hf
          exact x_zreturn hc rfl (xd dk_P_statement 43 rfl)
    rw [if_neg q60] at hf
    by_cases q65 : xSwM.getD r47.toNatClampNeg 0 = 4
    case pos =>
      rw [if_pos q65] at hf
      refine x_tableIn hc (off := 110) (tgt := 129) (xd dk_P_statement 10 rfl) (by rw [q65]; decide) (by rw [q65]; decide) (by rw [q65]; rfl) rfl ?_
      refine x_iload_n hc (xd dk_P_statement 44 rfl) rfl rfl ?_
      refine x_if_eq hc (tgt := 145) (xd dk_P_statement 45 rfl) rfl (fun q66 => ?_) (fun q66 => ?_)
      · rw [if_pos q66] at hf
        refine x_iconst hc (v := 0) (xd dk_P_statement 52 rfl) (by decide) ?_
        cases hf
        exact x_zreturn hc rfl (xd dk_P_statement 53 rfl)
      · rw [if_neg q66] at hf
        refine x_aload_n hc (xd dk_P_statement 46 rfl) rfl rfl ?_
        refine x_iload_n hc (xd dk_P_statement 47 rfl) rfl rfl ?_
        obtain ⟨r67, M, e68, hf⟩ := xbind_some hf
        refine x_callV hc (As := [.int p1]) (n := 1) (hrc.2.2.2.1 _ _ _ _ _ _ e68) (c_P hb _) rfl (hR.call (by omega) (by decide)) ⟨by decide, by decide, by decide⟩ rfl rfl xw573 xw9 xw570 xw572 xs_P_function (Nat.le_of_ble_eq_true rfl) ⟨Nat.zero_le _, Nat.zero_le _⟩ (xd dk_P_statement 48 rfl) ?_
        refine x_if_eq hc (tgt := 145) (xd dk_P_statement 49 rfl) rfl (fun q69 => ?_) (fun q69 => ?_)
        · rw [if_pos q69] at hf
          refine x_iconst hc (v := 0) (xd dk_P_statement 52 rfl) (by decide) ?_
          cases hf
          exact x_zreturn hc rfl (xd dk_P_statement 53 rfl)
        · rw [if_neg q69] at hf
          refine x_iconst hc (v := 1) (xd dk_P_statement 50 rfl) (by decide) ?_
          refine x_goto hc (tgt := 146) (xd dk_P_statement 51 rfl) rfl ?_
          cases hf
          exact x_zreturn hc rfl (xd dk_P_statement 53 rfl)
    rw [if_neg q65] at hf
    by_cases q70 : xSwM.getD r47.toNatClampNeg 0 = 5
    case pos =>
      rw [if_pos q70] at hf
      refine x_tableIn hc (off := 128) (tgt := 147) (xd dk_P_statement 10 rfl) (by rw [q70]; decide) (by rw [q70]; decide) (by rw [q70]; rfl) rfl ?_
      refine x_aload_n hc (xd dk_P_statement 54 rfl) rfl rfl ?_
      refine x_iload_n hc (xd dk_P_statement 55 rfl) rfl rfl ?_
      refine x_iload_n hc (xd dk_P_statement 56 rfl) rfl rfl ?_
      obtain ⟨r71, M, e72, hf⟩ := xbind_some hf
      refine x_callV hc (As := [.int p1, .int p2]) (n := 2) (hrc.2.2.2.2.1 _ _ _ _ _ _ e72) (c_P hb _) rfl (hR.call (by omega) (by decide)) ⟨by decide, by decide, by decide⟩ rfl rfl xw587 xw9 xw584 xw586 xs_P_block (Nat.le_of_ble_eq_true rfl) ⟨Nat.zero_le _, Nat.zero_le _⟩ (xd dk_P_statement 57 rfl) ?_
      by_cases q73 : xnar .boolean r71 = true
      case neg => rw [if_neg q73] at hf; cases hf
      rw [if_pos q73] at hf
      cases hf
      exact x_zreturn hc (xnar_n q73) (xd dk_P_statement 58 rfl)
    rw [if_neg q70] at hf
    by_cases q74 : xSwM.getD r47.toNatClampNeg 0 = 6
    case pos =>
      rw [if_pos q74] at hf
      refine x_tableIn hc (off := 135) (tgt := 154) (xd dk_P_statement 10 rfl) (by rw [q74]; decide) (by rw [q74]; decide) (by rw [q74]; rfl) rfl ?_
      refine x_aload_n hc (xd dk_P_statement 59 rfl) rfl rfl ?_
      refine x_iload_n hc (xd dk_P_statement 60 rfl) rfl rfl ?_
      obtain ⟨r75, M, e76, hf⟩ := xbind_some hf
      refine x_callV hc (As := [.int p1]) (n := 1) (hrc.2.2.2.2.2.1 _ _ _ _ _ _ e76) (c_P hb _) rfl (hR.call (by omega) (by decide)) ⟨by decide, by decide, by decide⟩ rfl rfl xw595 xw9 xw592 xw594 xs_P_choice (Nat.le_of_ble_eq_true rfl) ⟨Nat.zero_le _, Nat.zero_le _⟩ (xd dk_P_statement 61 rfl) ?_
      by_cases q77 : xnar .boolean r75 = true
      case neg => rw [if_neg q77] at hf; cases hf
      rw [if_pos q77] at hf
      cases hf
      exact x_zreturn hc (xnar_n q77) (xd dk_P_statement 62 rfl)
    rw [if_neg q74] at hf
    by_cases q78 : xSwM.getD r47.toNatClampNeg 0 = 7
    case pos =>
      rw [if_pos q78] at hf
      refine x_tableIn hc (off := 141) (tgt := 160) (xd dk_P_statement 10 rfl) (by rw [q78]; decide) (by rw [q78]; decide) (by rw [q78]; rfl) rfl ?_
      refine x_aload_n hc (xd dk_P_statement 63 rfl) rfl rfl ?_
      refine x_iload_n hc (xd dk_P_statement 64 rfl) rfl rfl ?_
      obtain ⟨r79, M, e80, hf⟩ := xbind_some hf
      refine x_callV hc (As := [.int p1]) (n := 1) (hrc.2.2.2.2.2.2.2.1 _ _ _ _ _ _ e80) (c_P hb _) rfl (hR.call (by omega) (by decide)) ⟨by decide, by decide, by decide⟩ rfl rfl xw605 xw9 xw602 xw604 xs_P_loop (Nat.le_of_ble_eq_true rfl) ⟨Nat.zero_le _, Nat.zero_le _⟩ (xd dk_P_statement 65 rfl) ?_
      by_cases q81 : xnar .boolean r79 = true
      case neg => rw [if_neg q81] at hf; cases hf
      rw [if_pos q81] at hf
      cases hf
      exact x_zreturn hc (xnar_n q81) (xd dk_P_statement 66 rfl)
    rw [if_neg q78] at hf
    by_cases q82 : xSwM.getD r47.toNatClampNeg 0 = 8
    case pos =>
      rw [if_pos q82] at hf
      refine x_tableIn hc (off := 147) (tgt := 166) (xd dk_P_statement 10 rfl) (by rw [q82]; decide) (by rw [q82]; decide) (by rw [q82]; rfl) rfl ?_
      refine x_aload_n hc (xd dk_P_statement 67 rfl) rfl rfl ?_
      refine x_get hc (ci := 8) (k := 1) fi_P (c_P hb _) rfl (by decide) rfl xw233 rfl (xd dk_P_statement 68 rfl) ?_
      refine x_aload_n hc (xd dk_P_statement 69 rfl) rfl rfl ?_
      refine x_get hc (ci := 8) (k := 5) fi_P (c_P hb _) rfl (by decide) rfl xw237 rfl (xd dk_P_statement 70 rfl) ?_
      obtain ⟨x83, hx83, hf⟩ := xval_ex hf
      rw [← hx83]
      obtain ⟨r84, M, e85, hf⟩ := xbind_some hf
      refine x_callV hc (As := [.int x83]) (n := 1) (s_S_homeOf hb e85) (c_S hb _) rfl (hR.call (by omega) (by decide)) ⟨by decide, by decide, by decide⟩ rfl rfl xw497 xw5 xw494 xw495 xw496 (Nat.le_of_ble_eq_true rfl) ⟨Nat.zero_le _, Nat.zero_le _⟩ (xd dk_P_statement 71 rfl) ?_
      refine x_if_eq hc (tgt := 192) (xd dk_P_statement 72 rfl) rfl (fun q86 => ?_) (fun q86 => ?_)
      · rw [if_pos q86] at hf
        refine x_iconst hc (v := 0) (xd dk_P_statement 79 rfl) (by decide) ?_
        cases hf
        exact x_zreturn hc rfl (xd dk_P_statement 80 rfl)
      · rw [if_neg q86] at hf
        refine x_aload_n hc (xd dk_P_statement 73 rfl) rfl rfl ?_
        refine x_iload_n hc (xd dk_P_statement 74 rfl) rfl rfl ?_
        obtain ⟨r87, M, e88, hf⟩ := xbind_some hf
        refine x_callV hc (As := [.int p1]) (n := 1) (hrc.2.2.2.2.2.2.2.2.1 _ _ _ _ _ _ e88) (c_P hb _) rfl (hR.call (by omega) (by decide)) ⟨by decide, by decide, by decide⟩ rfl rfl xw609 xw9 xw606 xw608 xs_P_leave (Nat.le_of_ble_eq_true rfl) ⟨Nat.zero_le _, Nat.zero_le _⟩ (xd dk_P_statement 75 rfl) ?_
        refine x_if_eq hc (tgt := 192) (xd dk_P_statement 76 rfl) rfl (fun q89 => ?_) (fun q89 => ?_)
        · rw [if_pos q89] at hf
          refine x_iconst hc (v := 0) (xd dk_P_statement 79 rfl) (by decide) ?_
          cases hf
          exact x_zreturn hc rfl (xd dk_P_statement 80 rfl)
        · rw [if_neg q89] at hf
          refine x_iconst hc (v := 1) (xd dk_P_statement 77 rfl) (by decide) ?_
          refine x_goto hc (tgt := 193) (xd dk_P_statement 78 rfl) rfl ?_
          cases hf
          exact x_zreturn hc rfl (xd dk_P_statement 80 rfl)
    rw [if_neg q82] at hf
    by_cases q90 : xSwM.getD r47.toNatClampNeg 0 = 9
    case pos =>
      rw [if_pos q90] at hf
      refine x_tableIn hc (off := 175) (tgt := 194) (xd dk_P_statement 10 rfl) (by rw [q90]; decide) (by rw [q90]; decide) (by rw [q90]; rfl) rfl ?_
      refine x_aload_n hc (xd dk_P_statement 81 rfl) rfl rfl ?_
      refine x_iload_n hc (xd dk_P_statement 82 rfl) rfl rfl ?_
      refine x_iload_n hc (xd dk_P_statement 83 rfl) rfl rfl ?_
      obtain ⟨r91, M, e92, hf⟩ := xbind_some hf
      refine x_callV hc (As := [.int p1, .int p3]) (n := 2) (hrc.2.2.2.2.2.2.2.2.2.1 _ _ _ _ _ _ e92) (c_P hb _) rfl (hR.call (by omega) (by decide)) ⟨by decide, by decide, by decide⟩ rfl rfl xw613 xw9 xw610 xw612 xs_P_excuse (Nat.le_of_ble_eq_true rfl) ⟨Nat.zero_le _, Nat.zero_le _⟩ (xd dk_P_statement 84 rfl) ?_
      by_cases q93 : xnar .boolean r91 = true
      case neg => rw [if_neg q93] at hf; cases hf
      rw [if_pos q93] at hf
      cases hf
      exact x_zreturn hc (xnar_n q93) (xd dk_P_statement 85 rfl)
    rw [if_neg q90] at hf
    by_cases q94 : xSwM.getD r47.toNatClampNeg 0 = 10
    case pos =>
      rw [if_pos q94] at hf
      refine x_tableIn hc (off := 182) (tgt := 201) (xd dk_P_statement 10 rfl) (by rw [q94]; decide) (by rw [q94]; decide) (by rw [q94]; rfl) rfl ?_
      refine x_aload_n hc (xd dk_P_statement 86 rfl) rfl rfl ?_
      refine x_iload_n hc (xd dk_P_statement 87 rfl) rfl rfl ?_
      obtain ⟨r95, M, e96, hf⟩ := xbind_some hf
      refine x_callV hc (As := [.int p2]) (n := 1) (s_P_nothing hb e96) (c_P hb _) rfl (hR.call (by omega) (by decide)) ⟨by decide, by decide, by decide⟩ rfl rfl xw633 xw9 xw630 xw632 xs_P_nothing (Nat.le_of_ble_eq_true rfl) ⟨Nat.zero_le _, Nat.zero_le _⟩ (xd dk_P_statement 88 rfl) ?_
      by_cases q97 : xnar .boolean r95 = true
      case neg => rw [if_neg q97] at hf; cases hf
      rw [if_pos q97] at hf
      cases hf
      exact x_zreturn hc (xnar_n q97) (xd dk_P_statement 89 rfl)
    rw [if_neg q94] at hf
    refine x_tableOut hc (tgt := 207) (xd dk_P_statement 10 rfl) (by have q50n := xne (v := 1) q50 (by decide); have q55n := xne (v := 2) q55 (by decide); have q60n := xne (v := 3) q60 (by decide); have q65n := xne (v := 4) q65 (by decide); have q70n := xne (v := 5) q70 (by decide); have q74n := xne (v := 6) q74 (by decide); have q78n := xne (v := 7) q78 (by decide); have q82n := xne (v := 8) q82 (by decide); have q90n := xne (v := 9) q90 (by decide); have q94n := xne (v := 10) q94 (by decide); omega) rfl ?_
    refine x_aload_n hc (xd dk_P_statement 90 rfl) rfl rfl ?_
    refine x_iload_n hc (xd dk_P_statement 91 rfl) rfl rfl ?_
    obtain ⟨r98, M, e99, hf⟩ := xbind_some hf
    refine x_callV hc (As := [.int p1]) (n := 1) (hrc.2.2.2.2.2.2.2.2.2.2.1 _ _ _ _ _ _ e99) (c_P hb _) rfl (hR.call (by omega) (by decide)) ⟨by decide, by decide, by decide⟩ rfl rfl xw526 xw9 xw523 xw525 xs_P_value (Nat.le_of_ble_eq_true rfl) ⟨Nat.zero_le _, Nat.zero_le _⟩ (xd dk_P_statement 92 rfl) ?_
    refine x_if_eq hc (tgt := 229) (xd dk_P_statement 93 rfl) rfl (fun q100 => ?_) (fun q100 => ?_)
    · rw [if_pos q100] at hf
      refine x_iconst hc (v := 0) (xd dk_P_statement 100 rfl) (by decide) ?_
      cases hf
      exact x_zreturn hc rfl (xd dk_P_statement 101 rfl)
    · rw [if_neg q100] at hf
      refine x_aload_n hc (xd dk_P_statement 94 rfl) rfl rfl ?_
      refine x_getsK hc 20 (by decide) xw568 (xd dk_P_statement 95 rfl) ?_
      obtain ⟨r101, M, e102, hf⟩ := xbind_some hf
      refine x_callV hc (As := [.ref (gE G 20)]) (n := 1) (s_P_take hb e102) (c_P hb _) rfl (hR.call (by omega) (by decide)) ⟨by decide, by decide, by decide⟩ rfl rfl xw491 xw9 xw488 xw490 xs_P_take (Nat.le_of_ble_eq_true rfl) ⟨Nat.zero_le _, Nat.zero_le _⟩ (xd dk_P_statement 96 rfl) ?_
      refine x_if_eq hc (tgt := 229) (xd dk_P_statement 97 rfl) rfl (fun q103 => ?_) (fun q103 => ?_)
      · rw [if_pos q103] at hf
        refine x_iconst hc (v := 0) (xd dk_P_statement 100 rfl) (by decide) ?_
        cases hf
        exact x_zreturn hc rfl (xd dk_P_statement 101 rfl)
      · rw [if_neg q103] at hf
        refine x_iconst hc (v := 1) (xd dk_P_statement 98 rfl) (by decide) ?_
        refine x_goto hc (tgt := 230) (xd dk_P_statement 99 rfl) rfl ?_
        cases hf
        exact x_zreturn hc rfl (xd dk_P_statement 101 rfl)
  · rw [if_neg q44] at hf
    refine x_iconst hc (v := 0) (xd dk_P_statement 3 rfl) (by decide) ?_
    cases hf
    exact x_zreturn hc rfl (xd dk_P_statement 4 rfl)
def f_P_variable_114 (rc : Nat → Int32 → Int32 → Int32 → xMem → Option (Int32 × xMem)) (b : Nat) (p1 : Int32) (p2 : Int32) (v3 : Int32) (v4 : Int32) (v5 : Int32) (M : xMem) : Option (Int32 × xMem) :=
  (xbind (f_P_take b 20 M) fun r18 M => if xnar .boolean r18 = true then some (r18, M) else none)
def f_P_variable_72 (rc : Nat → Int32 → Int32 → Int32 → xMem → Option (Int32 × xMem)) (b : Nat) (p1 : Int32) (p2 : Int32) (v3 : Int32) (v4 : Int32) (w0 : Int32) (M : xMem) : Option (Int32 × xMem) :=
  (xbind (f_B_declare b v3 p2 w0 v4 M) fun r21 M => if v4 = 0 then (f_P_variable_114 rc b p1 p2 v3 v4 w0 M) else (xbind (f_P_take b 10 M) fun r24 M => if r24 = 0 then (some (0, M)) else (xbind (rc 10 (p1 + 1) 0 0 M) fun r27 M => if r27 = 0 then (some (0, M)) else (f_P_variable_114 rc b p1 p2 v3 v4 w0 M))))
def f_P_variable_47 (rc : Nat → Int32 → Int32 → Int32 → xMem → Option (Int32 × xMem)) (b : Nat) (p1 : Int32) (p2 : Int32) (v3 : Int32) (w0 : Int32) (M : xMem) : Option (Int32 × xMem) :=
  (if p2 = 2 then (xval (M.1 (b + 29) 5) fun x31 => xbind (f_S_homeOf b x31 M) fun r32 M => f_P_variable_72 rc b p1 p2 v3 w0 r32 M) else (f_P_variable_72 rc b p1 p2 v3 w0 (M.1 (b + 29) 5) M))
def f_P_variable_42 (rc : Nat → Int32 → Int32 → Int32 → xMem → Option (Int32 × xMem)) (b : Nat) (p1 : Int32) (p2 : Int32) (v3 : Int32) (M : xMem) : Option (Int32 × xMem) :=
  (f_P_variable_47 rc b p1 p2 v3 1 M)
def f_P_variable (rc : Nat → Int32 → Int32 → Int32 → xMem → Option (Int32 × xMem)) (b : Nat) (p1 : Int32) (p2 : Int32) (M : xMem) : Option (Int32 × xMem) :=
  (xval ((M.1 (b + 29) 4) + 1) fun x34 => xlet (wI M (b + 29) 4 x34) fun M => xval (M.1 (b + 29) 4) fun x35 => xbind (f_P_take b 23 M) fun r36 M => if r36 = 0 then (some (0, M)) else (if p2 = 1 then (f_P_variable_42 rc b p1 p2 x35 M) else (xbind (f_P_next b M) fun r40 M => if r40 < 28 then if r40 = 10 then (f_P_variable_42 rc b p1 p2 x35 M) else (f_P_variable_47 rc b p1 p2 x35 0 M) else none)))
set_option maxRecDepth 100000 in
set_option maxHeartbeats 400000 in
theorem s_P_variable_114 {p : Program} {l : Launch} {e : Env} {R : Room} {s : State} {m : MethodId} {args : Array Value} {below : List Frame} {meth : Method} {c : Code} {G : xG} {Y : xY} {sz : Nat} {rc : Nat → Int32 → Int32 → Int32 → xMem → Option (Int32 × xMem)} {b : Nat} {p1 : Int32} {p2 : Int32} {d : Nat} (hc : xC p s m args meth c G 6 c_P_variable y_P_variable.cls (some .boolean)) (hR : xRm R (d + 1)) (hb : xRd Y b) (hd : 8 ≤ d) (hrc : xGr l G Y b sz d rc) {M' : xMem} {r : Int32} (v3 : Int32) (v4 : Int32) (v5 : Int32) (M : xMem) (hf : f_P_variable_114 rc b p1 p2 v3 v4 v5 M = some (r, M')) : xW p l e R s m args below meth c G 6 (MQ below (xQc G (some (.int r)) (xo G Y M') sz) args s 0 0 (xA G)) (xo G Y M) sz 0 0 114 [some (.ref (b + 29)), some (.int p1), some (.int p2), some (.int v3), some (.int v4), some (.int v5)] [] := by
  unfold f_P_variable_114 at hf
  refine x_aload_n hc (xd dk_P_variable 59 rfl) rfl rfl ?_
  refine x_getsK hc 20 (by decide) xw568 (xd dk_P_variable 60 rfl) ?_
  obtain ⟨r18, M, e19, hf⟩ := xbind_some hf
  refine x_callV hc (As := [.ref (gE G 20)]) (n := 1) (s_P_take hb e19) (c_P hb _) rfl (hR.call (by omega) (by decide)) ⟨by decide, by decide, by decide⟩ rfl rfl xw491 xw9 xw488 xw490 xs_P_take (Nat.le_of_ble_eq_true rfl) ⟨Nat.zero_le _, Nat.zero_le _⟩ (xd dk_P_variable 61 rfl) ?_
  by_cases q20 : xnar .boolean r18 = true
  case neg => rw [if_neg q20] at hf; cases hf
  rw [if_pos q20] at hf
  cases hf
  exact x_zreturn hc (xnar_n q20) (xd dk_P_variable 62 rfl)
set_option maxRecDepth 100000 in
set_option maxHeartbeats 400000 in
theorem s_P_variable_72 {p : Program} {l : Launch} {e : Env} {R : Room} {s : State} {m : MethodId} {args : Array Value} {below : List Frame} {meth : Method} {c : Code} {G : xG} {Y : xY} {sz : Nat} {rc : Nat → Int32 → Int32 → Int32 → xMem → Option (Int32 × xMem)} {b : Nat} {p1 : Int32} {p2 : Int32} {d : Nat} (hc : xC p s m args meth c G 6 c_P_variable y_P_variable.cls (some .boolean)) (hR : xRm R (d + 1)) (hb : xRd Y b) (hd : 8 ≤ d) (hrc : xGr l G Y b sz d rc) {M' : xMem} {r : Int32} (v3 : Int32) (v4 : Int32) (w0 : Int32) (M : xMem) (hf : f_P_variable_72 rc b p1 p2 v3 v4 w0 M = some (r, M')) : xW p l e R s m args below meth c G 6 (MQ below (xQc G (some (.int r)) (xo G Y M') sz) args s 0 0 (xA G)) (xo G Y M) sz 0 0 72 [some (.ref (b + 29)), some (.int p1), some (.int p2), some (.int v3), some (.int v4), none] [.int w0] := by
  unfold f_P_variable_72 at hf
  refine x_istore hc (xd dk_P_variable 37 rfl) (by decide) rfl ?_
  refine x_aload_n hc (xd dk_P_variable 38 rfl) rfl rfl ?_
  refine x_get hc (ci := 8) (k := 3) fi_P (c_P hb _) rfl (by decide) rfl xw235 rfl (xd dk_P_variable 39 rfl) ?_
  refine x_iload_n hc (xd dk_P_variable 40 rfl) rfl rfl ?_
  refine x_iload_n hc (xd dk_P_variable 41 rfl) rfl rfl ?_
  refine x_iload hc (xd dk_P_variable 42 rfl) rfl ?_
  refine x_iload hc (xd dk_P_variable 43 rfl) rfl ?_
  obtain ⟨r21, M, e22, hf⟩ := xbind_some hf
  refine x_callV hc (As := [.int v3, .int p2, .int w0, .int v4]) (n := 4) (s_B_declare hb e22) (c_B hb _) rfl (hR.call (by omega) (by decide)) ⟨by decide, by decide, by decide⟩ rfl rfl xw505 xw8 xw502 xw503 xw504 (Nat.le_of_ble_eq_true rfl) ⟨Nat.zero_le _, Nat.zero_le _⟩ (xd dk_P_variable 44 rfl) ?_
  refine x_iload hc (xd dk_P_variable 45 rfl) rfl ?_
  refine x_if_eq hc (tgt := 114) (xd dk_P_variable 46 rfl) rfl (fun q23 => ?_) (fun q23 => ?_)
  · rw [if_pos q23] at hf
    exact s_P_variable_114 hc hR hb hd hrc v3 v4 w0 M hf
  · rw [if_neg q23] at hf
    refine x_aload_n hc (xd dk_P_variable 47 rfl) rfl rfl ?_
    refine x_getsK hc 10 (by decide) xw492 (xd dk_P_variable 48 rfl) ?_
    obtain ⟨r24, M, e25, hf⟩ := xbind_some hf
    refine x_callV hc (As := [.ref (gE G 10)]) (n := 1) (s_P_take hb e25) (c_P hb _) rfl (hR.call (by omega) (by decide)) ⟨by decide, by decide, by decide⟩ rfl rfl xw491 xw9 xw488 xw490 xs_P_take (Nat.le_of_ble_eq_true rfl) ⟨Nat.zero_le _, Nat.zero_le _⟩ (xd dk_P_variable 49 rfl) ?_
    refine x_if_eq hc (tgt := 112) (xd dk_P_variable 50 rfl) rfl (fun q26 => ?_) (fun q26 => ?_)
    · rw [if_pos q26] at hf
      refine x_iconst hc (v := 0) (xd dk_P_variable 57 rfl) (by decide) ?_
      cases hf
      exact x_zreturn hc rfl (xd dk_P_variable 58 rfl)
    · rw [if_neg q26] at hf
      refine x_aload_n hc (xd dk_P_variable 51 rfl) rfl rfl ?_
      refine x_iload_n hc (xd dk_P_variable 52 rfl) rfl rfl ?_
      refine x_iconst hc (v := 1) (xd dk_P_variable 53 rfl) (by decide) ?_
      refine x_iadd hc (xd dk_P_variable 54 rfl) ?_
      obtain ⟨r27, M, e28, hf⟩ := xbind_some hf
      refine x_callV hc (As := [.int ((p1 + 1))]) (n := 1) (hrc.2.2.2.2.2.2.2.2.2.2.1 _ _ _ _ _ _ e28) (c_P hb _) rfl (hR.call (by omega) (by decide)) ⟨by decide, by decide, by decide⟩ rfl rfl xw526 xw9 xw523 xw525 xs_P_value (Nat.le_of_ble_eq_true rfl) ⟨Nat.zero_le _, Nat.zero_le _⟩ (xd dk_P_variable 55 rfl) ?_
      refine x_if_ne hc (tgt := 114) (xd dk_P_variable 56 rfl) rfl (fun q29 => ?_) (fun q29 => ?_)
      · rw [if_neg q29] at hf
        exact s_P_variable_114 hc hR hb hd hrc v3 v4 w0 M hf
      · rw [if_pos q29] at hf
        refine x_iconst hc (v := 0) (xd dk_P_variable 57 rfl) (by decide) ?_
        cases hf
        exact x_zreturn hc rfl (xd dk_P_variable 58 rfl)
set_option maxRecDepth 100000 in
set_option maxHeartbeats 400000 in
theorem s_P_variable_47 {p : Program} {l : Launch} {e : Env} {R : Room} {s : State} {m : MethodId} {args : Array Value} {below : List Frame} {meth : Method} {c : Code} {G : xG} {Y : xY} {sz : Nat} {rc : Nat → Int32 → Int32 → Int32 → xMem → Option (Int32 × xMem)} {b : Nat} {p1 : Int32} {p2 : Int32} {d : Nat} (hc : xC p s m args meth c G 6 c_P_variable y_P_variable.cls (some .boolean)) (hR : xRm R (d + 1)) (hb : xRd Y b) (hd : 8 ≤ d) (hrc : xGr l G Y b sz d rc) {M' : xMem} {r : Int32} (v3 : Int32) (w0 : Int32) (M : xMem) (hf : f_P_variable_47 rc b p1 p2 v3 w0 M = some (r, M')) : xW p l e R s m args below meth c G 6 (MQ below (xQc G (some (.int r)) (xo G Y M') sz) args s 0 0 (xA G)) (xo G Y M) sz 0 0 47 [some (.ref (b + 29)), some (.int p1), some (.int p2), some (.int v3), none, none] [.int w0] := by
  unfold f_P_variable_47 at hf
  refine x_istore hc (xd dk_P_variable 25 rfl) (by decide) rfl ?_
  refine x_iload_n hc (xd dk_P_variable 26 rfl) rfl rfl ?_
  refine x_iconst hc (v := 2) (xd dk_P_variable 27 rfl) (by decide) ?_
  refine x_icmp_ne hc (tgt := 68) (xd dk_P_variable 28 rfl) rfl (fun q30 => ?_) (fun q30 => ?_)
  · rw [if_neg q30] at hf
    refine x_aload_n hc (xd dk_P_variable 35 rfl) rfl rfl ?_
    refine x_get hc (ci := 8) (k := 5) fi_P (c_P hb _) rfl (by decide) rfl xw237 rfl (xd dk_P_variable 36 rfl) ?_
    exact s_P_variable_72 hc hR hb hd hrc v3 w0 (M.1 (b + 29) 5) M hf
  · rw [if_pos q30] at hf
    refine x_aload_n hc (xd dk_P_variable 29 rfl) rfl rfl ?_
    refine x_get hc (ci := 8) (k := 1) fi_P (c_P hb _) rfl (by decide) rfl xw233 rfl (xd dk_P_variable 30 rfl) ?_
    refine x_aload_n hc (xd dk_P_variable 31 rfl) rfl rfl ?_
    refine x_get hc (ci := 8) (k := 5) fi_P (c_P hb _) rfl (by decide) rfl xw237 rfl (xd dk_P_variable 32 rfl) ?_
    obtain ⟨x31, hx31, hf⟩ := xval_ex hf
    rw [← hx31]
    obtain ⟨r32, M, e33, hf⟩ := xbind_some hf
    refine x_callV hc (As := [.int x31]) (n := 1) (s_S_homeOf hb e33) (c_S hb _) rfl (hR.call (by omega) (by decide)) ⟨by decide, by decide, by decide⟩ rfl rfl xw497 xw5 xw494 xw495 xw496 (Nat.le_of_ble_eq_true rfl) ⟨Nat.zero_le _, Nat.zero_le _⟩ (xd dk_P_variable 33 rfl) ?_
    refine x_goto hc (tgt := 72) (xd dk_P_variable 34 rfl) rfl ?_
    exact s_P_variable_72 hc hR hb hd hrc v3 w0 r32 M hf
set_option maxRecDepth 100000 in
set_option maxHeartbeats 400000 in
theorem s_P_variable_42 {p : Program} {l : Launch} {e : Env} {R : Room} {s : State} {m : MethodId} {args : Array Value} {below : List Frame} {meth : Method} {c : Code} {G : xG} {Y : xY} {sz : Nat} {rc : Nat → Int32 → Int32 → Int32 → xMem → Option (Int32 × xMem)} {b : Nat} {p1 : Int32} {p2 : Int32} {d : Nat} (hc : xC p s m args meth c G 6 c_P_variable y_P_variable.cls (some .boolean)) (hR : xRm R (d + 1)) (hb : xRd Y b) (hd : 8 ≤ d) (hrc : xGr l G Y b sz d rc) {M' : xMem} {r : Int32} (v3 : Int32) (M : xMem) (hf : f_P_variable_42 rc b p1 p2 v3 M = some (r, M')) : xW p l e R s m args below meth c G 6 (MQ below (xQc G (some (.int r)) (xo G Y M') sz) args s 0 0 (xA G)) (xo G Y M) sz 0 0 42 [some (.ref (b + 29)), some (.int p1), some (.int p2), some (.int v3), none, none] [] := by
  unfold f_P_variable_42 at hf
  refine x_iconst hc (v := 1) (xd dk_P_variable 22 rfl) (by decide) ?_
  refine x_goto hc (tgt := 47) (xd dk_P_variable 23 rfl) rfl ?_
  exact s_P_variable_47 hc hR hb hd hrc v3 1 M hf
set_option maxRecDepth 100000 in
set_option maxHeartbeats 400000 in
theorem s_P_variable {l : Launch} {G : xG} {Y : xY} {sz : Nat} {rc : Nat → Int32 → Int32 → Int32 → xMem → Option (Int32 × xMem)} {b : Nat} {p1 : Int32} {p2 : Int32} {d : Nat} (hb : xRd Y b) (hd : 8 ≤ d) (hrc : xGr l G Y b sz d rc) {M M' : xMem} {r : Int32} (hf : f_P_variable rc b p1 p2 M = some (r, M')) : xM l G y_P_variable c_P_variable 6 (some .boolean) (d + 1) 0 0 [.ref (b + 29), .int p1, .int p2] (xo G Y M) sz (some (.int r)) (xo G Y M') sz := by
  unfold f_P_variable at hf
  refine xM.of (k := 3) (L0 := [some (.ref (b + 29)), some (.int p1), some (.int p2), none, none, none]) (by decide) (Nat.le_of_ble_eq_true rfl) rfl ?_
  intro p e s m args below meth c hc hnm
  have hR : xRm { frames := (d + 1), cells := 0, slots := 0, locals := 48 * (d + 1) } (d + 1) := ⟨Nat.le_refl _, Nat.le_refl _⟩
  refine x_aload_n hc (xd dk_P_variable 0 rfl) rfl rfl ?_
  refine x_dup hc (xd dk_P_variable 1 rfl) rfl ?_
  refine x_get hc (ci := 8) (k := 4) fi_P (c_P hb _) rfl (by decide) rfl xw236 rfl (xd dk_P_variable 2 rfl) ?_
  refine x_iconst hc (v := 1) (xd dk_P_variable 3 rfl) (by decide) ?_
  refine x_iadd hc (xd dk_P_variable 4 rfl) ?_
  obtain ⟨x34, hx34, hf⟩ := xval_ex hf
  rw [← hx34]
  refine x_put hc (ci := 8) (k := 4) fi_P ft_P ft_P_ok fn_P (c_P hb _) rfl (by decide) rfl xw236 rfl rfl rfl (Nat.le_of_ble_eq_true rfl) (xd dk_P_variable 5 rfl) ?_
  rw [w_P_4 hb]
  replace hf := xlet_some hf
  generalize wI M (b + 29) 4 x34 = M at hf ⊢
  refine x_aload_n hc (xd dk_P_variable 6 rfl) rfl rfl ?_
  refine x_get hc (ci := 8) (k := 4) fi_P (c_P hb _) rfl (by decide) rfl xw236 rfl (xd dk_P_variable 7 rfl) ?_
  refine x_istore_n hc (xd dk_P_variable 8 rfl) (by decide) rfl ?_
  refine x_aload_n hc (xd dk_P_variable 9 rfl) rfl rfl ?_
  refine x_getsK hc 23 (by decide) xw487 (xd dk_P_variable 10 rfl) ?_
  obtain ⟨x35, hx35, hf⟩ := xval_ex hf
  rw [← hx35]
  obtain ⟨r36, M, e37, hf⟩ := xbind_some hf
  refine x_callV hc (As := [.ref (gE G 23)]) (n := 1) (s_P_take hb e37) (c_P hb _) rfl (hR.call (by omega) (by decide)) ⟨by decide, by decide, by decide⟩ rfl rfl xw491 xw9 xw488 xw490 xs_P_take (Nat.le_of_ble_eq_true rfl) ⟨Nat.zero_le _, Nat.zero_le _⟩ (xd dk_P_variable 11 rfl) ?_
  refine x_if_ne hc (tgt := 27) (xd dk_P_variable 12 rfl) rfl (fun q38 => ?_) (fun q38 => ?_)
  · rw [if_neg q38] at hf
    refine x_iload_n hc (xd dk_P_variable 15 rfl) rfl rfl ?_
    refine x_iconst hc (v := 1) (xd dk_P_variable 16 rfl) (by decide) ?_
    refine x_icmp_eq hc (tgt := 42) (xd dk_P_variable 17 rfl) rfl (fun q39 => ?_) (fun q39 => ?_)
    · rw [if_pos q39] at hf
      exact s_P_variable_42 hc hR hb hd hrc x35 M hf
    · rw [if_neg q39] at hf
      refine x_aload_n hc (xd dk_P_variable 18 rfl) rfl rfl ?_
      obtain ⟨r40, M, e41, hf⟩ := xbind_some hf
      refine x_callV hc (As := []) (n := 0) (s_P_next hb e41) (c_P hb _) rfl (hR.call (by omega) (by decide)) ⟨by decide, by decide, by decide⟩ rfl rfl xw449 xw9 xw446 xw448 xs_P_next (Nat.le_of_ble_eq_true rfl) ⟨Nat.zero_le _, Nat.zero_le _⟩ (xd dk_P_variable 19 rfl) ?_
      by_cases htr40 : r40 < 28
      case neg => rw [if_neg htr40] at hf; cases hf
      rw [if_pos htr40] at hf
      refine x_getsK hc 10 (by decide) xw492 (xd dk_P_variable 20 rfl) ?_
      refine x_tok_ne hc htr40 (by decide) (tgt := 46) (xd dk_P_variable 21 rfl) rfl (fun q42 => ?_) (fun q42 => ?_)
      · rw [if_neg q42] at hf
        refine x_iconst hc (v := 0) (xd dk_P_variable 24 rfl) (by decide) ?_
        exact s_P_variable_47 hc hR hb hd hrc x35 0 M hf
      · rw [if_pos q42] at hf
        exact s_P_variable_42 hc hR hb hd hrc x35 M hf
  · rw [if_pos q38] at hf
    refine x_iconst hc (v := 0) (xd dk_P_variable 13 rfl) (by decide) ?_
    cases hf
    exact x_zreturn hc rfl (xd dk_P_variable 14 rfl)
def f_P_function_121 (rc : Nat → Int32 → Int32 → Int32 → xMem → Option (Int32 × xMem)) (b : Nat) (p1 : Int32) (v2 : Int32) (v3 : Int32) (w0 : Int32) (M : xMem) : Option (Int32 × xMem) :=
  (xlet (wI M (b + 29) 5 v3) fun M => if xnar .boolean w0 = true then some (w0, M) else none)
def f_P_function_120 (rc : Nat → Int32 → Int32 → Int32 → xMem → Option (Int32 × xMem)) (b : Nat) (p1 : Int32) (v2 : Int32) (v3 : Int32) (M : xMem) : Option (Int32 × xMem) :=
  (f_P_function_121 rc b p1 v2 v3 0 M)
def f_P_function (rc : Nat → Int32 → Int32 → Int32 → xMem → Option (Int32 × xMem)) (b : Nat) (p1 : Int32) (M : xMem) : Option (Int32 × xMem) :=
  (xval ((M.1 (b + 29) 4) + 1) fun x22 => xlet (wI M (b + 29) 4 x22) fun M => xval (M.1 (b + 29) 4) fun x23 => xbind (f_P_take b 23 M) fun r24 M => if r24 = 0 then (some (0, M)) else (xval (M.1 (b + 29) 5) fun x27 => xbind (f_B_declare b x23 3 x27 0 M) fun r28 M => xval (M.1 (b + 29) 5) fun x30 => xbind (f_S_open b x30 1 M) fun r31 M => xlet (wI M (b + 29) 5 r31) fun M => xbind (f_P_take b 16 M) fun r33 M => if r33 = 0 then (f_P_function_120 rc b p1 x23 x30 M) else (xbind (f_P_parameters b M) fun r36 M => if r36 = 0 then (f_P_function_120 rc b p1 x23 x30 M) else (xbind (f_P_take b 17 M) fun r39 M => if r39 = 0 then (f_P_function_120 rc b p1 x23 x30 M) else (xbind (f_P_take b 18 M) fun r42 M => if r42 = 0 then (f_P_function_120 rc b p1 x23 x30 M) else (xbind (rc 0 (p1 + 1) 0 0 M) fun r45 M => if r45 = 0 then (f_P_function_120 rc b p1 x23 x30 M) else (xbind (f_P_take b 19 M) fun r48 M => if r48 = 0 then (f_P_function_120 rc b p1 x23 x30 M) else (f_P_function_121 rc b p1 x23 x30 1 M))))))))
set_option maxRecDepth 100000 in
set_option maxHeartbeats 400000 in
theorem s_P_function_121 {p : Program} {l : Launch} {e : Env} {R : Room} {s : State} {m : MethodId} {args : Array Value} {below : List Frame} {meth : Method} {c : Code} {G : xG} {Y : xY} {sz : Nat} {rc : Nat → Int32 → Int32 → Int32 → xMem → Option (Int32 × xMem)} {b : Nat} {p1 : Int32} {d : Nat} (hc : xC p s m args meth c G 5 c_P_function y_P_function.cls (some .boolean)) (hR : xRm R (d + 1)) (hb : xRd Y b) (hd : 8 ≤ d) (hrc : xGr l G Y b sz d rc) {M' : xMem} {r : Int32} (v2 : Int32) (v3 : Int32) (w0 : Int32) (M : xMem) (hf : f_P_function_121 rc b p1 v2 v3 w0 M = some (r, M')) : xW p l e R s m args below meth c G 5 (MQ below (xQc G (some (.int r)) (xo G Y M') sz) args s 0 0 (xA G)) (xo G Y M) sz 0 0 121 [some (.ref (b + 29)), some (.int p1), some (.int v2), some (.int v3), none] [.int w0] := by
  unfold f_P_function_121 at hf
  refine x_istore hc (xd dk_P_function 61 rfl) (by decide) rfl ?_
  refine x_aload_n hc (xd dk_P_function 62 rfl) rfl rfl ?_
  refine x_iload_n hc (xd dk_P_function 63 rfl) rfl rfl ?_
  refine x_put hc (ci := 8) (k := 5) fi_P ft_P ft_P_ok fn_P (c_P hb _) rfl (by decide) rfl xw237 rfl rfl rfl (Nat.le_of_ble_eq_true rfl) (xd dk_P_function 64 rfl) ?_
  rw [w_P_5 hb]
  replace hf := xlet_some hf
  generalize wI M (b + 29) 5 v3 = M at hf ⊢
  refine x_iload hc (xd dk_P_function 65 rfl) rfl ?_
  by_cases q21 : xnar .boolean w0 = true
  case neg => rw [if_neg q21] at hf; cases hf
  rw [if_pos q21] at hf
  cases hf
  exact x_zreturn hc (xnar_n q21) (xd dk_P_function 66 rfl)
set_option maxRecDepth 100000 in
set_option maxHeartbeats 400000 in
theorem s_P_function_120 {p : Program} {l : Launch} {e : Env} {R : Room} {s : State} {m : MethodId} {args : Array Value} {below : List Frame} {meth : Method} {c : Code} {G : xG} {Y : xY} {sz : Nat} {rc : Nat → Int32 → Int32 → Int32 → xMem → Option (Int32 × xMem)} {b : Nat} {p1 : Int32} {d : Nat} (hc : xC p s m args meth c G 5 c_P_function y_P_function.cls (some .boolean)) (hR : xRm R (d + 1)) (hb : xRd Y b) (hd : 8 ≤ d) (hrc : xGr l G Y b sz d rc) {M' : xMem} {r : Int32} (v2 : Int32) (v3 : Int32) (M : xMem) (hf : f_P_function_120 rc b p1 v2 v3 M = some (r, M')) : xW p l e R s m args below meth c G 5 (MQ below (xQc G (some (.int r)) (xo G Y M') sz) args s 0 0 (xA G)) (xo G Y M) sz 0 0 120 [some (.ref (b + 29)), some (.int p1), some (.int v2), some (.int v3), none] [] := by
  unfold f_P_function_120 at hf
  refine x_iconst hc (v := 0) (xd dk_P_function 60 rfl) (by decide) ?_
  exact s_P_function_121 hc hR hb hd hrc v2 v3 0 M hf
set_option maxRecDepth 100000 in
set_option maxHeartbeats 400000 in
theorem s_P_function {l : Launch} {G : xG} {Y : xY} {sz : Nat} {rc : Nat → Int32 → Int32 → Int32 → xMem → Option (Int32 × xMem)} {b : Nat} {p1 : Int32} {d : Nat} (hb : xRd Y b) (hd : 8 ≤ d) (hrc : xGr l G Y b sz d rc) {M M' : xMem} {r : Int32} (hf : f_P_function rc b p1 M = some (r, M')) : xM l G y_P_function c_P_function 5 (some .boolean) (d + 1) 0 0 [.ref (b + 29), .int p1] (xo G Y M) sz (some (.int r)) (xo G Y M') sz := by
  unfold f_P_function at hf
  refine xM.of (k := 3) (L0 := [some (.ref (b + 29)), some (.int p1), none, none, none]) (by decide) (Nat.le_of_ble_eq_true rfl) rfl ?_
  intro p e s m args below meth c hc hnm
  have hR : xRm { frames := (d + 1), cells := 0, slots := 0, locals := 48 * (d + 1) } (d + 1) := ⟨Nat.le_refl _, Nat.le_refl _⟩
  refine x_aload_n hc (xd dk_P_function 0 rfl) rfl rfl ?_
  refine x_dup hc (xd dk_P_function 1 rfl) rfl ?_
  refine x_get hc (ci := 8) (k := 4) fi_P (c_P hb _) rfl (by decide) rfl xw236 rfl (xd dk_P_function 2 rfl) ?_
  refine x_iconst hc (v := 1) (xd dk_P_function 3 rfl) (by decide) ?_
  refine x_iadd hc (xd dk_P_function 4 rfl) ?_
  obtain ⟨x22, hx22, hf⟩ := xval_ex hf
  rw [← hx22]
  refine x_put hc (ci := 8) (k := 4) fi_P ft_P ft_P_ok fn_P (c_P hb _) rfl (by decide) rfl xw236 rfl rfl rfl (Nat.le_of_ble_eq_true rfl) (xd dk_P_function 5 rfl) ?_
  rw [w_P_4 hb]
  replace hf := xlet_some hf
  generalize wI M (b + 29) 4 x22 = M at hf ⊢
  refine x_aload_n hc (xd dk_P_function 6 rfl) rfl rfl ?_
  refine x_get hc (ci := 8) (k := 4) fi_P (c_P hb _) rfl (by decide) rfl xw236 rfl (xd dk_P_function 7 rfl) ?_
  refine x_istore_n hc (xd dk_P_function 8 rfl) (by decide) rfl ?_
  refine x_aload_n hc (xd dk_P_function 9 rfl) rfl rfl ?_
  refine x_getsK hc 23 (by decide) xw487 (xd dk_P_function 10 rfl) ?_
  obtain ⟨x23, hx23, hf⟩ := xval_ex hf
  rw [← hx23]
  obtain ⟨r24, M, e25, hf⟩ := xbind_some hf
  refine x_callV hc (As := [.ref (gE G 23)]) (n := 1) (s_P_take hb e25) (c_P hb _) rfl (hR.call (by omega) (by decide)) ⟨by decide, by decide, by decide⟩ rfl rfl xw491 xw9 xw488 xw490 xs_P_take (Nat.le_of_ble_eq_true rfl) ⟨Nat.zero_le _, Nat.zero_le _⟩ (xd dk_P_function 11 rfl) ?_
  refine x_if_ne hc (tgt := 27) (xd dk_P_function 12 rfl) rfl (fun q26 => ?_) (fun q26 => ?_)
  · rw [if_neg q26] at hf
    refine x_aload_n hc (xd dk_P_function 15 rfl) rfl rfl ?_
    refine x_get hc (ci := 8) (k := 3) fi_P (c_P hb _) rfl (by decide) rfl xw235 rfl (xd dk_P_function 16 rfl) ?_
    refine x_iload_n hc (xd dk_P_function 17 rfl) rfl rfl ?_
    refine x_iconst hc (v := 3) (xd dk_P_function 18 rfl) (by decide) ?_
    refine x_aload_n hc (xd dk_P_function 19 rfl) rfl rfl ?_
    refine x_get hc (ci := 8) (k := 5) fi_P (c_P hb _) rfl (by decide) rfl xw237 rfl (xd dk_P_function 20 rfl) ?_
    refine x_iconst hc (v := 0) (xd dk_P_function 21 rfl) (by decide) ?_
    obtain ⟨x27, hx27, hf⟩ := xval_ex hf
    rw [← hx27]
    obtain ⟨r28, M, e29, hf⟩ := xbind_some hf
    refine x_callV hc (As := [.int x23, .int 3, .int x27, .int 0]) (n := 4) (s_B_declare hb e29) (c_B hb _) rfl (hR.call (by omega) (by decide)) ⟨by decide, by decide, by decide⟩ rfl rfl xw505 xw8 xw502 xw503 xw504 (Nat.le_of_ble_eq_true rfl) ⟨Nat.zero_le _, Nat.zero_le _⟩ (xd dk_P_function 22 rfl) ?_
    refine x_aload_n hc (xd dk_P_function 23 rfl) rfl rfl ?_
    refine x_get hc (ci := 8) (k := 5) fi_P (c_P hb _) rfl (by decide) rfl xw237 rfl (xd dk_P_function 24 rfl) ?_
    refine x_istore_n hc (xd dk_P_function 25 rfl) (by decide) rfl ?_
    refine x_aload_n hc (xd dk_P_function 26 rfl) rfl rfl ?_
    refine x_aload_n hc (xd dk_P_function 27 rfl) rfl rfl ?_
    refine x_get hc (ci := 8) (k := 1) fi_P (c_P hb _) rfl (by decide) rfl xw233 rfl (xd dk_P_function 28 rfl) ?_
    refine x_iload_n hc (xd dk_P_function 29 rfl) rfl rfl ?_
    refine x_iconst hc (v := 1) (xd dk_P_function 30 rfl) (by decide) ?_
    obtain ⟨x30, hx30, hf⟩ := xval_ex hf
    rw [← hx30]
    obtain ⟨r31, M, e32, hf⟩ := xbind_some hf
    refine x_callV hc (As := [.int x30, .int 1]) (n := 2) (s_S_open hb e32) (c_S hb _) rfl (hR.call (by omega) (by decide)) ⟨by decide, by decide, by decide⟩ rfl rfl xw577 xw5 xw574 xw575 xw576 (Nat.le_of_ble_eq_true rfl) ⟨Nat.zero_le _, Nat.zero_le _⟩ (xd dk_P_function 31 rfl) ?_
    refine x_put hc (ci := 8) (k := 5) fi_P ft_P ft_P_ok fn_P (c_P hb _) rfl (by decide) rfl xw237 rfl rfl rfl (Nat.le_of_ble_eq_true rfl) (xd dk_P_function 32 rfl) ?_
    rw [w_P_5 hb]
    replace hf := xlet_some hf
    generalize wI M (b + 29) 5 r31 = M at hf ⊢
    refine x_aload_n hc (xd dk_P_function 33 rfl) rfl rfl ?_
    refine x_getsK hc 16 (by decide) xw541 (xd dk_P_function 34 rfl) ?_
    obtain ⟨r33, M, e34, hf⟩ := xbind_some hf
    refine x_callV hc (As := [.ref (gE G 16)]) (n := 1) (s_P_take hb e34) (c_P hb _) rfl (hR.call (by omega) (by decide)) ⟨by decide, by decide, by decide⟩ rfl rfl xw491 xw9 xw488 xw490 xs_P_take (Nat.le_of_ble_eq_true rfl) ⟨Nat.zero_le _, Nat.zero_le _⟩ (xd dk_P_function 35 rfl) ?_
    refine x_if_eq hc (tgt := 120) (xd dk_P_function 36 rfl) rfl (fun q35 => ?_) (fun q35 => ?_)
    · rw [if_pos q35] at hf
      exact s_P_function_120 hc hR hb hd hrc x23 x30 M hf
    · rw [if_neg q35] at hf
      refine x_aload_n hc (xd dk_P_function 37 rfl) rfl rfl ?_
      obtain ⟨r36, M, e37, hf⟩ := xbind_some hf
      refine x_callV hc (As := []) (n := 0) (s_P_parameters hb e37) (c_P hb _) rfl (hR.call (by omega) (by decide)) ⟨by decide, by decide, by decide⟩ rfl rfl xw581 xw9 xw578 xw580 xs_P_parameters (Nat.le_of_ble_eq_true rfl) ⟨Nat.zero_le _, Nat.zero_le _⟩ (xd dk_P_function 38 rfl) ?_
      refine x_if_eq hc (tgt := 120) (xd dk_P_function 39 rfl) rfl (fun q38 => ?_) (fun q38 => ?_)
      · rw [if_pos q38] at hf
        exact s_P_function_120 hc hR hb hd hrc x23 x30 M hf
      · rw [if_neg q38] at hf
        refine x_aload_n hc (xd dk_P_function 40 rfl) rfl rfl ?_
        refine x_getsK hc 17 (by decide) xw543 (xd dk_P_function 41 rfl) ?_
        obtain ⟨r39, M, e40, hf⟩ := xbind_some hf
        refine x_callV hc (As := [.ref (gE G 17)]) (n := 1) (s_P_take hb e40) (c_P hb _) rfl (hR.call (by omega) (by decide)) ⟨by decide, by decide, by decide⟩ rfl rfl xw491 xw9 xw488 xw490 xs_P_take (Nat.le_of_ble_eq_true rfl) ⟨Nat.zero_le _, Nat.zero_le _⟩ (xd dk_P_function 42 rfl) ?_
        refine x_if_eq hc (tgt := 120) (xd dk_P_function 43 rfl) rfl (fun q41 => ?_) (fun q41 => ?_)
        · rw [if_pos q41] at hf
          exact s_P_function_120 hc hR hb hd hrc x23 x30 M hf
        · rw [if_neg q41] at hf
          refine x_aload_n hc (xd dk_P_function 44 rfl) rfl rfl ?_
          refine x_getsK hc 18 (by decide) xw582 (xd dk_P_function 45 rfl) ?_
          obtain ⟨r42, M, e43, hf⟩ := xbind_some hf
          refine x_callV hc (As := [.ref (gE G 18)]) (n := 1) (s_P_take hb e43) (c_P hb _) rfl (hR.call (by omega) (by decide)) ⟨by decide, by decide, by decide⟩ rfl rfl xw491 xw9 xw488 xw490 xs_P_take (Nat.le_of_ble_eq_true rfl) ⟨Nat.zero_le _, Nat.zero_le _⟩ (xd dk_P_function 46 rfl) ?_
          refine x_if_eq hc (tgt := 120) (xd dk_P_function 47 rfl) rfl (fun q44 => ?_) (fun q44 => ?_)
          · rw [if_pos q44] at hf
            exact s_P_function_120 hc hR hb hd hrc x23 x30 M hf
          · rw [if_neg q44] at hf
            refine x_aload_n hc (xd dk_P_function 48 rfl) rfl rfl ?_
            refine x_iload_n hc (xd dk_P_function 49 rfl) rfl rfl ?_
            refine x_iconst hc (v := 1) (xd dk_P_function 50 rfl) (by decide) ?_
            refine x_iadd hc (xd dk_P_function 51 rfl) ?_
            obtain ⟨r45, M, e46, hf⟩ := xbind_some hf
            refine x_callV hc (As := [.int ((p1 + 1))]) (n := 1) (hrc.1 _ _ _ _ _ _ e46) (c_P hb _) rfl (hR.call (by omega) (by decide)) ⟨by decide, by decide, by decide⟩ rfl rfl xw445 xw9 xw442 xw444 xs_P_statements (Nat.le_of_ble_eq_true rfl) ⟨Nat.zero_le _, Nat.zero_le _⟩ (xd dk_P_function 52 rfl) ?_
            refine x_if_eq hc (tgt := 120) (xd dk_P_function 53 rfl) rfl (fun q47 => ?_) (fun q47 => ?_)
            · rw [if_pos q47] at hf
              exact s_P_function_120 hc hR hb hd hrc x23 x30 M hf
            · rw [if_neg q47] at hf
              refine x_aload_n hc (xd dk_P_function 54 rfl) rfl rfl ?_
              refine x_getsK hc 19 (by decide) xw454 (xd dk_P_function 55 rfl) ?_
              obtain ⟨r48, M, e49, hf⟩ := xbind_some hf
              refine x_callV hc (As := [.ref (gE G 19)]) (n := 1) (s_P_take hb e49) (c_P hb _) rfl (hR.call (by omega) (by decide)) ⟨by decide, by decide, by decide⟩ rfl rfl xw491 xw9 xw488 xw490 xs_P_take (Nat.le_of_ble_eq_true rfl) ⟨Nat.zero_le _, Nat.zero_le _⟩ (xd dk_P_function 56 rfl) ?_
              refine x_if_eq hc (tgt := 120) (xd dk_P_function 57 rfl) rfl (fun q50 => ?_) (fun q50 => ?_)
              · rw [if_pos q50] at hf
                exact s_P_function_120 hc hR hb hd hrc x23 x30 M hf
              · rw [if_neg q50] at hf
                refine x_iconst hc (v := 1) (xd dk_P_function 58 rfl) (by decide) ?_
                refine x_goto hc (tgt := 121) (xd dk_P_function 59 rfl) rfl ?_
                exact s_P_function_121 hc hR hb hd hrc x23 x30 1 M hf
  · rw [if_pos q26] at hf
    refine x_iconst hc (v := 0) (xd dk_P_function 13 rfl) (by decide) ?_
    cases hf
    exact x_zreturn hc rfl (xd dk_P_function 14 rfl)
def f_P_block_92 (rc : Nat → Int32 → Int32 → Int32 → xMem → Option (Int32 × xMem)) (b : Nat) (p1 : Int32) (p2 : Int32) (v3 : Int32) (v4 : Int32) (w0 : Int32) (M : xMem) : Option (Int32 × xMem) :=
  (xlet (wI M (b + 29) 5 v4) fun M => if xnar .boolean w0 = true then some (w0, M) else none)
def f_P_block_91 (rc : Nat → Int32 → Int32 → Int32 → xMem → Option (Int32 × xMem)) (b : Nat) (p1 : Int32) (p2 : Int32) (v3 : Int32) (v4 : Int32) (M : xMem) : Option (Int32 × xMem) :=
  (f_P_block_92 rc b p1 p2 v3 v4 0 M)
def f_P_block_47 (rc : Nat → Int32 → Int32 → Int32 → xMem → Option (Int32 × xMem)) (b : Nat) (p1 : Int32) (p2 : Int32) (v3 : Int32) (M : xMem) : Option (Int32 × xMem) :=
  (xval (M.1 (b + 29) 5) fun x15 => xbind (f_S_open b x15 0 M) fun r16 M => xlet (wI M (b + 29) 5 r16) fun M => xbind (rc 0 (p1 + 1) 0 0 M) fun r18 M => if r18 = 0 then (f_P_block_91 rc b p1 p2 v3 x15 M) else (xbind (f_P_take b 19 M) fun r21 M => if r21 = 0 then (f_P_block_91 rc b p1 p2 v3 x15 M) else (f_P_block_92 rc b p1 p2 v3 x15 1 M)))
def f_P_block (rc : Nat → Int32 → Int32 → Int32 → xMem → Option (Int32 × xMem)) (b : Nat) (p1 : Int32) (p2 : Int32) (M : xMem) : Option (Int32 × xMem) :=
  (xval ((M.1 (b + 29) 4) + 1) fun x24 => xval (M.1 (b + 29) 4) fun x25 => xlet (wI M (b + 29) 4 x24) fun M => xbind (f_P_next b M) fun r26 M => if r26 < 28 then if r26 = 19 then (xbind (f_M_add b x25 8 M) fun r29 M => if p2 = 0 then (f_P_block_47 rc b p1 p2 x25 M) else (xbind (f_M_loosen b x25 M) fun r32 M => f_P_block_47 rc b p1 p2 x25 M)) else (f_P_block_47 rc b p1 p2 x25 M) else none)
set_option maxRecDepth 100000 in
set_option maxHeartbeats 400000 in
theorem s_P_block_92 {p : Program} {l : Launch} {e : Env} {R : Room} {s : State} {m : MethodId} {args : Array Value} {below : List Frame} {meth : Method} {c : Code} {G : xG} {Y : xY} {sz : Nat} {rc : Nat → Int32 → Int32 → Int32 → xMem → Option (Int32 × xMem)} {b : Nat} {p1 : Int32} {p2 : Int32} {d : Nat} (hc : xC p s m args meth c G 6 c_P_block y_P_block.cls (some .boolean)) (hR : xRm R (d + 1)) (hb : xRd Y b) (hd : 8 ≤ d) (hrc : xGr l G Y b sz d rc) {M' : xMem} {r : Int32} (v3 : Int32) (v4 : Int32) (w0 : Int32) (M : xMem) (hf : f_P_block_92 rc b p1 p2 v3 v4 w0 M = some (r, M')) : xW p l e R s m args below meth c G 6 (MQ below (xQc G (some (.int r)) (xo G Y M') sz) args s 0 0 (xA G)) (xo G Y M) sz 0 0 92 [some (.ref (b + 29)), some (.int p1), some (.int p2), some (.int v3), some (.int v4), none] [.int w0] := by
  unfold f_P_block_92 at hf
  refine x_istore hc (xd dk_P_block 47 rfl) (by decide) rfl ?_
  refine x_aload_n hc (xd dk_P_block 48 rfl) rfl rfl ?_
  refine x_iload hc (xd dk_P_block 49 rfl) rfl ?_
  refine x_put hc (ci := 8) (k := 5) fi_P ft_P ft_P_ok fn_P (c_P hb _) rfl (by decide) rfl xw237 rfl rfl rfl (Nat.le_of_ble_eq_true rfl) (xd dk_P_block 50 rfl) ?_
  rw [w_P_5 hb]
  replace hf := xlet_some hf
  generalize wI M (b + 29) 5 v4 = M at hf ⊢
  refine x_iload hc (xd dk_P_block 51 rfl) rfl ?_
  by_cases q14 : xnar .boolean w0 = true
  case neg => rw [if_neg q14] at hf; cases hf
  rw [if_pos q14] at hf
  cases hf
  exact x_zreturn hc (xnar_n q14) (xd dk_P_block 52 rfl)
set_option maxRecDepth 100000 in
set_option maxHeartbeats 400000 in
theorem s_P_block_91 {p : Program} {l : Launch} {e : Env} {R : Room} {s : State} {m : MethodId} {args : Array Value} {below : List Frame} {meth : Method} {c : Code} {G : xG} {Y : xY} {sz : Nat} {rc : Nat → Int32 → Int32 → Int32 → xMem → Option (Int32 × xMem)} {b : Nat} {p1 : Int32} {p2 : Int32} {d : Nat} (hc : xC p s m args meth c G 6 c_P_block y_P_block.cls (some .boolean)) (hR : xRm R (d + 1)) (hb : xRd Y b) (hd : 8 ≤ d) (hrc : xGr l G Y b sz d rc) {M' : xMem} {r : Int32} (v3 : Int32) (v4 : Int32) (M : xMem) (hf : f_P_block_91 rc b p1 p2 v3 v4 M = some (r, M')) : xW p l e R s m args below meth c G 6 (MQ below (xQc G (some (.int r)) (xo G Y M') sz) args s 0 0 (xA G)) (xo G Y M) sz 0 0 91 [some (.ref (b + 29)), some (.int p1), some (.int p2), some (.int v3), some (.int v4), none] [] := by
  unfold f_P_block_91 at hf
  refine x_iconst hc (v := 0) (xd dk_P_block 46 rfl) (by decide) ?_
  exact s_P_block_92 hc hR hb hd hrc v3 v4 0 M hf
set_option maxRecDepth 100000 in
set_option maxHeartbeats 400000 in
theorem s_P_block_47 {p : Program} {l : Launch} {e : Env} {R : Room} {s : State} {m : MethodId} {args : Array Value} {below : List Frame} {meth : Method} {c : Code} {G : xG} {Y : xY} {sz : Nat} {rc : Nat → Int32 → Int32 → Int32 → xMem → Option (Int32 × xMem)} {b : Nat} {p1 : Int32} {p2 : Int32} {d : Nat} (hc : xC p s m args meth c G 6 c_P_block y_P_block.cls (some .boolean)) (hR : xRm R (d + 1)) (hb : xRd Y b) (hd : 8 ≤ d) (hrc : xGr l G Y b sz d rc) {M' : xMem} {r : Int32} (v3 : Int32) (M : xMem) (hf : f_P_block_47 rc b p1 p2 v3 M = some (r, M')) : xW p l e R s m args below meth c G 6 (MQ below (xQc G (some (.int r)) (xo G Y M') sz) args s 0 0 (xA G)) (xo G Y M) sz 0 0 47 [some (.ref (b + 29)), some (.int p1), some (.int p2), some (.int v3), none, none] [] := by
  unfold f_P_block_47 at hf
  refine x_aload_n hc (xd dk_P_block 24 rfl) rfl rfl ?_
  refine x_get hc (ci := 8) (k := 5) fi_P (c_P hb _) rfl (by decide) rfl xw237 rfl (xd dk_P_block 25 rfl) ?_
  refine x_istore hc (xd dk_P_block 26 rfl) (by decide) rfl ?_
  refine x_aload_n hc (xd dk_P_block 27 rfl) rfl rfl ?_
  refine x_aload_n hc (xd dk_P_block 28 rfl) rfl rfl ?_
  refine x_get hc (ci := 8) (k := 1) fi_P (c_P hb _) rfl (by decide) rfl xw233 rfl (xd dk_P_block 29 rfl) ?_
  refine x_iload hc (xd dk_P_block 30 rfl) rfl ?_
  refine x_iconst hc (v := 0) (xd dk_P_block 31 rfl) (by decide) ?_
  obtain ⟨x15, hx15, hf⟩ := xval_ex hf
  rw [← hx15]
  obtain ⟨r16, M, e17, hf⟩ := xbind_some hf
  refine x_callV hc (As := [.int x15, .int 0]) (n := 2) (s_S_open hb e17) (c_S hb _) rfl (hR.call (by omega) (by decide)) ⟨by decide, by decide, by decide⟩ rfl rfl xw577 xw5 xw574 xw575 xw576 (Nat.le_of_ble_eq_true rfl) ⟨Nat.zero_le _, Nat.zero_le _⟩ (xd dk_P_block 32 rfl) ?_
  refine x_put hc (ci := 8) (k := 5) fi_P ft_P ft_P_ok fn_P (c_P hb _) rfl (by decide) rfl xw237 rfl rfl rfl (Nat.le_of_ble_eq_true rfl) (xd dk_P_block 33 rfl) ?_
  rw [w_P_5 hb]
  replace hf := xlet_some hf
  generalize wI M (b + 29) 5 r16 = M at hf ⊢
  refine x_aload_n hc (xd dk_P_block 34 rfl) rfl rfl ?_
  refine x_iload_n hc (xd dk_P_block 35 rfl) rfl rfl ?_
  refine x_iconst hc (v := 1) (xd dk_P_block 36 rfl) (by decide) ?_
  refine x_iadd hc (xd dk_P_block 37 rfl) ?_
  obtain ⟨r18, M, e19, hf⟩ := xbind_some hf
  refine x_callV hc (As := [.int ((p1 + 1))]) (n := 1) (hrc.1 _ _ _ _ _ _ e19) (c_P hb _) rfl (hR.call (by omega) (by decide)) ⟨by decide, by decide, by decide⟩ rfl rfl xw445 xw9 xw442 xw444 xs_P_statements (Nat.le_of_ble_eq_true rfl) ⟨Nat.zero_le _, Nat.zero_le _⟩ (xd dk_P_block 38 rfl) ?_
  refine x_if_eq hc (tgt := 91) (xd dk_P_block 39 rfl) rfl (fun q20 => ?_) (fun q20 => ?_)
  · rw [if_pos q20] at hf
    exact s_P_block_91 hc hR hb hd hrc v3 x15 M hf
  · rw [if_neg q20] at hf
    refine x_aload_n hc (xd dk_P_block 40 rfl) rfl rfl ?_
    refine x_getsK hc 19 (by decide) xw454 (xd dk_P_block 41 rfl) ?_
    obtain ⟨r21, M, e22, hf⟩ := xbind_some hf
    refine x_callV hc (As := [.ref (gE G 19)]) (n := 1) (s_P_take hb e22) (c_P hb _) rfl (hR.call (by omega) (by decide)) ⟨by decide, by decide, by decide⟩ rfl rfl xw491 xw9 xw488 xw490 xs_P_take (Nat.le_of_ble_eq_true rfl) ⟨Nat.zero_le _, Nat.zero_le _⟩ (xd dk_P_block 42 rfl) ?_
    refine x_if_eq hc (tgt := 91) (xd dk_P_block 43 rfl) rfl (fun q23 => ?_) (fun q23 => ?_)
    · rw [if_pos q23] at hf
      exact s_P_block_91 hc hR hb hd hrc v3 x15 M hf
    · rw [if_neg q23] at hf
      refine x_iconst hc (v := 1) (xd dk_P_block 44 rfl) (by decide) ?_
      refine x_goto hc (tgt := 92) (xd dk_P_block 45 rfl) rfl ?_
      exact s_P_block_92 hc hR hb hd hrc v3 x15 1 M hf
set_option maxRecDepth 100000 in
set_option maxHeartbeats 400000 in
theorem s_P_block {l : Launch} {G : xG} {Y : xY} {sz : Nat} {rc : Nat → Int32 → Int32 → Int32 → xMem → Option (Int32 × xMem)} {b : Nat} {p1 : Int32} {p2 : Int32} {d : Nat} (hb : xRd Y b) (hd : 8 ≤ d) (hrc : xGr l G Y b sz d rc) {M M' : xMem} {r : Int32} (hf : f_P_block rc b p1 p2 M = some (r, M')) : xM l G y_P_block c_P_block 6 (some .boolean) (d + 1) 0 0 [.ref (b + 29), .int p1, .int p2] (xo G Y M) sz (some (.int r)) (xo G Y M') sz := by
  unfold f_P_block at hf
  refine xM.of (k := 3) (L0 := [some (.ref (b + 29)), some (.int p1), some (.int p2), none, none, none]) (by decide) (Nat.le_of_ble_eq_true rfl) rfl ?_
  intro p e s m args below meth c hc hnm
  have hR : xRm { frames := (d + 1), cells := 0, slots := 0, locals := 48 * (d + 1) } (d + 1) := ⟨Nat.le_refl _, Nat.le_refl _⟩
  refine x_aload_n hc (xd dk_P_block 0 rfl) rfl rfl ?_
  refine x_get hc (ci := 8) (k := 4) fi_P (c_P hb _) rfl (by decide) rfl xw236 rfl (xd dk_P_block 1 rfl) ?_
  refine x_istore_n hc (xd dk_P_block 2 rfl) (by decide) rfl ?_
  refine x_aload_n hc (xd dk_P_block 3 rfl) rfl rfl ?_
  refine x_dup hc (xd dk_P_block 4 rfl) rfl ?_
  refine x_get hc (ci := 8) (k := 4) fi_P (c_P hb _) rfl (by decide) rfl xw236 rfl (xd dk_P_block 5 rfl) ?_
  refine x_iconst hc (v := 1) (xd dk_P_block 6 rfl) (by decide) ?_
  refine x_iadd hc (xd dk_P_block 7 rfl) ?_
  obtain ⟨x24, hx24, hf⟩ := xval_ex hf
  rw [← hx24]
  obtain ⟨x25, hx25, hf⟩ := xval_ex hf
  rw [← hx25]
  refine x_put hc (ci := 8) (k := 4) fi_P ft_P ft_P_ok fn_P (c_P hb _) rfl (by decide) rfl xw236 rfl rfl rfl (Nat.le_of_ble_eq_true rfl) (xd dk_P_block 8 rfl) ?_
  rw [w_P_4 hb]
  replace hf := xlet_some hf
  generalize wI M (b + 29) 4 x24 = M at hf ⊢
  refine x_aload_n hc (xd dk_P_block 9 rfl) rfl rfl ?_
  obtain ⟨r26, M, e27, hf⟩ := xbind_some hf
  refine x_callV hc (As := []) (n := 0) (s_P_next hb e27) (c_P hb _) rfl (hR.call (by omega) (by decide)) ⟨by decide, by decide, by decide⟩ rfl rfl xw449 xw9 xw446 xw448 xs_P_next (Nat.le_of_ble_eq_true rfl) ⟨Nat.zero_le _, Nat.zero_le _⟩ (xd dk_P_block 10 rfl) ?_
  by_cases htr26 : r26 < 28
  case neg => rw [if_neg htr26] at hf; cases hf
  rw [if_pos htr26] at hf
  refine x_getsK hc 19 (by decide) xw454 (xd dk_P_block 11 rfl) ?_
  refine x_tok_ne hc htr26 (by decide) (tgt := 47) (xd dk_P_block 12 rfl) rfl (fun q28 => ?_) (fun q28 => ?_)
  · rw [if_neg q28] at hf
    exact s_P_block_47 hc hR hb hd hrc x25 M hf
  · rw [if_pos q28] at hf
    refine x_aload_n hc (xd dk_P_block 13 rfl) rfl rfl ?_
    refine x_get hc (ci := 8) (k := 2) fi_P (c_P hb _) rfl (by decide) rfl xw234 rfl (xd dk_P_block 14 rfl) ?_
    refine x_iload_n hc (xd dk_P_block 15 rfl) rfl rfl ?_
    refine x_bipush hc (v := 8) (xd dk_P_block 16 rfl) (by decide) ?_
    obtain ⟨r29, M, e30, hf⟩ := xbind_some hf
    refine x_callV hc (As := [.int x25, .int 8]) (n := 2) (s_M_add hb e30) (c_M hb _) rfl (hR.call (by omega) (by decide)) ⟨by decide, by decide, by decide⟩ rfl rfl xw467 xw7 xw464 xw465 xw466 (Nat.le_of_ble_eq_true rfl) ⟨Nat.zero_le _, Nat.zero_le _⟩ (xd dk_P_block 17 rfl) ?_
    refine x_iload_n hc (xd dk_P_block 18 rfl) rfl rfl ?_
    refine x_if_eq hc (tgt := 47) (xd dk_P_block 19 rfl) rfl (fun q31 => ?_) (fun q31 => ?_)
    · rw [if_pos q31] at hf
      exact s_P_block_47 hc hR hb hd hrc x25 M hf
    · rw [if_neg q31] at hf
      refine x_aload_n hc (xd dk_P_block 20 rfl) rfl rfl ?_
      refine x_get hc (ci := 8) (k := 2) fi_P (c_P hb _) rfl (by decide) rfl xw234 rfl (xd dk_P_block 21 rfl) ?_
      refine x_iload_n hc (xd dk_P_block 22 rfl) rfl rfl ?_
      obtain ⟨r32, M, e33, hf⟩ := xbind_some hf
      refine x_callV hc (As := [.int x25]) (n := 1) (s_M_loosen hb e33) (c_M hb _) rfl (hR.call (by omega) (by decide)) ⟨by decide, by decide, by decide⟩ rfl rfl xw591 xw7 xw588 xw589 xw590 (Nat.le_of_ble_eq_true rfl) ⟨Nat.zero_le _, Nat.zero_le _⟩ (xd dk_P_block 23 rfl) ?_
      exact s_P_block_47 hc hR hb hd hrc x25 M hf
def f_P_choice_54 (rc : Nat → Int32 → Int32 → Int32 → xMem → Option (Int32 × xMem)) (b : Nat) (p1 : Int32) (M : xMem) : Option (Int32 × xMem) :=
  (some (1, M))
def f_P_choice (rc : Nat → Int32 → Int32 → Int32 → xMem → Option (Int32 × xMem)) (b : Nat) (p1 : Int32) (M : xMem) : Option (Int32 × xMem) :=
  (xval ((M.1 (b + 29) 4) + 1) fun x11 => xlet (wI M (b + 29) 4 x11) fun M => xbind (rc 6 p1 0 0 M) fun r12 M => if r12 = 0 then (some (0, M)) else (xbind (rc 1 (p1 + 1) 0 0 M) fun r15 M => if r15 = 0 then (some (0, M)) else (xbind (f_P_take b 5 M) fun r18 M => if r18 = 0 then (f_P_choice_54 rc b p1 M) else (xbind (rc 1 (p1 + 1) 0 0 M) fun r21 M => if r21 = 0 then (some (0, M)) else (f_P_choice_54 rc b p1 M)))))
set_option maxRecDepth 100000 in
set_option maxHeartbeats 400000 in
theorem s_P_choice_54 {p : Program} {l : Launch} {e : Env} {R : Room} {s : State} {m : MethodId} {args : Array Value} {below : List Frame} {meth : Method} {c : Code} {G : xG} {Y : xY} {sz : Nat} {rc : Nat → Int32 → Int32 → Int32 → xMem → Option (Int32 × xMem)} {b : Nat} {p1 : Int32} {d : Nat} (hc : xC p s m args meth c G 2 c_P_choice y_P_choice.cls (some .boolean)) (hR : xRm R (d + 1)) (hb : xRd Y b) (hd : 8 ≤ d) (hrc : xGr l G Y b sz d rc) {M' : xMem} {r : Int32} (M : xMem) (hf : f_P_choice_54 rc b p1 M = some (r, M')) : xW p l e R s m args below meth c G 2 (MQ below (xQc G (some (.int r)) (xo G Y M') sz) args s 0 0 (xA G)) (xo G Y M) sz 0 0 54 [some (.ref (b + 29)), some (.int p1)] [] := by
  unfold f_P_choice_54 at hf
  refine x_iconst hc (v := 1) (xd dk_P_choice 32 rfl) (by decide) ?_
  refine x_goto hc (tgt := 59) (xd dk_P_choice 33 rfl) rfl ?_
  cases hf
  exact x_zreturn hc rfl (xd dk_P_choice 35 rfl)
set_option maxRecDepth 100000 in
set_option maxHeartbeats 400000 in
theorem s_P_choice {l : Launch} {G : xG} {Y : xY} {sz : Nat} {rc : Nat → Int32 → Int32 → Int32 → xMem → Option (Int32 × xMem)} {b : Nat} {p1 : Int32} {d : Nat} (hb : xRd Y b) (hd : 8 ≤ d) (hrc : xGr l G Y b sz d rc) {M M' : xMem} {r : Int32} (hf : f_P_choice rc b p1 M = some (r, M')) : xM l G y_P_choice c_P_choice 2 (some .boolean) (d + 1) 0 0 [.ref (b + 29), .int p1] (xo G Y M) sz (some (.int r)) (xo G Y M') sz := by
  unfold f_P_choice at hf
  refine xM.of (k := 0) (L0 := [some (.ref (b + 29)), some (.int p1)]) (by decide) (Nat.le_of_ble_eq_true rfl) rfl ?_
  intro p e s m args below meth c hc hnm
  have hR : xRm { frames := (d + 1), cells := 0, slots := 0, locals := 48 * (d + 1) } (d + 1) := ⟨Nat.le_refl _, Nat.le_refl _⟩
  refine x_aload_n hc (xd dk_P_choice 0 rfl) rfl rfl ?_
  refine x_dup hc (xd dk_P_choice 1 rfl) rfl ?_
  refine x_get hc (ci := 8) (k := 4) fi_P (c_P hb _) rfl (by decide) rfl xw236 rfl (xd dk_P_choice 2 rfl) ?_
  refine x_iconst hc (v := 1) (xd dk_P_choice 3 rfl) (by decide) ?_
  refine x_iadd hc (xd dk_P_choice 4 rfl) ?_
  obtain ⟨x11, hx11, hf⟩ := xval_ex hf
  rw [← hx11]
  refine x_put hc (ci := 8) (k := 4) fi_P ft_P ft_P_ok fn_P (c_P hb _) rfl (by decide) rfl xw236 rfl rfl rfl (Nat.le_of_ble_eq_true rfl) (xd dk_P_choice 5 rfl) ?_
  rw [w_P_4 hb]
  replace hf := xlet_some hf
  generalize wI M (b + 29) 4 x11 = M at hf ⊢
  refine x_aload_n hc (xd dk_P_choice 6 rfl) rfl rfl ?_
  refine x_iload_n hc (xd dk_P_choice 7 rfl) rfl rfl ?_
  obtain ⟨r12, M, e13, hf⟩ := xbind_some hf
  refine x_callV hc (As := [.int p1]) (n := 1) (hrc.2.2.2.2.2.2.1 _ _ _ _ _ _ e13) (c_P hb _) rfl (hR.call (by omega) (by decide)) ⟨by decide, by decide, by decide⟩ rfl rfl xw599 xw9 xw596 xw598 xs_P_condition (Nat.le_of_ble_eq_true rfl) ⟨Nat.zero_le _, Nat.zero_le _⟩ (xd dk_P_choice 8 rfl) ?_
  refine x_if_eq hc (tgt := 30) (xd dk_P_choice 9 rfl) rfl (fun q14 => ?_) (fun q14 => ?_)
  · rw [if_pos q14] at hf
    refine x_iconst hc (v := 0) (xd dk_P_choice 18 rfl) (by decide) ?_
    cases hf
    exact x_zreturn hc rfl (xd dk_P_choice 19 rfl)
  · rw [if_neg q14] at hf
    refine x_aload_n hc (xd dk_P_choice 10 rfl) rfl rfl ?_
    refine x_iload_n hc (xd dk_P_choice 11 rfl) rfl rfl ?_
    refine x_iconst hc (v := 1) (xd dk_P_choice 12 rfl) (by decide) ?_
    refine x_iadd hc (xd dk_P_choice 13 rfl) ?_
    refine x_iconst hc (v := 0) (xd dk_P_choice 14 rfl) (by decide) ?_
    refine x_iconst hc (v := 0) (xd dk_P_choice 15 rfl) (by decide) ?_
    obtain ⟨r15, M, e16, hf⟩ := xbind_some hf
    refine x_callV hc (As := [.int ((p1 + 1)), .int 0, .int 0]) (n := 3) (hrc.2.1 _ _ _ _ _ _ e16) (c_P hb _) rfl (hR.call (by omega) (by decide)) ⟨by decide, by decide, by decide⟩ rfl rfl xw474 xw9 xw471 xw473 xs_P_statement (Nat.le_of_ble_eq_true rfl) ⟨Nat.zero_le _, Nat.zero_le _⟩ (xd dk_P_choice 16 rfl) ?_
    refine x_if_ne hc (tgt := 32) (xd dk_P_choice 17 rfl) rfl (fun q17 => ?_) (fun q17 => ?_)
    · rw [if_neg q17] at hf
      refine x_aload_n hc (xd dk_P_choice 20 rfl) rfl rfl ?_
      refine x_getsK hc 5 (by decide) xw600 (xd dk_P_choice 21 rfl) ?_
      obtain ⟨r18, M, e19, hf⟩ := xbind_some hf
      refine x_callV hc (As := [.ref (gE G 5)]) (n := 1) (s_P_take hb e19) (c_P hb _) rfl (hR.call (by omega) (by decide)) ⟨by decide, by decide, by decide⟩ rfl rfl xw491 xw9 xw488 xw490 xs_P_take (Nat.le_of_ble_eq_true rfl) ⟨Nat.zero_le _, Nat.zero_le _⟩ (xd dk_P_choice 22 rfl) ?_
      refine x_if_eq hc (tgt := 54) (xd dk_P_choice 23 rfl) rfl (fun q20 => ?_) (fun q20 => ?_)
      · rw [if_pos q20] at hf
        exact s_P_choice_54 hc hR hb hd hrc M hf
      · rw [if_neg q20] at hf
        refine x_aload_n hc (xd dk_P_choice 24 rfl) rfl rfl ?_
        refine x_iload_n hc (xd dk_P_choice 25 rfl) rfl rfl ?_
        refine x_iconst hc (v := 1) (xd dk_P_choice 26 rfl) (by decide) ?_
        refine x_iadd hc (xd dk_P_choice 27 rfl) ?_
        refine x_iconst hc (v := 0) (xd dk_P_choice 28 rfl) (by decide) ?_
        refine x_iconst hc (v := 0) (xd dk_P_choice 29 rfl) (by decide) ?_
        obtain ⟨r21, M, e22, hf⟩ := xbind_some hf
        refine x_callV hc (As := [.int ((p1 + 1)), .int 0, .int 0]) (n := 3) (hrc.2.1 _ _ _ _ _ _ e22) (c_P hb _) rfl (hR.call (by omega) (by decide)) ⟨by decide, by decide, by decide⟩ rfl rfl xw474 xw9 xw471 xw473 xs_P_statement (Nat.le_of_ble_eq_true rfl) ⟨Nat.zero_le _, Nat.zero_le _⟩ (xd dk_P_choice 30 rfl) ?_
        refine x_if_eq hc (tgt := 58) (xd dk_P_choice 31 rfl) rfl (fun q23 => ?_) (fun q23 => ?_)
        · rw [if_pos q23] at hf
          refine x_iconst hc (v := 0) (xd dk_P_choice 34 rfl) (by decide) ?_
          cases hf
          exact x_zreturn hc rfl (xd dk_P_choice 35 rfl)
        · rw [if_neg q23] at hf
          exact s_P_choice_54 hc hR hb hd hrc M hf
    · rw [if_pos q17] at hf
      refine x_iconst hc (v := 0) (xd dk_P_choice 18 rfl) (by decide) ?_
      cases hf
      exact x_zreturn hc rfl (xd dk_P_choice 19 rfl)
def f_P_condition (rc : Nat → Int32 → Int32 → Int32 → xMem → Option (Int32 × xMem)) (b : Nat) (p1 : Int32) (M : xMem) : Option (Int32 × xMem) :=
  (xbind (f_P_take b 16 M) fun r8 M => if r8 = 0 then (some (0, M)) else (xbind (rc 10 p1 0 0 M) fun r11 M => if r11 = 0 then (some (0, M)) else (xbind (f_P_take b 17 M) fun r14 M => if r14 = 0 then (some (0, M)) else (some (1, M)))))
set_option maxRecDepth 100000 in
set_option maxHeartbeats 400000 in
theorem s_P_condition {l : Launch} {G : xG} {Y : xY} {sz : Nat} {rc : Nat → Int32 → Int32 → Int32 → xMem → Option (Int32 × xMem)} {b : Nat} {p1 : Int32} {d : Nat} (hb : xRd Y b) (hd : 8 ≤ d) (hrc : xGr l G Y b sz d rc) {M M' : xMem} {r : Int32} (hf : f_P_condition rc b p1 M = some (r, M')) : xM l G y_P_condition c_P_condition 2 (some .boolean) (d + 1) 0 0 [.ref (b + 29), .int p1] (xo G Y M) sz (some (.int r)) (xo G Y M') sz := by
  unfold f_P_condition at hf
  refine xM.of (k := 0) (L0 := [some (.ref (b + 29)), some (.int p1)]) (by decide) (Nat.le_of_ble_eq_true rfl) rfl ?_
  intro p e s m args below meth c hc hnm
  have hR : xRm { frames := (d + 1), cells := 0, slots := 0, locals := 48 * (d + 1) } (d + 1) := ⟨Nat.le_refl _, Nat.le_refl _⟩
  refine x_aload_n hc (xd dk_P_condition 0 rfl) rfl rfl ?_
  refine x_getsK hc 16 (by decide) xw541 (xd dk_P_condition 1 rfl) ?_
  obtain ⟨r8, M, e9, hf⟩ := xbind_some hf
  refine x_callV hc (As := [.ref (gE G 16)]) (n := 1) (s_P_take hb e9) (c_P hb _) rfl (hR.call (by omega) (by decide)) ⟨by decide, by decide, by decide⟩ rfl rfl xw491 xw9 xw488 xw490 xs_P_take (Nat.le_of_ble_eq_true rfl) ⟨Nat.zero_le _, Nat.zero_le _⟩ (xd dk_P_condition 2 rfl) ?_
  refine x_if_eq hc (tgt := 32) (xd dk_P_condition 3 rfl) rfl (fun q10 => ?_) (fun q10 => ?_)
  · rw [if_pos q10] at hf
    refine x_iconst hc (v := 0) (xd dk_P_condition 14 rfl) (by decide) ?_
    cases hf
    exact x_zreturn hc rfl (xd dk_P_condition 15 rfl)
  · rw [if_neg q10] at hf
    refine x_aload_n hc (xd dk_P_condition 4 rfl) rfl rfl ?_
    refine x_iload_n hc (xd dk_P_condition 5 rfl) rfl rfl ?_
    obtain ⟨r11, M, e12, hf⟩ := xbind_some hf
    refine x_callV hc (As := [.int p1]) (n := 1) (hrc.2.2.2.2.2.2.2.2.2.2.1 _ _ _ _ _ _ e12) (c_P hb _) rfl (hR.call (by omega) (by decide)) ⟨by decide, by decide, by decide⟩ rfl rfl xw526 xw9 xw523 xw525 xs_P_value (Nat.le_of_ble_eq_true rfl) ⟨Nat.zero_le _, Nat.zero_le _⟩ (xd dk_P_condition 6 rfl) ?_
    refine x_if_eq hc (tgt := 32) (xd dk_P_condition 7 rfl) rfl (fun q13 => ?_) (fun q13 => ?_)
    · rw [if_pos q13] at hf
      refine x_iconst hc (v := 0) (xd dk_P_condition 14 rfl) (by decide) ?_
      cases hf
      exact x_zreturn hc rfl (xd dk_P_condition 15 rfl)
    · rw [if_neg q13] at hf
      refine x_aload_n hc (xd dk_P_condition 8 rfl) rfl rfl ?_
      refine x_getsK hc 17 (by decide) xw543 (xd dk_P_condition 9 rfl) ?_
      obtain ⟨r14, M, e15, hf⟩ := xbind_some hf
      refine x_callV hc (As := [.ref (gE G 17)]) (n := 1) (s_P_take hb e15) (c_P hb _) rfl (hR.call (by omega) (by decide)) ⟨by decide, by decide, by decide⟩ rfl rfl xw491 xw9 xw488 xw490 xs_P_take (Nat.le_of_ble_eq_true rfl) ⟨Nat.zero_le _, Nat.zero_le _⟩ (xd dk_P_condition 10 rfl) ?_
      refine x_if_eq hc (tgt := 32) (xd dk_P_condition 11 rfl) rfl (fun q16 => ?_) (fun q16 => ?_)
      · rw [if_pos q16] at hf
        refine x_iconst hc (v := 0) (xd dk_P_condition 14 rfl) (by decide) ?_
        cases hf
        exact x_zreturn hc rfl (xd dk_P_condition 15 rfl)
      · rw [if_neg q16] at hf
        refine x_iconst hc (v := 1) (xd dk_P_condition 12 rfl) (by decide) ?_
        refine x_goto hc (tgt := 33) (xd dk_P_condition 13 rfl) rfl ?_
        cases hf
        exact x_zreturn hc rfl (xd dk_P_condition 15 rfl)
def f_P_loop (rc : Nat → Int32 → Int32 → Int32 → xMem → Option (Int32 × xMem)) (b : Nat) (p1 : Int32) (M : xMem) : Option (Int32 × xMem) :=
  (xval ((M.1 (b + 29) 4) + 1) fun x6 => xlet (wI M (b + 29) 4 x6) fun M => xbind (rc 6 p1 0 0 M) fun r7 M => if r7 = 0 then (some (0, M)) else (xbind (rc 1 (p1 + 1) 0 0 M) fun r10 M => if r10 = 0 then (some (0, M)) else (some (1, M))))
set_option maxRecDepth 100000 in
set_option maxHeartbeats 400000 in
theorem s_P_loop {l : Launch} {G : xG} {Y : xY} {sz : Nat} {rc : Nat → Int32 → Int32 → Int32 → xMem → Option (Int32 × xMem)} {b : Nat} {p1 : Int32} {d : Nat} (hb : xRd Y b) (hd : 8 ≤ d) (hrc : xGr l G Y b sz d rc) {M M' : xMem} {r : Int32} (hf : f_P_loop rc b p1 M = some (r, M')) : xM l G y_P_loop c_P_loop 2 (some .boolean) (d + 1) 0 0 [.ref (b + 29), .int p1] (xo G Y M) sz (some (.int r)) (xo G Y M') sz := by
  unfold f_P_loop at hf
  refine xM.of (k := 0) (L0 := [some (.ref (b + 29)), some (.int p1)]) (by decide) (Nat.le_of_ble_eq_true rfl) rfl ?_
  intro p e s m args below meth c hc hnm
  have hR : xRm { frames := (d + 1), cells := 0, slots := 0, locals := 48 * (d + 1) } (d + 1) := ⟨Nat.le_refl _, Nat.le_refl _⟩
  refine x_aload_n hc (xd dk_P_loop 0 rfl) rfl rfl ?_
  refine x_dup hc (xd dk_P_loop 1 rfl) rfl ?_
  refine x_get hc (ci := 8) (k := 4) fi_P (c_P hb _) rfl (by decide) rfl xw236 rfl (xd dk_P_loop 2 rfl) ?_
  refine x_iconst hc (v := 1) (xd dk_P_loop 3 rfl) (by decide) ?_
  refine x_iadd hc (xd dk_P_loop 4 rfl) ?_
  obtain ⟨x6, hx6, hf⟩ := xval_ex hf
  rw [← hx6]
  refine x_put hc (ci := 8) (k := 4) fi_P ft_P ft_P_ok fn_P (c_P hb _) rfl (by decide) rfl xw236 rfl rfl rfl (Nat.le_of_ble_eq_true rfl) (xd dk_P_loop 5 rfl) ?_
  rw [w_P_4 hb]
  replace hf := xlet_some hf
  generalize wI M (b + 29) 4 x6 = M at hf ⊢
  refine x_aload_n hc (xd dk_P_loop 6 rfl) rfl rfl ?_
  refine x_iload_n hc (xd dk_P_loop 7 rfl) rfl rfl ?_
  obtain ⟨r7, M, e8, hf⟩ := xbind_some hf
  refine x_callV hc (As := [.int p1]) (n := 1) (hrc.2.2.2.2.2.2.1 _ _ _ _ _ _ e8) (c_P hb _) rfl (hR.call (by omega) (by decide)) ⟨by decide, by decide, by decide⟩ rfl rfl xw599 xw9 xw596 xw598 xs_P_condition (Nat.le_of_ble_eq_true rfl) ⟨Nat.zero_le _, Nat.zero_le _⟩ (xd dk_P_loop 8 rfl) ?_
  refine x_if_eq hc (tgt := 34) (xd dk_P_loop 9 rfl) rfl (fun q9 => ?_) (fun q9 => ?_)
  · rw [if_pos q9] at hf
    refine x_iconst hc (v := 0) (xd dk_P_loop 20 rfl) (by decide) ?_
    cases hf
    exact x_zreturn hc rfl (xd dk_P_loop 21 rfl)
  · rw [if_neg q9] at hf
    refine x_aload_n hc (xd dk_P_loop 10 rfl) rfl rfl ?_
    refine x_iload_n hc (xd dk_P_loop 11 rfl) rfl rfl ?_
    refine x_iconst hc (v := 1) (xd dk_P_loop 12 rfl) (by decide) ?_
    refine x_iadd hc (xd dk_P_loop 13 rfl) ?_
    refine x_iconst hc (v := 0) (xd dk_P_loop 14 rfl) (by decide) ?_
    refine x_iconst hc (v := 0) (xd dk_P_loop 15 rfl) (by decide) ?_
    obtain ⟨r10, M, e11, hf⟩ := xbind_some hf
    refine x_callV hc (As := [.int ((p1 + 1)), .int 0, .int 0]) (n := 3) (hrc.2.1 _ _ _ _ _ _ e11) (c_P hb _) rfl (hR.call (by omega) (by decide)) ⟨by decide, by decide, by decide⟩ rfl rfl xw474 xw9 xw471 xw473 xs_P_statement (Nat.le_of_ble_eq_true rfl) ⟨Nat.zero_le _, Nat.zero_le _⟩ (xd dk_P_loop 16 rfl) ?_
    refine x_if_eq hc (tgt := 34) (xd dk_P_loop 17 rfl) rfl (fun q12 => ?_) (fun q12 => ?_)
    · rw [if_pos q12] at hf
      refine x_iconst hc (v := 0) (xd dk_P_loop 20 rfl) (by decide) ?_
      cases hf
      exact x_zreturn hc rfl (xd dk_P_loop 21 rfl)
    · rw [if_neg q12] at hf
      refine x_iconst hc (v := 1) (xd dk_P_loop 18 rfl) (by decide) ?_
      refine x_goto hc (tgt := 35) (xd dk_P_loop 19 rfl) rfl ?_
      cases hf
      exact x_zreturn hc rfl (xd dk_P_loop 21 rfl)
def f_P_leave_38 (rc : Nat → Int32 → Int32 → Int32 → xMem → Option (Int32 × xMem)) (b : Nat) (p1 : Int32) (M : xMem) : Option (Int32 × xMem) :=
  (some (1, M))
def f_P_leave (rc : Nat → Int32 → Int32 → Int32 → xMem → Option (Int32 × xMem)) (b : Nat) (p1 : Int32) (M : xMem) : Option (Int32 × xMem) :=
  (xval ((M.1 (b + 29) 4) + 1) fun x8 => xlet (wI M (b + 29) 4 x8) fun M => xbind (f_P_take b 20 M) fun r9 M => if r9 = 0 then (xbind (rc 10 p1 0 0 M) fun r12 M => if r12 = 0 then (some (0, M)) else (xbind (f_P_take b 20 M) fun r15 M => if r15 = 0 then (some (0, M)) else (f_P_leave_38 rc b p1 M))) else (f_P_leave_38 rc b p1 M))
set_option maxRecDepth 100000 in
set_option maxHeartbeats 400000 in
theorem s_P_leave_38 {p : Program} {l : Launch} {e : Env} {R : Room} {s : State} {m : MethodId} {args : Array Value} {below : List Frame} {meth : Method} {c : Code} {G : xG} {Y : xY} {sz : Nat} {rc : Nat → Int32 → Int32 → Int32 → xMem → Option (Int32 × xMem)} {b : Nat} {p1 : Int32} {d : Nat} (hc : xC p s m args meth c G 2 c_P_leave y_P_leave.cls (some .boolean)) (hR : xRm R (d + 1)) (hb : xRd Y b) (hd : 8 ≤ d) (hrc : xGr l G Y b sz d rc) {M' : xMem} {r : Int32} (M : xMem) (hf : f_P_leave_38 rc b p1 M = some (r, M')) : xW p l e R s m args below meth c G 2 (MQ below (xQc G (some (.int r)) (xo G Y M') sz) args s 0 0 (xA G)) (xo G Y M) sz 0 0 38 [some (.ref (b + 29)), some (.int p1)] [] := by
  unfold f_P_leave_38 at hf
  refine x_iconst hc (v := 1) (xd dk_P_leave 18 rfl) (by decide) ?_
  refine x_goto hc (tgt := 43) (xd dk_P_leave 19 rfl) rfl ?_
  cases hf
  exact x_zreturn hc rfl (xd dk_P_leave 21 rfl)
set_option maxRecDepth 100000 in
set_option maxHeartbeats 400000 in
theorem s_P_leave {l : Launch} {G : xG} {Y : xY} {sz : Nat} {rc : Nat → Int32 → Int32 → Int32 → xMem → Option (Int32 × xMem)} {b : Nat} {p1 : Int32} {d : Nat} (hb : xRd Y b) (hd : 8 ≤ d) (hrc : xGr l G Y b sz d rc) {M M' : xMem} {r : Int32} (hf : f_P_leave rc b p1 M = some (r, M')) : xM l G y_P_leave c_P_leave 2 (some .boolean) (d + 1) 0 0 [.ref (b + 29), .int p1] (xo G Y M) sz (some (.int r)) (xo G Y M') sz := by
  unfold f_P_leave at hf
  refine xM.of (k := 0) (L0 := [some (.ref (b + 29)), some (.int p1)]) (by decide) (Nat.le_of_ble_eq_true rfl) rfl ?_
  intro p e s m args below meth c hc hnm
  have hR : xRm { frames := (d + 1), cells := 0, slots := 0, locals := 48 * (d + 1) } (d + 1) := ⟨Nat.le_refl _, Nat.le_refl _⟩
  refine x_aload_n hc (xd dk_P_leave 0 rfl) rfl rfl ?_
  refine x_dup hc (xd dk_P_leave 1 rfl) rfl ?_
  refine x_get hc (ci := 8) (k := 4) fi_P (c_P hb _) rfl (by decide) rfl xw236 rfl (xd dk_P_leave 2 rfl) ?_
  refine x_iconst hc (v := 1) (xd dk_P_leave 3 rfl) (by decide) ?_
  refine x_iadd hc (xd dk_P_leave 4 rfl) ?_
  obtain ⟨x8, hx8, hf⟩ := xval_ex hf
  rw [← hx8]
  refine x_put hc (ci := 8) (k := 4) fi_P ft_P ft_P_ok fn_P (c_P hb _) rfl (by decide) rfl xw236 rfl rfl rfl (Nat.le_of_ble_eq_true rfl) (xd dk_P_leave 5 rfl) ?_
  rw [w_P_4 hb]
  replace hf := xlet_some hf
  generalize wI M (b + 29) 4 x8 = M at hf ⊢
  refine x_aload_n hc (xd dk_P_leave 6 rfl) rfl rfl ?_
  refine x_getsK hc 20 (by decide) xw568 (xd dk_P_leave 7 rfl) ?_
  obtain ⟨r9, M, e10, hf⟩ := xbind_some hf
  refine x_callV hc (As := [.ref (gE G 20)]) (n := 1) (s_P_take hb e10) (c_P hb _) rfl (hR.call (by omega) (by decide)) ⟨by decide, by decide, by decide⟩ rfl rfl xw491 xw9 xw488 xw490 xs_P_take (Nat.le_of_ble_eq_true rfl) ⟨Nat.zero_le _, Nat.zero_le _⟩ (xd dk_P_leave 8 rfl) ?_
  refine x_if_ne hc (tgt := 38) (xd dk_P_leave 9 rfl) rfl (fun q11 => ?_) (fun q11 => ?_)
  · rw [if_neg q11] at hf
    exact s_P_leave_38 hc hR hb hd hrc M hf
  · rw [if_pos q11] at hf
    refine x_aload_n hc (xd dk_P_leave 10 rfl) rfl rfl ?_
    refine x_iload_n hc (xd dk_P_leave 11 rfl) rfl rfl ?_
    obtain ⟨r12, M, e13, hf⟩ := xbind_some hf
    refine x_callV hc (As := [.int p1]) (n := 1) (hrc.2.2.2.2.2.2.2.2.2.2.1 _ _ _ _ _ _ e13) (c_P hb _) rfl (hR.call (by omega) (by decide)) ⟨by decide, by decide, by decide⟩ rfl rfl xw526 xw9 xw523 xw525 xs_P_value (Nat.le_of_ble_eq_true rfl) ⟨Nat.zero_le _, Nat.zero_le _⟩ (xd dk_P_leave 12 rfl) ?_
    refine x_if_eq hc (tgt := 42) (xd dk_P_leave 13 rfl) rfl (fun q14 => ?_) (fun q14 => ?_)
    · rw [if_pos q14] at hf
      refine x_iconst hc (v := 0) (xd dk_P_leave 20 rfl) (by decide) ?_
      cases hf
      exact x_zreturn hc rfl (xd dk_P_leave 21 rfl)
    · rw [if_neg q14] at hf
      refine x_aload_n hc (xd dk_P_leave 14 rfl) rfl rfl ?_
      refine x_getsK hc 20 (by decide) xw568 (xd dk_P_leave 15 rfl) ?_
      obtain ⟨r15, M, e16, hf⟩ := xbind_some hf
      refine x_callV hc (As := [.ref (gE G 20)]) (n := 1) (s_P_take hb e16) (c_P hb _) rfl (hR.call (by omega) (by decide)) ⟨by decide, by decide, by decide⟩ rfl rfl xw491 xw9 xw488 xw490 xs_P_take (Nat.le_of_ble_eq_true rfl) ⟨Nat.zero_le _, Nat.zero_le _⟩ (xd dk_P_leave 16 rfl) ?_
      refine x_if_eq hc (tgt := 42) (xd dk_P_leave 17 rfl) rfl (fun q17 => ?_) (fun q17 => ?_)
      · rw [if_pos q17] at hf
        refine x_iconst hc (v := 0) (xd dk_P_leave 20 rfl) (by decide) ?_
        cases hf
        exact x_zreturn hc rfl (xd dk_P_leave 21 rfl)
      · rw [if_neg q17] at hf
        exact s_P_leave_38 hc hR hb hd hrc M hf
def f_P_excuse (rc : Nat → Int32 → Int32 → Int32 → xMem → Option (Int32 × xMem)) (b : Nat) (p1 : Int32) (p2 : Int32) (M : xMem) : Option (Int32 × xMem) :=
  (xval ((M.1 (b + 29) 4) + 1) fun x10 => xlet (wI M (b + 29) 4 x10) fun M => xval (M.1 (b + 29) 4) fun x11 => xbind (f_T_digitOf b x11 M) fun r12 M => if 0 ≤ r12 then (xval ((M.1 (b + 29) 4) + 1) fun x15 => xlet (wI M (b + 29) 4 x15) fun M => xval (M.1 (b + 29) 4) fun x16 => xbind (rc 1 (p1 + 1) 0 p2 M) fun r17 M => if r17 = 0 then (some (0, M)) else (xval ((M.1 (b + 29) 4) - 1) fun x20 => xbind (f_M_excuse b r12 x16 x20 M) fun r21 M => some (1, M))) else (some (0, M)))
set_option maxRecDepth 100000 in
set_option maxHeartbeats 400000 in
theorem s_P_excuse {l : Launch} {G : xG} {Y : xY} {sz : Nat} {rc : Nat → Int32 → Int32 → Int32 → xMem → Option (Int32 × xMem)} {b : Nat} {p1 : Int32} {p2 : Int32} {d : Nat} (hb : xRd Y b) (hd : 8 ≤ d) (hrc : xGr l G Y b sz d rc) {M M' : xMem} {r : Int32} (hf : f_P_excuse rc b p1 p2 M = some (r, M')) : xM l G y_P_excuse c_P_excuse 5 (some .boolean) (d + 1) 0 0 [.ref (b + 29), .int p1, .int p2] (xo G Y M) sz (some (.int r)) (xo G Y M') sz := by
  unfold f_P_excuse at hf
  refine xM.of (k := 2) (L0 := [some (.ref (b + 29)), some (.int p1), some (.int p2), none, none]) (by decide) (Nat.le_of_ble_eq_true rfl) rfl ?_
  intro p e s m args below meth c hc hnm
  have hR : xRm { frames := (d + 1), cells := 0, slots := 0, locals := 48 * (d + 1) } (d + 1) := ⟨Nat.le_refl _, Nat.le_refl _⟩
  refine x_aload_n hc (xd dk_P_excuse 0 rfl) rfl rfl ?_
  refine x_dup hc (xd dk_P_excuse 1 rfl) rfl ?_
  refine x_get hc (ci := 8) (k := 4) fi_P (c_P hb _) rfl (by decide) rfl xw236 rfl (xd dk_P_excuse 2 rfl) ?_
  refine x_iconst hc (v := 1) (xd dk_P_excuse 3 rfl) (by decide) ?_
  refine x_iadd hc (xd dk_P_excuse 4 rfl) ?_
  obtain ⟨x10, hx10, hf⟩ := xval_ex hf
  rw [← hx10]
  refine x_put hc (ci := 8) (k := 4) fi_P ft_P ft_P_ok fn_P (c_P hb _) rfl (by decide) rfl xw236 rfl rfl rfl (Nat.le_of_ble_eq_true rfl) (xd dk_P_excuse 5 rfl) ?_
  rw [w_P_4 hb]
  replace hf := xlet_some hf
  generalize wI M (b + 29) 4 x10 = M at hf ⊢
  refine x_aload_n hc (xd dk_P_excuse 6 rfl) rfl rfl ?_
  refine x_get hc (ci := 8) (k := 0) fi_P (c_P hb _) rfl (by decide) rfl xw232 rfl (xd dk_P_excuse 7 rfl) ?_
  refine x_aload_n hc (xd dk_P_excuse 8 rfl) rfl rfl ?_
  refine x_get hc (ci := 8) (k := 4) fi_P (c_P hb _) rfl (by decide) rfl xw236 rfl (xd dk_P_excuse 9 rfl) ?_
  obtain ⟨x11, hx11, hf⟩ := xval_ex hf
  rw [← hx11]
  obtain ⟨r12, M, e13, hf⟩ := xbind_some hf
  refine x_callV hc (As := [.int x11]) (n := 1) (s_T_digitOf hb e13) (c_T hb _) rfl (hR.call (by omega) (by decide)) ⟨by decide, by decide, by decide⟩ rfl rfl xw617 xw4 xw614 xw615 xw616 (Nat.le_of_ble_eq_true rfl) ⟨Nat.zero_le _, Nat.zero_le _⟩ (xd dk_P_excuse 10 rfl) ?_
  refine x_istore_n hc (xd dk_P_excuse 11 rfl) (by decide) rfl ?_
  refine x_iload_n hc (xd dk_P_excuse 12 rfl) rfl rfl ?_
  refine x_if_ge hc (tgt := 28) (xd dk_P_excuse 13 rfl) rfl (fun q14 => ?_) (fun q14 => ?_)
  · rw [if_pos q14] at hf
    refine x_aload_n hc (xd dk_P_excuse 16 rfl) rfl rfl ?_
    refine x_dup hc (xd dk_P_excuse 17 rfl) rfl ?_
    refine x_get hc (ci := 8) (k := 4) fi_P (c_P hb _) rfl (by decide) rfl xw236 rfl (xd dk_P_excuse 18 rfl) ?_
    refine x_iconst hc (v := 1) (xd dk_P_excuse 19 rfl) (by decide) ?_
    refine x_iadd hc (xd dk_P_excuse 20 rfl) ?_
    obtain ⟨x15, hx15, hf⟩ := xval_ex hf
    rw [← hx15]
    refine x_put hc (ci := 8) (k := 4) fi_P ft_P ft_P_ok fn_P (c_P hb _) rfl (by decide) rfl xw236 rfl rfl rfl (Nat.le_of_ble_eq_true rfl) (xd dk_P_excuse 21 rfl) ?_
    rw [w_P_4 hb]
    replace hf := xlet_some hf
    generalize wI M (b + 29) 4 x15 = M at hf ⊢
    refine x_aload_n hc (xd dk_P_excuse 22 rfl) rfl rfl ?_
    refine x_get hc (ci := 8) (k := 4) fi_P (c_P hb _) rfl (by decide) rfl xw236 rfl (xd dk_P_excuse 23 rfl) ?_
    refine x_istore hc (xd dk_P_excuse 24 rfl) (by decide) rfl ?_
    refine x_aload_n hc (xd dk_P_excuse 25 rfl) rfl rfl ?_
    refine x_iload_n hc (xd dk_P_excuse 26 rfl) rfl rfl ?_
    refine x_iconst hc (v := 1) (xd dk_P_excuse 27 rfl) (by decide) ?_
    refine x_iadd hc (xd dk_P_excuse 28 rfl) ?_
    refine x_iconst hc (v := 0) (xd dk_P_excuse 29 rfl) (by decide) ?_
    refine x_iload_n hc (xd dk_P_excuse 30 rfl) rfl rfl ?_
    obtain ⟨x16, hx16, hf⟩ := xval_ex hf
    rw [← hx16]
    obtain ⟨r17, M, e18, hf⟩ := xbind_some hf
    refine x_callV hc (As := [.int ((p1 + 1)), .int 0, .int p2]) (n := 3) (hrc.2.1 _ _ _ _ _ _ e18) (c_P hb _) rfl (hR.call (by omega) (by decide)) ⟨by decide, by decide, by decide⟩ rfl rfl xw474 xw9 xw471 xw473 xs_P_statement (Nat.le_of_ble_eq_true rfl) ⟨Nat.zero_le _, Nat.zero_le _⟩ (xd dk_P_excuse 31 rfl) ?_
    refine x_if_ne hc (tgt := 58) (xd dk_P_excuse 32 rfl) rfl (fun q19 => ?_) (fun q19 => ?_)
    · rw [if_neg q19] at hf
      refine x_aload_n hc (xd dk_P_excuse 35 rfl) rfl rfl ?_
      refine x_get hc (ci := 8) (k := 2) fi_P (c_P hb _) rfl (by decide) rfl xw234 rfl (xd dk_P_excuse 36 rfl) ?_
      refine x_iload_n hc (xd dk_P_excuse 37 rfl) rfl rfl ?_
      refine x_iload hc (xd dk_P_excuse 38 rfl) rfl ?_
      refine x_aload_n hc (xd dk_P_excuse 39 rfl) rfl rfl ?_
      refine x_get hc (ci := 8) (k := 4) fi_P (c_P hb _) rfl (by decide) rfl xw236 rfl (xd dk_P_excuse 40 rfl) ?_
      refine x_iconst hc (v := 1) (xd dk_P_excuse 41 rfl) (by decide) ?_
      refine x_isub hc (xd dk_P_excuse 42 rfl) ?_
      obtain ⟨x20, hx20, hf⟩ := xval_ex hf
      rw [← hx20]
      obtain ⟨r21, M, e22, hf⟩ := xbind_some hf
      refine x_callV hc (As := [.int r12, .int x16, .int x20]) (n := 3) (s_M_excuse hb e22) (c_M hb _) rfl (hR.call (by omega) (by decide)) ⟨by decide, by decide, by decide⟩ rfl rfl xw629 xw7 xw626 xw627 xw628 (Nat.le_of_ble_eq_true rfl) ⟨Nat.zero_le _, Nat.zero_le _⟩ (xd dk_P_excuse 43 rfl) ?_
      refine x_iconst hc (v := 1) (xd dk_P_excuse 44 rfl) (by decide) ?_
      cases hf
      exact x_zreturn hc rfl (xd dk_P_excuse 45 rfl)
    · rw [if_pos q19] at hf
      refine x_iconst hc (v := 0) (xd dk_P_excuse 33 rfl) (by decide) ?_
      cases hf
      exact x_zreturn hc rfl (xd dk_P_excuse 34 rfl)
  · rw [if_neg q14] at hf
    refine x_iconst hc (v := 0) (xd dk_P_excuse 14 rfl) (by decide) ?_
    cases hf
    exact x_zreturn hc rfl (xd dk_P_excuse 15 rfl)
def f_P_value_124 (rc : Nat → Int32 → Int32 → Int32 → xMem → Option (Int32 × xMem)) (b : Nat) (p1 : Int32) (k73 : Int32 → xMem → Option (Int32 × xMem)) (v2 : Int32) (M : xMem) : Option (Int32 × xMem) :=
  (xval ((M.1 (b + 29) 4) + 1) fun x24 => xlet (wI M (b + 29) 4 x24) fun M => k73 (v2 + Int32.ofInt 1) M)
def f_P_value_73 (rc : Nat → Int32 → Int32 → Int32 → xMem → Option (Int32 × xMem)) (b : Nat) (p1 : Int32) : Nat → Int32 → xMem → Option (Int32 × xMem)
  | 0, _, _ => none
  | n + 1, v2, M =>
    (if 60 < v2 then (some (0, M)) else (xbind (rc 11 p1 0 0 M) fun r26 M => if r26 = 0 then (some (0, M)) else (xbind (f_P_next b M) fun r29 M => if r29 < 28 then xbind (f_K_joinsParts r29 M) fun r31 M => if r31 = 0 then (some (1, M)) else (xbind (f_P_next b M) fun r34 M => if r34 < 28 then if r34 = 9 then (xval (M.1 (b + 29) 4) fun x37 => xbind (f_M_add b x37 6 M) fun r38 M => f_P_value_124 rc b p1 (f_P_value_73 rc b p1 n) v2 M) else (f_P_value_124 rc b p1 (f_P_value_73 rc b p1 n) v2 M) else none) else none)))
def f_P_value_71 (rc : Nat → Int32 → Int32 → Int32 → xMem → Option (Int32 × xMem)) (b : Nat) (p1 : Int32) (M : xMem) : Option (Int32 × xMem) :=
  (f_P_value_73 rc b p1 xFuel 0 M)
def f_P_value (rc : Nat → Int32 → Int32 → Int32 → xMem → Option (Int32 × xMem)) (b : Nat) (p1 : Int32) (M : xMem) : Option (Int32 × xMem) :=
  (if p1 ≤ 12 then (xbind (f_P_next b M) fun r41 M => if r41 < 28 then if r41 = 23 then (xval ((M.1 (b + 29) 4) + 1) fun x44 => xbind (f_T_kindOf b x44 M) fun r45 M => if r45 < 28 then if r45 = 10 then (xval (M.1 (b + 29) 5) fun x48 => xval (M.1 (b + 29) 4) fun x49 => xbind (f_B_addUse b x49 x48 1 M) fun r50 M => xval ((M.1 (b + 29) 4) + 2) fun x52 => xlet (wI M (b + 29) 4 x52) fun M => xbind (rc 10 (p1 + 1) 0 0 M) fun r53 M => if xnar .boolean r53 = true then some (r53, M) else none) else (f_P_value_71 rc b p1 M) else none) else (f_P_value_71 rc b p1 M) else none) else (some (0, M)))
set_option maxRecDepth 100000 in
set_option maxHeartbeats 400000 in
theorem s_P_value_124 {p : Program} {l : Launch} {e : Env} {R : Room} {s : State} {m : MethodId} {args : Array Value} {below : List Frame} {meth : Method} {c : Code} {G : xG} {Y : xY} {sz : Nat} {rc : Nat → Int32 → Int32 → Int32 → xMem → Option (Int32 × xMem)} {b : Nat} {p1 : Int32} {d : Nat} (hc : xC p s m args meth c G 3 c_P_value y_P_value.cls (some .boolean)) (hR : xRm R (d + 1)) (hb : xRd Y b) (hd : 8 ≤ d) (hrc : xGr l G Y b sz d rc) {k73 : Int32 → xMem → Option (Int32 × xMem)} {M' : xMem} {r : Int32} (hk73 : ∀ (v2 : Int32) (M : xMem), k73 v2 M = some (r, M') → xW p l e R s m args below meth c G 3 (MQ below (xQc G (some (.int r)) (xo G Y M') sz) args s 0 0 (xA G)) (xo G Y M) sz 0 0 73 [some (.ref (b + 29)), some (.int p1), some (.int v2)] []) (v2 : Int32) (M : xMem) (hf : f_P_value_124 rc b p1 k73 v2 M = some (r, M')) : xW p l e R s m args below meth c G 3 (MQ below (xQc G (some (.int r)) (xo G Y M') sz) args s 0 0 (xA G)) (xo G Y M) sz 0 0 124 [some (.ref (b + 29)), some (.int p1), some (.int v2)] [] := by
  unfold f_P_value_124 at hf
  refine x_aload_n hc (xd dk_P_value 65 rfl) rfl rfl ?_
  refine x_dup hc (xd dk_P_value 66 rfl) rfl ?_
  refine x_get hc (ci := 8) (k := 4) fi_P (c_P hb _) rfl (by decide) rfl xw236 rfl (xd dk_P_value 67 rfl) ?_
  refine x_iconst hc (v := 1) (xd dk_P_value 68 rfl) (by decide) ?_
  refine x_iadd hc (xd dk_P_value 69 rfl) ?_
  obtain ⟨x24, hx24, hf⟩ := xval_ex hf
  rw [← hx24]
  refine x_put hc (ci := 8) (k := 4) fi_P ft_P ft_P_ok fn_P (c_P hb _) rfl (by decide) rfl xw236 rfl rfl rfl (Nat.le_of_ble_eq_true rfl) (xd dk_P_value 70 rfl) ?_
  rw [w_P_4 hb]
  replace hf := xlet_some hf
  generalize wI M (b + 29) 4 x24 = M at hf ⊢
  refine x_iinc hc (xd dk_P_value 71 rfl) rfl (by decide) rfl ?_
  refine x_goto hc (tgt := 73) (xd dk_P_value 72 rfl) rfl ?_
  exact hk73 (v2 + Int32.ofInt 1) M hf
set_option maxRecDepth 100000 in
set_option maxHeartbeats 400000 in
theorem s_P_value_73 {p : Program} {l : Launch} {e : Env} {R : Room} {s : State} {m : MethodId} {args : Array Value} {below : List Frame} {meth : Method} {c : Code} {G : xG} {Y : xY} {sz : Nat} {rc : Nat → Int32 → Int32 → Int32 → xMem → Option (Int32 × xMem)} {b : Nat} {p1 : Int32} {d : Nat} (hc : xC p s m args meth c G 3 c_P_value y_P_value.cls (some .boolean)) (hR : xRm R (d + 1)) (hb : xRd Y b) (hd : 8 ≤ d) (hrc : xGr l G Y b sz d rc) {M' : xMem} {r : Int32} : ∀ (n : Nat) (v2 : Int32) (M : xMem), f_P_value_73 rc b p1 n v2 M = some (r, M') → xW p l e R s m args below meth c G 3 (MQ below (xQc G (some (.int r)) (xo G Y M') sz) args s 0 0 (xA G)) (xo G Y M) sz 0 0 73 [some (.ref (b + 29)), some (.int p1), some (.int v2)] [] := by
  intro n
  induction n with
  | zero => intro v2 M hf; simp only [f_P_value_73] at hf; cases hf
  | succ n ih =>
    intro v2 M hf
    simp only [f_P_value_73] at hf
    refine x_iload_n hc (xd dk_P_value 40 rfl) rfl rfl ?_
    refine x_bipush hc (v := 60) (xd dk_P_value 41 rfl) (by decide) ?_
    refine x_icmp_gt hc (tgt := 140) (xd dk_P_value 42 rfl) rfl (fun q25 => ?_) (fun q25 => ?_)
    · rw [if_pos q25] at hf
      refine x_iconst hc (v := 0) (xd dk_P_value 73 rfl) (by decide) ?_
      cases hf
      exact x_zreturn hc rfl (xd dk_P_value 74 rfl)
    · rw [if_neg q25] at hf
      refine x_aload_n hc (xd dk_P_value 43 rfl) rfl rfl ?_
      refine x_iload_n hc (xd dk_P_value 44 rfl) rfl rfl ?_
      obtain ⟨r26, M, e27, hf⟩ := xbind_some hf
      refine x_callV hc (As := [.int p1]) (n := 1) (hrc.2.2.2.2.2.2.2.2.2.2.2.1 _ _ _ _ _ _ e27) (c_P hb _) rfl (hR.call (by omega) (by decide)) ⟨by decide, by decide, by decide⟩ rfl rfl xw534 xw9 xw531 xw533 xs_P_part (Nat.le_of_ble_eq_true rfl) ⟨Nat.zero_le _, Nat.zero_le _⟩ (xd dk_P_value 45 rfl) ?_
      refine x_if_ne hc (tgt := 89) (xd dk_P_value 46 rfl) rfl (fun q28 => ?_) (fun q28 => ?_)
      · rw [if_neg q28] at hf
        refine x_aload_n hc (xd dk_P_value 49 rfl) rfl rfl ?_
        obtain ⟨r29, M, e30, hf⟩ := xbind_some hf
        refine x_callV hc (As := []) (n := 0) (s_P_next hb e30) (c_P hb _) rfl (hR.call (by omega) (by decide)) ⟨by decide, by decide, by decide⟩ rfl rfl xw449 xw9 xw446 xw448 xs_P_next (Nat.le_of_ble_eq_true rfl) ⟨Nat.zero_le _, Nat.zero_le _⟩ (xd dk_P_value 50 rfl) ?_
        by_cases htr29 : r29 < 28
        case neg => rw [if_neg htr29] at hf; cases hf
        rw [if_pos htr29] at hf
        obtain ⟨r31, M, e32, hf⟩ := xbind_some hf
        refine x_callVO hc (As := []) (n := 0) (s_K_joinsParts e32) ((hc.tk htr29).2.1) (hR.call (by omega) (by decide)) ⟨by decide, by decide, by decide⟩ rfl rfl xw554 xw12 xw551 xw552 xw553 (Nat.le_of_ble_eq_true rfl) ⟨Nat.zero_le _, Nat.zero_le _⟩ (xd dk_P_value 51 rfl) ?_
        refine x_if_ne hc (tgt := 101) (xd dk_P_value 52 rfl) rfl (fun q33 => ?_) (fun q33 => ?_)
        · rw [if_neg q33] at hf
          refine x_aload_n hc (xd dk_P_value 55 rfl) rfl rfl ?_
          obtain ⟨r34, M, e35, hf⟩ := xbind_some hf
          refine x_callV hc (As := []) (n := 0) (s_P_next hb e35) (c_P hb _) rfl (hR.call (by omega) (by decide)) ⟨by decide, by decide, by decide⟩ rfl rfl xw449 xw9 xw446 xw448 xs_P_next (Nat.le_of_ble_eq_true rfl) ⟨Nat.zero_le _, Nat.zero_le _⟩ (xd dk_P_value 56 rfl) ?_
          by_cases htr34 : r34 < 28
          case neg => rw [if_neg htr34] at hf; cases hf
          rw [if_pos htr34] at hf
          refine x_getsK hc 9 (by decide) xw567 (xd dk_P_value 57 rfl) ?_
          refine x_tok_ne hc htr34 (by decide) (tgt := 124) (xd dk_P_value 58 rfl) rfl (fun q36 => ?_) (fun q36 => ?_)
          · rw [if_neg q36] at hf
            exact s_P_value_124 hc hR hb hd hrc ih v2 M hf
          · rw [if_pos q36] at hf
            refine x_aload_n hc (xd dk_P_value 59 rfl) rfl rfl ?_
            refine x_get hc (ci := 8) (k := 2) fi_P (c_P hb _) rfl (by decide) rfl xw234 rfl (xd dk_P_value 60 rfl) ?_
            refine x_aload_n hc (xd dk_P_value 61 rfl) rfl rfl ?_
            refine x_get hc (ci := 8) (k := 4) fi_P (c_P hb _) rfl (by decide) rfl xw236 rfl (xd dk_P_value 62 rfl) ?_
            refine x_bipush hc (v := 6) (xd dk_P_value 63 rfl) (by decide) ?_
            obtain ⟨x37, hx37, hf⟩ := xval_ex hf
            rw [← hx37]
            obtain ⟨r38, M, e39, hf⟩ := xbind_some hf
            refine x_callV hc (As := [.int x37, .int 6]) (n := 2) (s_M_add hb e39) (c_M hb _) rfl (hR.call (by omega) (by decide)) ⟨by decide, by decide, by decide⟩ rfl rfl xw467 xw7 xw464 xw465 xw466 (Nat.le_of_ble_eq_true rfl) ⟨Nat.zero_le _, Nat.zero_le _⟩ (xd dk_P_value 64 rfl) ?_
            exact s_P_value_124 hc hR hb hd hrc ih v2 M hf
        · rw [if_pos q33] at hf
          refine x_iconst hc (v := 1) (xd dk_P_value 53 rfl) (by decide) ?_
          cases hf
          exact x_zreturn hc rfl (xd dk_P_value 54 rfl)
      · rw [if_pos q28] at hf
        refine x_iconst hc (v := 0) (xd dk_P_value 47 rfl) (by decide) ?_
        cases hf
        exact x_zreturn hc rfl (xd dk_P_value 48 rfl)
set_option maxRecDepth 100000 in
set_option maxHeartbeats 400000 in
theorem s_P_value_71 {p : Program} {l : Launch} {e : Env} {R : Room} {s : State} {m : MethodId} {args : Array Value} {below : List Frame} {meth : Method} {c : Code} {G : xG} {Y : xY} {sz : Nat} {rc : Nat → Int32 → Int32 → Int32 → xMem → Option (Int32 × xMem)} {b : Nat} {p1 : Int32} {d : Nat} (hc : xC p s m args meth c G 3 c_P_value y_P_value.cls (some .boolean)) (hR : xRm R (d + 1)) (hb : xRd Y b) (hd : 8 ≤ d) (hrc : xGr l G Y b sz d rc) {M' : xMem} {r : Int32} (M : xMem) (hf : f_P_value_71 rc b p1 M = some (r, M')) : xW p l e R s m args below meth c G 3 (MQ below (xQc G (some (.int r)) (xo G Y M') sz) args s 0 0 (xA G)) (xo G Y M) sz 0 0 71 [some (.ref (b + 29)), some (.int p1), none] [] := by
  unfold f_P_value_71 at hf
  refine x_iconst hc (v := 0) (xd dk_P_value 38 rfl) (by decide) ?_
  refine x_istore_n hc (xd dk_P_value 39 rfl) (by decide) rfl ?_
  exact s_P_value_73 hc hR hb hd hrc xFuel 0 M hf
set_option maxRecDepth 100000 in
set_option maxHeartbeats 400000 in
theorem s_P_value {l : Launch} {G : xG} {Y : xY} {sz : Nat} {rc : Nat → Int32 → Int32 → Int32 → xMem → Option (Int32 × xMem)} {b : Nat} {p1 : Int32} {d : Nat} (hb : xRd Y b) (hd : 8 ≤ d) (hrc : xGr l G Y b sz d rc) {M M' : xMem} {r : Int32} (hf : f_P_value rc b p1 M = some (r, M')) : xM l G y_P_value c_P_value 3 (some .boolean) (d + 1) 0 0 [.ref (b + 29), .int p1] (xo G Y M) sz (some (.int r)) (xo G Y M') sz := by
  unfold f_P_value at hf
  refine xM.of (k := 1) (L0 := [some (.ref (b + 29)), some (.int p1), none]) (by decide) (Nat.le_of_ble_eq_true rfl) rfl ?_
  intro p e s m args below meth c hc hnm
  have hR : xRm { frames := (d + 1), cells := 0, slots := 0, locals := 48 * (d + 1) } (d + 1) := ⟨Nat.le_refl _, Nat.le_refl _⟩
  refine x_iload_n hc (xd dk_P_value 0 rfl) rfl rfl ?_
  refine x_bipush hc (v := 12) (xd dk_P_value 1 rfl) (by decide) ?_
  refine x_icmp_le hc (tgt := 8) (xd dk_P_value 2 rfl) rfl (fun q40 => ?_) (fun q40 => ?_)
  · rw [if_pos q40] at hf
    refine x_aload_n hc (xd dk_P_value 5 rfl) rfl rfl ?_
    obtain ⟨r41, M, e42, hf⟩ := xbind_some hf
    refine x_callV hc (As := []) (n := 0) (s_P_next hb e42) (c_P hb _) rfl (hR.call (by omega) (by decide)) ⟨by decide, by decide, by decide⟩ rfl rfl xw449 xw9 xw446 xw448 xs_P_next (Nat.le_of_ble_eq_true rfl) ⟨Nat.zero_le _, Nat.zero_le _⟩ (xd dk_P_value 6 rfl) ?_
    by_cases htr41 : r41 < 28
    case neg => rw [if_neg htr41] at hf; cases hf
    rw [if_pos htr41] at hf
    refine x_getsK hc 23 (by decide) xw487 (xd dk_P_value 7 rfl) ?_
    refine x_tok_ne hc htr41 (by decide) (tgt := 71) (xd dk_P_value 8 rfl) rfl (fun q43 => ?_) (fun q43 => ?_)
    · rw [if_neg q43] at hf
      exact s_P_value_71 hc hR hb hd hrc M hf
    · rw [if_pos q43] at hf
      refine x_aload_n hc (xd dk_P_value 9 rfl) rfl rfl ?_
      refine x_get hc (ci := 8) (k := 0) fi_P (c_P hb _) rfl (by decide) rfl xw232 rfl (xd dk_P_value 10 rfl) ?_
      refine x_aload_n hc (xd dk_P_value 11 rfl) rfl rfl ?_
      refine x_get hc (ci := 8) (k := 4) fi_P (c_P hb _) rfl (by decide) rfl xw236 rfl (xd dk_P_value 12 rfl) ?_
      refine x_iconst hc (v := 1) (xd dk_P_value 13 rfl) (by decide) ?_
      refine x_iadd hc (xd dk_P_value 14 rfl) ?_
      obtain ⟨x44, hx44, hf⟩ := xval_ex hf
      rw [← hx44]
      obtain ⟨r45, M, e46, hf⟩ := xbind_some hf
      refine x_callV hc (As := [.int x44]) (n := 1) (s_T_kindOf hb e46) (c_T hb _) rfl (hR.call (by omega) (by decide)) ⟨by decide, by decide, by decide⟩ rfl rfl xw453 xw4 xw450 xw451 xw452 (Nat.le_of_ble_eq_true rfl) ⟨Nat.zero_le _, Nat.zero_le _⟩ (xd dk_P_value 15 rfl) ?_
      by_cases htr45 : r45 < 28
      case neg => rw [if_neg htr45] at hf; cases hf
      rw [if_pos htr45] at hf
      refine x_getsK hc 10 (by decide) xw492 (xd dk_P_value 16 rfl) ?_
      refine x_tok_ne hc htr45 (by decide) (tgt := 71) (xd dk_P_value 17 rfl) rfl (fun q47 => ?_) (fun q47 => ?_)
      · rw [if_neg q47] at hf
        exact s_P_value_71 hc hR hb hd hrc M hf
      · rw [if_pos q47] at hf
        refine x_aload_n hc (xd dk_P_value 18 rfl) rfl rfl ?_
        refine x_get hc (ci := 8) (k := 3) fi_P (c_P hb _) rfl (by decide) rfl xw235 rfl (xd dk_P_value 19 rfl) ?_
        refine x_aload_n hc (xd dk_P_value 20 rfl) rfl rfl ?_
        refine x_get hc (ci := 8) (k := 4) fi_P (c_P hb _) rfl (by decide) rfl xw236 rfl (xd dk_P_value 21 rfl) ?_
        refine x_aload_n hc (xd dk_P_value 22 rfl) rfl rfl ?_
        refine x_get hc (ci := 8) (k := 5) fi_P (c_P hb _) rfl (by decide) rfl xw237 rfl (xd dk_P_value 23 rfl) ?_
        refine x_iconst hc (v := 1) (xd dk_P_value 24 rfl) (by decide) ?_
        obtain ⟨x48, hx48, hf⟩ := xval_ex hf
        rw [← hx48]
        obtain ⟨x49, hx49, hf⟩ := xval_ex hf
        rw [← hx49]
        obtain ⟨r50, M, e51, hf⟩ := xbind_some hf
        refine x_callV hc (As := [.int x49, .int x48, .int 1]) (n := 3) (s_B_addUse hb e51) (c_B hb _) rfl (hR.call (by omega) (by decide)) ⟨by decide, by decide, by decide⟩ rfl rfl xw530 xw8 xw527 xw528 xw529 (Nat.le_of_ble_eq_true rfl) ⟨Nat.zero_le _, Nat.zero_le _⟩ (xd dk_P_value 25 rfl) ?_
        refine x_aload_n hc (xd dk_P_value 26 rfl) rfl rfl ?_
        refine x_dup hc (xd dk_P_value 27 rfl) rfl ?_
        refine x_get hc (ci := 8) (k := 4) fi_P (c_P hb _) rfl (by decide) rfl xw236 rfl (xd dk_P_value 28 rfl) ?_
        refine x_iconst hc (v := 2) (xd dk_P_value 29 rfl) (by decide) ?_
        refine x_iadd hc (xd dk_P_value 30 rfl) ?_
        obtain ⟨x52, hx52, hf⟩ := xval_ex hf
        rw [← hx52]
        refine x_put hc (ci := 8) (k := 4) fi_P ft_P ft_P_ok fn_P (c_P hb _) rfl (by decide) rfl xw236 rfl rfl rfl (Nat.le_of_ble_eq_true rfl) (xd dk_P_value 31 rfl) ?_
        rw [w_P_4 hb]
        replace hf := xlet_some hf
        generalize wI M (b + 29) 4 x52 = M at hf ⊢
        refine x_aload_n hc (xd dk_P_value 32 rfl) rfl rfl ?_
        refine x_iload_n hc (xd dk_P_value 33 rfl) rfl rfl ?_
        refine x_iconst hc (v := 1) (xd dk_P_value 34 rfl) (by decide) ?_
        refine x_iadd hc (xd dk_P_value 35 rfl) ?_
        obtain ⟨r53, M, e54, hf⟩ := xbind_some hf
        refine x_callV hc (As := [.int ((p1 + 1))]) (n := 1) (hrc.2.2.2.2.2.2.2.2.2.2.1 _ _ _ _ _ _ e54) (c_P hb _) rfl (hR.call (by omega) (by decide)) ⟨by decide, by decide, by decide⟩ rfl rfl xw526 xw9 xw523 xw525 xs_P_value (Nat.le_of_ble_eq_true rfl) ⟨Nat.zero_le _, Nat.zero_le _⟩ (xd dk_P_value 36 rfl) ?_
        by_cases q55 : xnar .boolean r53 = true
        case neg => rw [if_neg q55] at hf; cases hf
        rw [if_pos q55] at hf
        cases hf
        exact x_zreturn hc (xnar_n q55) (xd dk_P_value 37 rfl)
  · rw [if_neg q40] at hf
    refine x_iconst hc (v := 0) (xd dk_P_value 3 rfl) (by decide) ?_
    cases hf
    exact x_zreturn hc rfl (xd dk_P_value 4 rfl)
def f_P_part_70 (rc : Nat → Int32 → Int32 → Int32 → xMem → Option (Int32 × xMem)) (b : Nat) (p1 : Int32) (M : xMem) : Option (Int32 × xMem) :=
  (if p1 < 12 then (xval ((M.1 (b + 29) 4) + 1) fun x27 => xlet (wI M (b + 29) 4 x27) fun M => xbind (rc 11 (p1 + 1) 0 0 M) fun r28 M => if xnar .boolean r28 = true then some (r28, M) else none) else (some (0, M)))
def f_P_part (rc : Nat → Int32 → Int32 → Int32 → xMem → Option (Int32 × xMem)) (b : Nat) (p1 : Int32) (M : xMem) : Option (Int32 × xMem) :=
  (xbind (f_P_next b M) fun r31 M => if r31 < 28 then xbind (f_JE_ordinal r31 M) fun r33 M => if xin r33 28 = true then if xSwM.getD r33.toNatClampNeg 0 = 11 then (xbind (f_P_take b 24 M) fun r37 M => if xnar .boolean r37 = true then some (r37, M) else none) else if xSwM.getD r33.toNatClampNeg 0 = 12 then (xbind (f_P_take b 25 M) fun r41 M => if xnar .boolean r41 = true then some (r41, M) else none) else if xSwM.getD r33.toNatClampNeg 0 = 13 then (xbind (rc 12 p1 0 0 M) fun r45 M => if xnar .boolean r45 = true then some (r45, M) else none) else if xSwM.getD r33.toNatClampNeg 0 = 14 then (f_P_part_70 rc b p1 M) else if xSwM.getD r33.toNatClampNeg 0 = 15 then (f_P_part_70 rc b p1 M) else if xSwM.getD r33.toNatClampNeg 0 = 16 then (if p1 < 12 then (xval ((M.1 (b + 29) 4) + 1) fun x52 => xlet (wI M (b + 29) 4 x52) fun M => xbind (rc 10 (p1 + 1) 0 0 M) fun r53 M => if r53 = 0 then (some (0, M)) else (xbind (f_P_take b 17 M) fun r56 M => if r56 = 0 then (some (0, M)) else (some (1, M)))) else (some (0, M))) else (some (0, M)) else none else none)
set_option maxRecDepth 100000 in
set_option maxHeartbeats 400000 in
theorem s_P_part_70 {p : Program} {l : Launch} {e : Env} {R : Room} {s : State} {m : MethodId} {args : Array Value} {below : List Frame} {meth : Method} {c : Code} {G : xG} {Y : xY} {sz : Nat} {rc : Nat → Int32 → Int32 → Int32 → xMem → Option (Int32 × xMem)} {b : Nat} {p1 : Int32} {d : Nat} (hc : xC p s m args meth c G 2 c_P_part y_P_part.cls (some .boolean)) (hR : xRm R (d + 1)) (hb : xRd Y b) (hd : 8 ≤ d) (hrc : xGr l G Y b sz d rc) {M' : xMem} {r : Int32} (M : xMem) (hf : f_P_part_70 rc b p1 M = some (r, M')) : xW p l e R s m args below meth c G 2 (MQ below (xQc G (some (.int r)) (xo G Y M') sz) args s 0 0 (xA G)) (xo G Y M) sz 0 0 70 [some (.ref (b + 29)), some (.int p1)] [] := by
  unfold f_P_part_70 at hf
  refine x_iload_n hc (xd dk_P_part 18 rfl) rfl rfl ?_
  refine x_bipush hc (v := 12) (xd dk_P_part 19 rfl) (by decide) ?_
  refine x_icmp_lt hc (tgt := 78) (xd dk_P_part 20 rfl) rfl (fun q26 => ?_) (fun q26 => ?_)
  · rw [if_pos q26] at hf
    refine x_aload_n hc (xd dk_P_part 23 rfl) rfl rfl ?_
    refine x_dup hc (xd dk_P_part 24 rfl) rfl ?_
    refine x_get hc (ci := 8) (k := 4) fi_P (c_P hb _) rfl (by decide) rfl xw236 rfl (xd dk_P_part 25 rfl) ?_
    refine x_iconst hc (v := 1) (xd dk_P_part 26 rfl) (by decide) ?_
    refine x_iadd hc (xd dk_P_part 27 rfl) ?_
    obtain ⟨x27, hx27, hf⟩ := xval_ex hf
    rw [← hx27]
    refine x_put hc (ci := 8) (k := 4) fi_P ft_P ft_P_ok fn_P (c_P hb _) rfl (by decide) rfl xw236 rfl rfl rfl (Nat.le_of_ble_eq_true rfl) (xd dk_P_part 28 rfl) ?_
    rw [w_P_4 hb]
    replace hf := xlet_some hf
    generalize wI M (b + 29) 4 x27 = M at hf ⊢
    refine x_aload_n hc (xd dk_P_part 29 rfl) rfl rfl ?_
    refine x_iload_n hc (xd dk_P_part 30 rfl) rfl rfl ?_
    refine x_iconst hc (v := 1) (xd dk_P_part 31 rfl) (by decide) ?_
    refine x_iadd hc (xd dk_P_part 32 rfl) ?_
    obtain ⟨r28, M, e29, hf⟩ := xbind_some hf
    refine x_callV hc (As := [.int ((p1 + 1))]) (n := 1) (hrc.2.2.2.2.2.2.2.2.2.2.2.1 _ _ _ _ _ _ e29) (c_P hb _) rfl (hR.call (by omega) (by decide)) ⟨by decide, by decide, by decide⟩ rfl rfl xw534 xw9 xw531 xw533 xs_P_part (Nat.le_of_ble_eq_true rfl) ⟨Nat.zero_le _, Nat.zero_le _⟩ (xd dk_P_part 33 rfl) ?_
    by_cases q30 : xnar .boolean r28 = true
    case neg => rw [if_neg q30] at hf; cases hf
    rw [if_pos q30] at hf
    cases hf
    exact x_zreturn hc (xnar_n q30) (xd dk_P_part 34 rfl)
  · rw [if_neg q26] at hf
    refine x_iconst hc (v := 0) (xd dk_P_part 21 rfl) (by decide) ?_
    cases hf
    exact x_zreturn hc rfl (xd dk_P_part 22 rfl)
set_option maxRecDepth 100000 in
set_option maxHeartbeats 400000 in
theorem s_P_part {l : Launch} {G : xG} {Y : xY} {sz : Nat} {rc : Nat → Int32 → Int32 → Int32 → xMem → Option (Int32 × xMem)} {b : Nat} {p1 : Int32} {d : Nat} (hb : xRd Y b) (hd : 8 ≤ d) (hrc : xGr l G Y b sz d rc) {M M' : xMem} {r : Int32} (hf : f_P_part rc b p1 M = some (r, M')) : xM l G y_P_part c_P_part 2 (some .boolean) (d + 1) 0 0 [.ref (b + 29), .int p1] (xo G Y M) sz (some (.int r)) (xo G Y M') sz := by
  unfold f_P_part at hf
  refine xM.of (k := 0) (L0 := [some (.ref (b + 29)), some (.int p1)]) (by decide) (Nat.le_of_ble_eq_true rfl) rfl ?_
  intro p e s m args below meth c hc hnm
  have hR : xRm { frames := (d + 1), cells := 0, slots := 0, locals := 48 * (d + 1) } (d + 1) := ⟨Nat.le_refl _, Nat.le_refl _⟩
  refine x_getsW hc xw475 (xd dk_P_part 0 rfl) ?_
  refine x_aload_n hc (xd dk_P_part 1 rfl) rfl rfl ?_
  obtain ⟨r31, M, e32, hf⟩ := xbind_some hf
  refine x_callV hc (As := []) (n := 0) (s_P_next hb e32) (c_P hb _) rfl (hR.call (by omega) (by decide)) ⟨by decide, by decide, by decide⟩ rfl rfl xw449 xw9 xw446 xw448 xs_P_next (Nat.le_of_ble_eq_true rfl) ⟨Nat.zero_le _, Nat.zero_le _⟩ (xd dk_P_part 2 rfl) ?_
  by_cases htr31 : r31 < 28
  case neg => rw [if_neg htr31] at hf; cases hf
  rw [if_pos htr31] at hf
  obtain ⟨r33, M, e34, hf⟩ := xbind_some hf
  refine x_callUO hc (x := ({ cls := "LintDesk$Token", name := "ordinal", desc := "()I" } : Jvm.MethodName)) (owner := "java/lang/Enum") (As := []) (n := 0) (s_JE_ordinal e34) ((hc.tk htr31).2.1) (hR.call (by omega) (by decide)) rfl ⟨by decide, by decide, by decide⟩ rfl rfl xw482 xw11 xw477 xw478 xw481 xw480 (Nat.le_of_ble_eq_true rfl) ⟨Nat.zero_le _, Nat.zero_le _⟩ (xd dk_P_part 3 rfl) ?_
  by_cases q35 : xin r33 28 = true
  case neg => rw [if_neg q35] at hf; cases hf
  rw [if_pos q35] at hf
  refine x_wald hc (xin_in q35) (xd dk_P_part 4 rfl) ?_
  by_cases q36 : xSwM.getD r33.toNatClampNeg 0 = 11
  case pos =>
    rw [if_pos q36] at hf
    refine x_tableIn hc (off := 37) (tgt := 48) (xd dk_P_part 5 rfl) (by rw [q36]; decide) (by rw [q36]; decide) (by rw [q36]; rfl) rfl ?_
    refine x_aload_n hc (xd dk_P_part 6 rfl) rfl rfl ?_
    refine x_getsK hc 24 (by decide) xw535 (xd dk_P_part 7 rfl) ?_
    obtain ⟨r37, M, e38, hf⟩ := xbind_some hf
    refine x_callV hc (As := [.ref (gE G 24)]) (n := 1) (s_P_take hb e38) (c_P hb _) rfl (hR.call (by omega) (by decide)) ⟨by decide, by decide, by decide⟩ rfl rfl xw491 xw9 xw488 xw490 xs_P_take (Nat.le_of_ble_eq_true rfl) ⟨Nat.zero_le _, Nat.zero_le _⟩ (xd dk_P_part 8 rfl) ?_
    by_cases q39 : xnar .boolean r37 = true
    case neg => rw [if_neg q39] at hf; cases hf
    rw [if_pos q39] at hf
    cases hf
    exact x_zreturn hc (xnar_n q39) (xd dk_P_part 9 rfl)
  rw [if_neg q36] at hf
  by_cases q40 : xSwM.getD r33.toNatClampNeg 0 = 12
  case pos =>
    rw [if_pos q40] at hf
    refine x_tableIn hc (off := 45) (tgt := 56) (xd dk_P_part 5 rfl) (by rw [q40]; decide) (by rw [q40]; decide) (by rw [q40]; rfl) rfl ?_
    refine x_aload_n hc (xd dk_P_part 10 rfl) rfl rfl ?_
    refine x_getsK hc 25 (by decide) xw536 (xd dk_P_part 11 rfl) ?_
    obtain ⟨r41, M, e42, hf⟩ := xbind_some hf
    refine x_callV hc (As := [.ref (gE G 25)]) (n := 1) (s_P_take hb e42) (c_P hb _) rfl (hR.call (by omega) (by decide)) ⟨by decide, by decide, by decide⟩ rfl rfl xw491 xw9 xw488 xw490 xs_P_take (Nat.le_of_ble_eq_true rfl) ⟨Nat.zero_le _, Nat.zero_le _⟩ (xd dk_P_part 12 rfl) ?_
    by_cases q43 : xnar .boolean r41 = true
    case neg => rw [if_neg q43] at hf; cases hf
    rw [if_pos q43] at hf
    cases hf
    exact x_zreturn hc (xnar_n q43) (xd dk_P_part 13 rfl)
  rw [if_neg q40] at hf
  by_cases q44 : xSwM.getD r33.toNatClampNeg 0 = 13
  case pos =>
    rw [if_pos q44] at hf
    refine x_tableIn hc (off := 53) (tgt := 64) (xd dk_P_part 5 rfl) (by rw [q44]; decide) (by rw [q44]; decide) (by rw [q44]; rfl) rfl ?_
    refine x_aload_n hc (xd dk_P_part 14 rfl) rfl rfl ?_
    refine x_iload_n hc (xd dk_P_part 15 rfl) rfl rfl ?_
    obtain ⟨r45, M, e46, hf⟩ := xbind_some hf
    refine x_callV hc (As := [.int p1]) (n := 1) (hrc.2.2.2.2.2.2.2.2.2.2.2.2.1 _ _ _ _ _ _ e46) (c_P hb _) rfl (hR.call (by omega) (by decide)) ⟨by decide, by decide, by decide⟩ rfl rfl xw540 xw9 xw537 xw539 xs_P_use (Nat.le_of_ble_eq_true rfl) ⟨Nat.zero_le _, Nat.zero_le _⟩ (xd dk_P_part 16 rfl) ?_
    by_cases q47 : xnar .boolean r45 = true
    case neg => rw [if_neg q47] at hf; cases hf
    rw [if_pos q47] at hf
    cases hf
    exact x_zreturn hc (xnar_n q47) (xd dk_P_part 17 rfl)
  rw [if_neg q44] at hf
  by_cases q48 : xSwM.getD r33.toNatClampNeg 0 = 14
  case pos =>
    rw [if_pos q48] at hf
    refine x_tableIn hc (off := 59) (tgt := 70) (xd dk_P_part 5 rfl) (by rw [q48]; decide) (by rw [q48]; decide) (by rw [q48]; rfl) rfl ?_
    exact s_P_part_70 hc hR hb hd hrc M hf
  rw [if_neg q48] at hf
  by_cases q49 : xSwM.getD r33.toNatClampNeg 0 = 15
  case pos =>
    rw [if_pos q49] at hf
    refine x_tableIn hc (off := 59) (tgt := 70) (xd dk_P_part 5 rfl) (by rw [q49]; decide) (by rw [q49]; decide) (by rw [q49]; rfl) rfl ?_
    exact s_P_part_70 hc hR hb hd hrc M hf
  rw [if_neg q49] at hf
  by_cases q50 : xSwM.getD r33.toNatClampNeg 0 = 16
  case pos =>
    rw [if_pos q50] at hf
    refine x_tableIn hc (off := 85) (tgt := 96) (xd dk_P_part 5 rfl) (by rw [q50]; decide) (by rw [q50]; decide) (by rw [q50]; rfl) rfl ?_
    refine x_iload_n hc (xd dk_P_part 35 rfl) rfl rfl ?_
    refine x_bipush hc (v := 12) (xd dk_P_part 36 rfl) (by decide) ?_
    refine x_icmp_lt hc (tgt := 104) (xd dk_P_part 37 rfl) rfl (fun q51 => ?_) (fun q51 => ?_)
    · rw [if_pos q51] at hf
      refine x_aload_n hc (xd dk_P_part 40 rfl) rfl rfl ?_
      refine x_dup hc (xd dk_P_part 41 rfl) rfl ?_
      refine x_get hc (ci := 8) (k := 4) fi_P (c_P hb _) rfl (by decide) rfl xw236 rfl (xd dk_P_part 42 rfl) ?_
      refine x_iconst hc (v := 1) (xd dk_P_part 43 rfl) (by decide) ?_
      refine x_iadd hc (xd dk_P_part 44 rfl) ?_
      obtain ⟨x52, hx52, hf⟩ := xval_ex hf
      rw [← hx52]
      refine x_put hc (ci := 8) (k := 4) fi_P ft_P ft_P_ok fn_P (c_P hb _) rfl (by decide) rfl xw236 rfl rfl rfl (Nat.le_of_ble_eq_true rfl) (xd dk_P_part 45 rfl) ?_
      rw [w_P_4 hb]
      replace hf := xlet_some hf
      generalize wI M (b + 29) 4 x52 = M at hf ⊢
      refine x_aload_n hc (xd dk_P_part 46 rfl) rfl rfl ?_
      refine x_iload_n hc (xd dk_P_part 47 rfl) rfl rfl ?_
      refine x_iconst hc (v := 1) (xd dk_P_part 48 rfl) (by decide) ?_
      refine x_iadd hc (xd dk_P_part 49 rfl) ?_
      obtain ⟨r53, M, e54, hf⟩ := xbind_some hf
      refine x_callV hc (As := [.int ((p1 + 1))]) (n := 1) (hrc.2.2.2.2.2.2.2.2.2.2.1 _ _ _ _ _ _ e54) (c_P hb _) rfl (hR.call (by omega) (by decide)) ⟨by decide, by decide, by decide⟩ rfl rfl xw526 xw9 xw523 xw525 xs_P_value (Nat.le_of_ble_eq_true rfl) ⟨Nat.zero_le _, Nat.zero_le _⟩ (xd dk_P_part 50 rfl) ?_
      refine x_if_eq hc (tgt := 138) (xd dk_P_part 51 rfl) rfl (fun q55 => ?_) (fun q55 => ?_)
      · rw [if_pos q55] at hf
        refine x_iconst hc (v := 0) (xd dk_P_part 58 rfl) (by decide) ?_
        cases hf
        exact x_zreturn hc rfl (xd dk_P_part 59 rfl)
      · rw [if_neg q55] at hf
        refine x_aload_n hc (xd dk_P_part 52 rfl) rfl rfl ?_
        refine x_getsK hc 17 (by decide) xw543 (xd dk_P_part 53 rfl) ?_
        obtain ⟨r56, M, e57, hf⟩ := xbind_some hf
        refine x_callV hc (As := [.ref (gE G 17)]) (n := 1) (s_P_take hb e57) (c_P hb _) rfl (hR.call (by omega) (by decide)) ⟨by decide, by decide, by decide⟩ rfl rfl xw491 xw9 xw488 xw490 xs_P_take (Nat.le_of_ble_eq_true rfl) ⟨Nat.zero_le _, Nat.zero_le _⟩ (xd dk_P_part 54 rfl) ?_
        refine x_if_eq hc (tgt := 138) (xd dk_P_part 55 rfl) rfl (fun q58 => ?_) (fun q58 => ?_)
        · rw [if_pos q58] at hf
          refine x_iconst hc (v := 0) (xd dk_P_part 58 rfl) (by decide) ?_
          cases hf
          exact x_zreturn hc rfl (xd dk_P_part 59 rfl)
        · rw [if_neg q58] at hf
          refine x_iconst hc (v := 1) (xd dk_P_part 56 rfl) (by decide) ?_
          refine x_goto hc (tgt := 139) (xd dk_P_part 57 rfl) rfl ?_
          cases hf
          exact x_zreturn hc rfl (xd dk_P_part 59 rfl)
    · rw [if_neg q51] at hf
      refine x_iconst hc (v := 0) (xd dk_P_part 38 rfl) (by decide) ?_
      cases hf
      exact x_zreturn hc rfl (xd dk_P_part 39 rfl)
  rw [if_neg q50] at hf
  refine x_tableOut hc (tgt := 140) (xd dk_P_part 5 rfl) (by have q36n := xne (v := 11) q36 (by decide); have q40n := xne (v := 12) q40 (by decide); have q44n := xne (v := 13) q44 (by decide); have q48n := xne (v := 14) q48 (by decide); have q49n := xne (v := 15) q49 (by decide); have q50n := xne (v := 16) q50 (by decide); omega) rfl ?_
  refine x_iconst hc (v := 0) (xd dk_P_part 60 rfl) (by decide) ?_
  cases hf
  exact x_zreturn hc rfl (xd dk_P_part 61 rfl)
def f_P_use_66 (rc : Nat → Int32 → Int32 → Int32 → xMem → Option (Int32 × xMem)) (b : Nat) (p1 : Int32) (M : xMem) : Option (Int32 × xMem) :=
  (some (1, M))
def f_P_use (rc : Nat → Int32 → Int32 → Int32 → xMem → Option (Int32 × xMem)) (b : Nat) (p1 : Int32) (M : xMem) : Option (Int32 × xMem) :=
  (xval (M.1 (b + 29) 5) fun x12 => xval (M.1 (b + 29) 4) fun x13 => xbind (f_B_addUse b x13 x12 0 M) fun r14 M => xval ((M.1 (b + 29) 4) + 1) fun x16 => xlet (wI M (b + 29) 4 x16) fun M => xbind (f_P_take b 16 M) fun r17 M => if r17 = 0 then (f_P_use_66 rc b p1 M) else (xbind (f_P_take b 17 M) fun r20 M => if r20 = 0 then (xbind (rc 13 (p1 + 1) 0 0 M) fun r23 M => if r23 = 0 then (some (0, M)) else (xbind (f_P_take b 17 M) fun r26 M => if r26 = 0 then (some (0, M)) else (f_P_use_66 rc b p1 M))) else (f_P_use_66 rc b p1 M)))
set_option maxRecDepth 100000 in
set_option maxHeartbeats 400000 in
theorem s_P_use_66 {p : Program} {l : Launch} {e : Env} {R : Room} {s : State} {m : MethodId} {args : Array Value} {below : List Frame} {meth : Method} {c : Code} {G : xG} {Y : xY} {sz : Nat} {rc : Nat → Int32 → Int32 → Int32 → xMem → Option (Int32 × xMem)} {b : Nat} {p1 : Int32} {d : Nat} (hc : xC p s m args meth c G 2 c_P_use y_P_use.cls (some .boolean)) (hR : xRm R (d + 1)) (hb : xRd Y b) (hd : 8 ≤ d) (hrc : xGr l G Y b sz d rc) {M' : xMem} {r : Int32} (M : xMem) (hf : f_P_use_66 rc b p1 M = some (r, M')) : xW p l e R s m args below meth c G 2 (MQ below (xQc G (some (.int r)) (xo G Y M') sz) args s 0 0 (xA G)) (xo G Y M) sz 0 0 66 [some (.ref (b + 29)), some (.int p1)] [] := by
  unfold f_P_use_66 at hf
  refine x_iconst hc (v := 1) (xd dk_P_use 32 rfl) (by decide) ?_
  refine x_goto hc (tgt := 71) (xd dk_P_use 33 rfl) rfl ?_
  cases hf
  exact x_zreturn hc rfl (xd dk_P_use 35 rfl)
set_option maxRecDepth 100000 in
set_option maxHeartbeats 400000 in
theorem s_P_use {l : Launch} {G : xG} {Y : xY} {sz : Nat} {rc : Nat → Int32 → Int32 → Int32 → xMem → Option (Int32 × xMem)} {b : Nat} {p1 : Int32} {d : Nat} (hb : xRd Y b) (hd : 8 ≤ d) (hrc : xGr l G Y b sz d rc) {M M' : xMem} {r : Int32} (hf : f_P_use rc b p1 M = some (r, M')) : xM l G y_P_use c_P_use 2 (some .boolean) (d + 1) 0 0 [.ref (b + 29), .int p1] (xo G Y M) sz (some (.int r)) (xo G Y M') sz := by
  unfold f_P_use at hf
  refine xM.of (k := 0) (L0 := [some (.ref (b + 29)), some (.int p1)]) (by decide) (Nat.le_of_ble_eq_true rfl) rfl ?_
  intro p e s m args below meth c hc hnm
  have hR : xRm { frames := (d + 1), cells := 0, slots := 0, locals := 48 * (d + 1) } (d + 1) := ⟨Nat.le_refl _, Nat.le_refl _⟩
  refine x_aload_n hc (xd dk_P_use 0 rfl) rfl rfl ?_
  refine x_get hc (ci := 8) (k := 3) fi_P (c_P hb _) rfl (by decide) rfl xw235 rfl (xd dk_P_use 1 rfl) ?_
  refine x_aload_n hc (xd dk_P_use 2 rfl) rfl rfl ?_
  refine x_get hc (ci := 8) (k := 4) fi_P (c_P hb _) rfl (by decide) rfl xw236 rfl (xd dk_P_use 3 rfl) ?_
  refine x_aload_n hc (xd dk_P_use 4 rfl) rfl rfl ?_
  refine x_get hc (ci := 8) (k := 5) fi_P (c_P hb _) rfl (by decide) rfl xw237 rfl (xd dk_P_use 5 rfl) ?_
  refine x_iconst hc (v := 0) (xd dk_P_use 6 rfl) (by decide) ?_
  obtain ⟨x12, hx12, hf⟩ := xval_ex hf
  rw [← hx12]
  obtain ⟨x13, hx13, hf⟩ := xval_ex hf
  rw [← hx13]
  obtain ⟨r14, M, e15, hf⟩ := xbind_some hf
  refine x_callV hc (As := [.int x13, .int x12, .int 0]) (n := 3) (s_B_addUse hb e15) (c_B hb _) rfl (hR.call (by omega) (by decide)) ⟨by decide, by decide, by decide⟩ rfl rfl xw530 xw8 xw527 xw528 xw529 (Nat.le_of_ble_eq_true rfl) ⟨Nat.zero_le _, Nat.zero_le _⟩ (xd dk_P_use 7 rfl) ?_
  refine x_aload_n hc (xd dk_P_use 8 rfl) rfl rfl ?_
  refine x_dup hc (xd dk_P_use 9 rfl) rfl ?_
  refine x_get hc (ci := 8) (k := 4) fi_P (c_P hb _) rfl (by decide) rfl xw236 rfl (xd dk_P_use 10 rfl) ?_
  refine x_iconst hc (v := 1) (xd dk_P_use 11 rfl) (by decide) ?_
  refine x_iadd hc (xd dk_P_use 12 rfl) ?_
  obtain ⟨x16, hx16, hf⟩ := xval_ex hf
  rw [← hx16]
  refine x_put hc (ci := 8) (k := 4) fi_P ft_P ft_P_ok fn_P (c_P hb _) rfl (by decide) rfl xw236 rfl rfl rfl (Nat.le_of_ble_eq_true rfl) (xd dk_P_use 13 rfl) ?_
  rw [w_P_4 hb]
  replace hf := xlet_some hf
  generalize wI M (b + 29) 4 x16 = M at hf ⊢
  refine x_aload_n hc (xd dk_P_use 14 rfl) rfl rfl ?_
  refine x_getsK hc 16 (by decide) xw541 (xd dk_P_use 15 rfl) ?_
  obtain ⟨r17, M, e18, hf⟩ := xbind_some hf
  refine x_callV hc (As := [.ref (gE G 16)]) (n := 1) (s_P_take hb e18) (c_P hb _) rfl (hR.call (by omega) (by decide)) ⟨by decide, by decide, by decide⟩ rfl rfl xw491 xw9 xw488 xw490 xs_P_take (Nat.le_of_ble_eq_true rfl) ⟨Nat.zero_le _, Nat.zero_le _⟩ (xd dk_P_use 16 rfl) ?_
  refine x_if_eq hc (tgt := 66) (xd dk_P_use 17 rfl) rfl (fun q19 => ?_) (fun q19 => ?_)
  · rw [if_pos q19] at hf
    exact s_P_use_66 hc hR hb hd hrc M hf
  · rw [if_neg q19] at hf
    refine x_aload_n hc (xd dk_P_use 18 rfl) rfl rfl ?_
    refine x_getsK hc 17 (by decide) xw543 (xd dk_P_use 19 rfl) ?_
    obtain ⟨r20, M, e21, hf⟩ := xbind_some hf
    refine x_callV hc (As := [.ref (gE G 17)]) (n := 1) (s_P_take hb e21) (c_P hb _) rfl (hR.call (by omega) (by decide)) ⟨by decide, by decide, by decide⟩ rfl rfl xw491 xw9 xw488 xw490 xs_P_take (Nat.le_of_ble_eq_true rfl) ⟨Nat.zero_le _, Nat.zero_le _⟩ (xd dk_P_use 20 rfl) ?_
    refine x_if_ne hc (tgt := 66) (xd dk_P_use 21 rfl) rfl (fun q22 => ?_) (fun q22 => ?_)
    · rw [if_neg q22] at hf
      exact s_P_use_66 hc hR hb hd hrc M hf
    · rw [if_pos q22] at hf
      refine x_aload_n hc (xd dk_P_use 22 rfl) rfl rfl ?_
      refine x_iload_n hc (xd dk_P_use 23 rfl) rfl rfl ?_
      refine x_iconst hc (v := 1) (xd dk_P_use 24 rfl) (by decide) ?_
      refine x_iadd hc (xd dk_P_use 25 rfl) ?_
      obtain ⟨r23, M, e24, hf⟩ := xbind_some hf
      refine x_callV hc (As := [.int ((p1 + 1))]) (n := 1) (hrc.2.2.2.2.2.2.2.2.2.2.2.2.2 _ _ _ _ _ _ e24) (c_P hb _) rfl (hR.call (by omega) (by decide)) ⟨by decide, by decide, by decide⟩ rfl rfl xw548 xw9 xw545 xw547 xs_P_arguments (Nat.le_of_ble_eq_true rfl) ⟨Nat.zero_le _, Nat.zero_le _⟩ (xd dk_P_use 26 rfl) ?_
      refine x_if_eq hc (tgt := 70) (xd dk_P_use 27 rfl) rfl (fun q25 => ?_) (fun q25 => ?_)
      · rw [if_pos q25] at hf
        refine x_iconst hc (v := 0) (xd dk_P_use 34 rfl) (by decide) ?_
        cases hf
        exact x_zreturn hc rfl (xd dk_P_use 35 rfl)
      · rw [if_neg q25] at hf
        refine x_aload_n hc (xd dk_P_use 28 rfl) rfl rfl ?_
        refine x_getsK hc 17 (by decide) xw543 (xd dk_P_use 29 rfl) ?_
        obtain ⟨r26, M, e27, hf⟩ := xbind_some hf
        refine x_callV hc (As := [.ref (gE G 17)]) (n := 1) (s_P_take hb e27) (c_P hb _) rfl (hR.call (by omega) (by decide)) ⟨by decide, by decide, by decide⟩ rfl rfl xw491 xw9 xw488 xw490 xs_P_take (Nat.le_of_ble_eq_true rfl) ⟨Nat.zero_le _, Nat.zero_le _⟩ (xd dk_P_use 30 rfl) ?_
        refine x_if_eq hc (tgt := 70) (xd dk_P_use 31 rfl) rfl (fun q28 => ?_) (fun q28 => ?_)
        · rw [if_pos q28] at hf
          refine x_iconst hc (v := 0) (xd dk_P_use 34 rfl) (by decide) ?_
          cases hf
          exact x_zreturn hc rfl (xd dk_P_use 35 rfl)
        · rw [if_neg q28] at hf
          exact s_P_use_66 hc hR hb hd hrc M hf
def f_P_arguments_2 (rc : Nat → Int32 → Int32 → Int32 → xMem → Option (Int32 × xMem)) (b : Nat) (p1 : Int32) : Nat → Int32 → xMem → Option (Int32 × xMem)
  | 0, _, _ => none
  | n + 1, v2, M =>
    (if 60 < v2 then (some (0, M)) else (xbind (rc 10 p1 0 0 M) fun r9 M => if r9 = 0 then (some (0, M)) else (xbind (f_P_take b 21 M) fun r12 M => if r12 = 0 then (some (1, M)) else (f_P_arguments_2 rc b p1 n (v2 + Int32.ofInt 1) M))))
def f_P_arguments (rc : Nat → Int32 → Int32 → Int32 → xMem → Option (Int32 × xMem)) (b : Nat) (p1 : Int32) (M : xMem) : Option (Int32 × xMem) :=
  (f_P_arguments_2 rc b p1 xFuel 0 M)
set_option maxRecDepth 100000 in
set_option maxHeartbeats 400000 in
theorem s_P_arguments_2 {p : Program} {l : Launch} {e : Env} {R : Room} {s : State} {m : MethodId} {args : Array Value} {below : List Frame} {meth : Method} {c : Code} {G : xG} {Y : xY} {sz : Nat} {rc : Nat → Int32 → Int32 → Int32 → xMem → Option (Int32 × xMem)} {b : Nat} {p1 : Int32} {d : Nat} (hc : xC p s m args meth c G 3 c_P_arguments y_P_arguments.cls (some .boolean)) (hR : xRm R (d + 1)) (hb : xRd Y b) (hd : 8 ≤ d) (hrc : xGr l G Y b sz d rc) {M' : xMem} {r : Int32} : ∀ (n : Nat) (v2 : Int32) (M : xMem), f_P_arguments_2 rc b p1 n v2 M = some (r, M') → xW p l e R s m args below meth c G 3 (MQ below (xQc G (some (.int r)) (xo G Y M') sz) args s 0 0 (xA G)) (xo G Y M) sz 0 0 2 [some (.ref (b + 29)), some (.int p1), some (.int v2)] [] := by
  intro n
  induction n with
  | zero => intro v2 M hf; simp only [f_P_arguments_2] at hf; cases hf
  | succ n ih =>
    intro v2 M hf
    simp only [f_P_arguments_2] at hf
    refine x_iload_n hc (xd dk_P_arguments 2 rfl) rfl rfl ?_
    refine x_bipush hc (v := 60) (xd dk_P_arguments 3 rfl) (by decide) ?_
    refine x_icmp_gt hc (tgt := 36) (xd dk_P_arguments 4 rfl) rfl (fun q8 => ?_) (fun q8 => ?_)
    · rw [if_pos q8] at hf
      refine x_iconst hc (v := 0) (xd dk_P_arguments 19 rfl) (by decide) ?_
      cases hf
      exact x_zreturn hc rfl (xd dk_P_arguments 20 rfl)
    · rw [if_neg q8] at hf
      refine x_aload_n hc (xd dk_P_arguments 5 rfl) rfl rfl ?_
      refine x_iload_n hc (xd dk_P_arguments 6 rfl) rfl rfl ?_
      obtain ⟨r9, M, e10, hf⟩ := xbind_some hf
      refine x_callV hc (As := [.int p1]) (n := 1) (hrc.2.2.2.2.2.2.2.2.2.2.1 _ _ _ _ _ _ e10) (c_P hb _) rfl (hR.call (by omega) (by decide)) ⟨by decide, by decide, by decide⟩ rfl rfl xw526 xw9 xw523 xw525 xs_P_value (Nat.le_of_ble_eq_true rfl) ⟨Nat.zero_le _, Nat.zero_le _⟩ (xd dk_P_arguments 7 rfl) ?_
      refine x_if_ne hc (tgt := 18) (xd dk_P_arguments 8 rfl) rfl (fun q11 => ?_) (fun q11 => ?_)
      · rw [if_neg q11] at hf
        refine x_aload_n hc (xd dk_P_arguments 11 rfl) rfl rfl ?_
        refine x_getsK hc 21 (by decide) xw549 (xd dk_P_arguments 12 rfl) ?_
        obtain ⟨r12, M, e13, hf⟩ := xbind_some hf
        refine x_callV hc (As := [.ref (gE G 21)]) (n := 1) (s_P_take hb e13) (c_P hb _) rfl (hR.call (by omega) (by decide)) ⟨by decide, by decide, by decide⟩ rfl rfl xw491 xw9 xw488 xw490 xs_P_take (Nat.le_of_ble_eq_true rfl) ⟨Nat.zero_le _, Nat.zero_le _⟩ (xd dk_P_arguments 13 rfl) ?_
        refine x_if_ne hc (tgt := 30) (xd dk_P_arguments 14 rfl) rfl (fun q14 => ?_) (fun q14 => ?_)
        · rw [if_neg q14] at hf
          refine x_iinc hc (xd dk_P_arguments 17 rfl) rfl (by decide) rfl ?_
          refine x_goto hc (tgt := 2) (xd dk_P_arguments 18 rfl) rfl ?_
          exact ih (v2 + Int32.ofInt 1) M hf
        · rw [if_pos q14] at hf
          refine x_iconst hc (v := 1) (xd dk_P_arguments 15 rfl) (by decide) ?_
          cases hf
          exact x_zreturn hc rfl (xd dk_P_arguments 16 rfl)
      · rw [if_pos q11] at hf
        refine x_iconst hc (v := 0) (xd dk_P_arguments 9 rfl) (by decide) ?_
        cases hf
        exact x_zreturn hc rfl (xd dk_P_arguments 10 rfl)
set_option maxRecDepth 100000 in
set_option maxHeartbeats 400000 in
theorem s_P_arguments {l : Launch} {G : xG} {Y : xY} {sz : Nat} {rc : Nat → Int32 → Int32 → Int32 → xMem → Option (Int32 × xMem)} {b : Nat} {p1 : Int32} {d : Nat} (hb : xRd Y b) (hd : 8 ≤ d) (hrc : xGr l G Y b sz d rc) {M M' : xMem} {r : Int32} (hf : f_P_arguments rc b p1 M = some (r, M')) : xM l G y_P_arguments c_P_arguments 3 (some .boolean) (d + 1) 0 0 [.ref (b + 29), .int p1] (xo G Y M) sz (some (.int r)) (xo G Y M') sz := by
  unfold f_P_arguments at hf
  refine xM.of (k := 1) (L0 := [some (.ref (b + 29)), some (.int p1), none]) (by decide) (Nat.le_of_ble_eq_true rfl) rfl ?_
  intro p e s m args below meth c hc hnm
  have hR : xRm { frames := (d + 1), cells := 0, slots := 0, locals := 48 * (d + 1) } (d + 1) := ⟨Nat.le_refl _, Nat.le_refl _⟩
  refine x_iconst hc (v := 0) (xd dk_P_arguments 0 rfl) (by decide) ?_
  refine x_istore_n hc (xd dk_P_arguments 1 rfl) (by decide) rfl ?_
  exact s_P_arguments_2 hc hR hb hd hrc xFuel 0 M hf
