/-! the class, first part: pure functions and their walks (printed by gen/gen.py) -/
def f_L_at (b : Nat) (p1 : Int32) (M : xMem) : Option (Int32 × xMem) :=
  (if p1 < 0 then (some (0, M)) else (if M.1 b 1 ≤ p1 then (some (0, M)) else (if xin p1 160 = true then if xnar .char (M.1 (b + 1) p1.toNatClampNeg) = true then some (M.1 (b + 1) p1.toNatClampNeg, M) else none else none)))
set_option maxRecDepth 100000 in
set_option maxHeartbeats 400000 in
theorem s_L_at {l : Launch} {G : xG} {Y : xY} {sz : Nat} {b : Nat} {p1 : Int32}  (hb : xLt Y b) {M M' : xMem} {r : Int32} (hf : f_L_at b p1 M = some (r, M')) : xM l G y_L_at c_L_at 2 (some .char) 0 0 0 [.ref b, .int p1] (xo G Y M) sz (some (.int r)) (xo G Y M') sz := by
  unfold f_L_at at hf
  refine xM.of (k := 0) (L0 := [some (.ref b), some (.int p1)]) (by decide) (Nat.le_of_ble_eq_true rfl) rfl ?_
  intro p e s m args below meth c hc hnm
  have hR : xRm { frames := 0, cells := 0, slots := 0, locals := 48 * 0 } 0 := ⟨Nat.le_refl _, Nat.le_refl _⟩
  refine x_iload_n hc (xd dk_L_at 0 rfl) rfl rfl ?_
  refine x_if_lt hc (tgt := 21) (xd dk_L_at 1 rfl) rfl (fun q3 => ?_) (fun q3 => ?_)
  · rw [if_pos q3] at hf
    refine x_iconst hc (v := 0) (xd dk_L_at 11 rfl) (by decide) ?_
    cases hf
    exact x_zreturn hc rfl (xd dk_L_at 12 rfl)
  · rw [if_neg q3] at hf
    refine x_iload_n hc (xd dk_L_at 2 rfl) rfl rfl ?_
    refine x_aload_n hc (xd dk_L_at 3 rfl) rfl rfl ?_
    refine x_get hc (ci := 1) (k := 1) fi_L (c_L hb _) rfl (by decide) rfl xw41 rfl (xd dk_L_at 4 rfl) ?_
    refine x_icmp_ge hc (tgt := 21) (xd dk_L_at 5 rfl) rfl (fun q4 => ?_) (fun q4 => ?_)
    · rw [if_pos q4] at hf
      refine x_iconst hc (v := 0) (xd dk_L_at 11 rfl) (by decide) ?_
      cases hf
      exact x_zreturn hc rfl (xd dk_L_at 12 rfl)
    · rw [if_neg q4] at hf
      refine x_aload_n hc (xd dk_L_at 6 rfl) rfl rfl ?_
      refine x_get hc (ci := 1) (k := 0) fi_L (c_L hb _) rfl (by decide) rfl xw40 rfl (xd dk_L_at 7 rfl) ?_
      refine x_iload_n hc (xd dk_L_at 8 rfl) rfl rfl ?_
      by_cases q5 : xin p1 160 = true
      case neg => rw [if_neg q5] at hf; cases hf
      rw [if_pos q5] at hf
      refine x_cald hc (cA (xLt.ar hb)) (xin_in q5) (xd dk_L_at 9 rfl) ?_
      refine x_goto hc (tgt := 22) (xd dk_L_at 10 rfl) rfl ?_
      by_cases q6 : xnar .char (M.1 (b + 1) p1.toNatClampNeg) = true
      case neg => rw [if_neg q6] at hf; cases hf
      rw [if_pos q6] at hf
      cases hf
      exact x_zreturn hc (xnar_n q6) (xd dk_L_at 12 rfl)
def f_D_isBlank_12 (p0 : Int32) (M : xMem) : Option (Int32 × xMem) :=
  (some (1, M))
def f_D_isBlank (p0 : Int32) (M : xMem) : Option (Int32 × xMem) :=
  (if p0 = 32 then (f_D_isBlank_12 p0 M) else (if p0 = 10 then (f_D_isBlank_12 p0 M) else (some (0, M))))
set_option maxRecDepth 100000 in
set_option maxHeartbeats 400000 in
theorem s_D_isBlank_12 {p : Program} {l : Launch} {e : Env} {R : Room} {s : State} {m : MethodId} {args : Array Value} {below : List Frame} {meth : Method} {c : Code} {G : xG} {Y : xY} {sz : Nat} {p0 : Int32}  (hc : xC p s m args meth c G 1 c_D_isBlank y_D_isBlank.cls (some .boolean)) (hR : xRm R 0)  {M' : xMem} {r : Int32} (M : xMem) (hf : f_D_isBlank_12 p0 M = some (r, M')) : xW p l e R s m args below meth c G 1 (MQ below (xQc G (some (.int r)) (xo G Y M') sz) args s 0 0 (xA G)) (xo G Y M) sz 0 0 12 [some (.int p0)] [] := by
  unfold f_D_isBlank_12 at hf
  refine x_iconst hc (v := 1) (xd dk_D_isBlank 6 rfl) (by decide) ?_
  refine x_goto hc (tgt := 17) (xd dk_D_isBlank 7 rfl) rfl ?_
  cases hf
  exact x_zreturn hc rfl (xd dk_D_isBlank 9 rfl)
set_option maxRecDepth 100000 in
set_option maxHeartbeats 400000 in
theorem s_D_isBlank {l : Launch} {G : xG} {Y : xY} {sz : Nat} {p0 : Int32}   {M M' : xMem} {r : Int32} (hf : f_D_isBlank p0 M = some (r, M')) : xM l G y_D_isBlank c_D_isBlank 1 (some .boolean) 0 0 0 [.int p0] (xo G Y M) sz (some (.int r)) (xo G Y M') sz := by
  unfold f_D_isBlank at hf
  refine xM.of (k := 0) (L0 := [some (.int p0)]) (by decide) (Nat.le_of_ble_eq_true rfl) rfl ?_
  intro p e s m args below meth c hc hnm
  have hR : xRm { frames := 0, cells := 0, slots := 0, locals := 48 * 0 } 0 := ⟨Nat.le_refl _, Nat.le_refl _⟩
  refine x_iload_n hc (xd dk_D_isBlank 0 rfl) rfl rfl ?_
  refine x_bipush hc (v := 32) (xd dk_D_isBlank 1 rfl) (by decide) ?_
  refine x_icmp_eq hc (tgt := 12) (xd dk_D_isBlank 2 rfl) rfl (fun q2 => ?_) (fun q2 => ?_)
  · rw [if_pos q2] at hf
    exact s_D_isBlank_12 hc hR M hf
  · rw [if_neg q2] at hf
    refine x_iload_n hc (xd dk_D_isBlank 3 rfl) rfl rfl ?_
    refine x_bipush hc (v := 10) (xd dk_D_isBlank 4 rfl) (by decide) ?_
    refine x_icmp_ne hc (tgt := 16) (xd dk_D_isBlank 5 rfl) rfl (fun q3 => ?_) (fun q3 => ?_)
    · rw [if_neg q3] at hf
      refine x_iconst hc (v := 0) (xd dk_D_isBlank 8 rfl) (by decide) ?_
      cases hf
      exact x_zreturn hc rfl (xd dk_D_isBlank 9 rfl)
    · rw [if_pos q3] at hf
      exact s_D_isBlank_12 hc hR M hf
def f_D_isSmall (p0 : Int32) (M : xMem) : Option (Int32 × xMem) :=
  (if p0 < 97 then (some (0, M)) else (if 122 < p0 then (some (0, M)) else (some (1, M))))
set_option maxRecDepth 100000 in
set_option maxHeartbeats 400000 in
theorem s_D_isSmall {l : Launch} {G : xG} {Y : xY} {sz : Nat} {p0 : Int32}   {M M' : xMem} {r : Int32} (hf : f_D_isSmall p0 M = some (r, M')) : xM l G y_D_isSmall c_D_isSmall 1 (some .boolean) 0 0 0 [.int p0] (xo G Y M) sz (some (.int r)) (xo G Y M') sz := by
  unfold f_D_isSmall at hf
  refine xM.of (k := 0) (L0 := [some (.int p0)]) (by decide) (Nat.le_of_ble_eq_true rfl) rfl ?_
  intro p e s m args below meth c hc hnm
  have hR : xRm { frames := 0, cells := 0, slots := 0, locals := 48 * 0 } 0 := ⟨Nat.le_refl _, Nat.le_refl _⟩
  refine x_iload_n hc (xd dk_D_isSmall 0 rfl) rfl rfl ?_
  refine x_bipush hc (v := 97) (xd dk_D_isSmall 1 rfl) (by decide) ?_
  refine x_icmp_lt hc (tgt := 16) (xd dk_D_isSmall 2 rfl) rfl (fun q2 => ?_) (fun q2 => ?_)
  · rw [if_pos q2] at hf
    refine x_iconst hc (v := 0) (xd dk_D_isSmall 8 rfl) (by decide) ?_
    cases hf
    exact x_zreturn hc rfl (xd dk_D_isSmall 9 rfl)
  · rw [if_neg q2] at hf
    refine x_iload_n hc (xd dk_D_isSmall 3 rfl) rfl rfl ?_
    refine x_bipush hc (v := 122) (xd dk_D_isSmall 4 rfl) (by decide) ?_
    refine x_icmp_gt hc (tgt := 16) (xd dk_D_isSmall 5 rfl) rfl (fun q3 => ?_) (fun q3 => ?_)
    · rw [if_pos q3] at hf
      refine x_iconst hc (v := 0) (xd dk_D_isSmall 8 rfl) (by decide) ?_
      cases hf
      exact x_zreturn hc rfl (xd dk_D_isSmall 9 rfl)
    · rw [if_neg q3] at hf
      refine x_iconst hc (v := 1) (xd dk_D_isSmall 6 rfl) (by decide) ?_
      refine x_goto hc (tgt := 17) (xd dk_D_isSmall 7 rfl) rfl ?_
      cases hf
      exact x_zreturn hc rfl (xd dk_D_isSmall 9 rfl)
def f_D_isDigit (p0 : Int32) (M : xMem) : Option (Int32 × xMem) :=
  (if p0 < 48 then (some (0, M)) else (if 57 < p0 then (some (0, M)) else (some (1, M))))
set_option maxRecDepth 100000 in
set_option maxHeartbeats 400000 in
theorem s_D_isDigit {l : Launch} {G : xG} {Y : xY} {sz : Nat} {p0 : Int32}   {M M' : xMem} {r : Int32} (hf : f_D_isDigit p0 M = some (r, M')) : xM l G y_D_isDigit c_D_isDigit 1 (some .boolean) 0 0 0 [.int p0] (xo G Y M) sz (some (.int r)) (xo G Y M') sz := by
  unfold f_D_isDigit at hf
  refine xM.of (k := 0) (L0 := [some (.int p0)]) (by decide) (Nat.le_of_ble_eq_true rfl) rfl ?_
  intro p e s m args below meth c hc hnm
  have hR : xRm { frames := 0, cells := 0, slots := 0, locals := 48 * 0 } 0 := ⟨Nat.le_refl _, Nat.le_refl _⟩
  refine x_iload_n hc (xd dk_D_isDigit 0 rfl) rfl rfl ?_
  refine x_bipush hc (v := 48) (xd dk_D_isDigit 1 rfl) (by decide) ?_
  refine x_icmp_lt hc (tgt := 16) (xd dk_D_isDigit 2 rfl) rfl (fun q2 => ?_) (fun q2 => ?_)
  · rw [if_pos q2] at hf
    refine x_iconst hc (v := 0) (xd dk_D_isDigit 8 rfl) (by decide) ?_
    cases hf
    exact x_zreturn hc rfl (xd dk_D_isDigit 9 rfl)
  · rw [if_neg q2] at hf
    refine x_iload_n hc (xd dk_D_isDigit 3 rfl) rfl rfl ?_
    refine x_bipush hc (v := 57) (xd dk_D_isDigit 4 rfl) (by decide) ?_
    refine x_icmp_gt hc (tgt := 16) (xd dk_D_isDigit 5 rfl) rfl (fun q3 => ?_) (fun q3 => ?_)
    · rw [if_pos q3] at hf
      refine x_iconst hc (v := 0) (xd dk_D_isDigit 8 rfl) (by decide) ?_
      cases hf
      exact x_zreturn hc rfl (xd dk_D_isDigit 9 rfl)
    · rw [if_neg q3] at hf
      refine x_iconst hc (v := 1) (xd dk_D_isDigit 6 rfl) (by decide) ?_
      refine x_goto hc (tgt := 17) (xd dk_D_isDigit 7 rfl) rfl ?_
      cases hf
      exact x_zreturn hc rfl (xd dk_D_isDigit 9 rfl)
def f_L_octets_17 (b : Nat) (p1 : Int32) (p2 : Int32) : Nat → Int64 → Int32 → xMem → Option (Int64 × xMem)
  | 0, _, _, _ => none
  | n + 1, v3, v5, M =>
    (if v5 < p1 then (some (v3, M)) else (xbind (f_L_at b v5 M) fun r4 M => f_L_octets_17 b p1 p2 n ((v3 <<< ((8 : Int32).toInt64 &&& 63)) ||| r4.toInt64) (v5 + Int32.ofInt (-1)) M))
def f_L_octets (b : Nat) (p1 : Int32) (p2 : Int32) (M : xMem) : Option (Int64 × xMem) :=
  (if (p2 - p1) ≤ 8 then (f_L_octets_17 b p1 p2 xFuel 0 (p2 - 1) M) else (some (0, M)))
set_option maxRecDepth 100000 in
set_option maxHeartbeats 400000 in
theorem s_L_octets_17 {p : Program} {l : Launch} {e : Env} {R : Room} {s : State} {m : MethodId} {args : Array Value} {below : List Frame} {meth : Method} {c : Code} {G : xG} {Y : xY} {sz : Nat} {b : Nat} {p1 : Int32} {p2 : Int32}  (hc : xC p s m args meth c G 6 c_L_octets y_L_octets.cls (some .long)) (hR : xRm R 1) (hb : xLt Y b) {M' : xMem} {r : Int64} : ∀ (n : Nat) (v3 : Int64) (v5 : Int32) (M : xMem), f_L_octets_17 b p1 p2 n v3 v5 M = some (r, M') → xW p l e R s m args below meth c G 6 (MQ below (xQc G (some (.long r)) (xo G Y M') sz) args s 0 0 (xA G)) (xo G Y M) sz 0 0 17 [some (.ref b), some (.int p1), some (.int p2), some (.long (v3)), none, some (.int v5)] [] := by
  intro n
  induction n with
  | zero => intro v3 v5 M hf; simp only [f_L_octets_17] at hf; cases hf
  | succ n ih =>
    intro v3 v5 M hf
    simp only [f_L_octets_17] at hf
    refine x_iload hc (xd dk_L_octets 13 rfl) rfl ?_
    refine x_iload_n hc (xd dk_L_octets 14 rfl) rfl rfl ?_
    refine x_icmp_lt hc (tgt := 42) (xd dk_L_octets 15 rfl) rfl (fun q3 => ?_) (fun q3 => ?_)
    · rw [if_pos q3] at hf
      refine x_lload_n hc (xd dk_L_octets 27 rfl) rfl rfl ?_
      cases hf
      exact x_lreturn hc (xd dk_L_octets 28 rfl)
    · rw [if_neg q3] at hf
      refine x_lload_n hc (xd dk_L_octets 16 rfl) rfl rfl ?_
      refine x_bipush hc (v := 8) (xd dk_L_octets 17 rfl) (by decide) ?_
      refine x_lshl hc (xd dk_L_octets 18 rfl) rfl ?_
      refine x_aload_n hc (xd dk_L_octets 19 rfl) rfl rfl ?_
      refine x_iload hc (xd dk_L_octets 20 rfl) rfl ?_
      obtain ⟨r4, M, e5, hf⟩ := xbind_some hf
      refine x_callV hc (As := [.int v5]) (n := 1) (s_L_at hb e5) (c_L hb _) rfl (hR.call (by decide) (by decide)) ⟨by decide, by decide, by decide⟩ rfl rfl xw301 xw2 xw298 xw299 xw300 (Nat.le_of_ble_eq_true rfl) ⟨Nat.zero_le _, Nat.zero_le _⟩ (xd dk_L_octets 21 rfl) ?_
      refine x_i2l hc (xd dk_L_octets 22 rfl) rfl ?_
      refine x_lor hc (xd dk_L_octets 23 rfl) ?_
      refine x_lstore_n hc (xd dk_L_octets 24 rfl) (by decide) rfl ?_
      refine x_iinc hc (xd dk_L_octets 25 rfl) rfl (by decide) rfl ?_
      refine x_goto hc (tgt := 17) (xd dk_L_octets 26 rfl) rfl ?_
      exact ih ((v3 <<< ((8 : Int32).toInt64 &&& 63)) ||| r4.toInt64) (v5 + Int32.ofInt (-1)) M hf
set_option maxRecDepth 100000 in
set_option maxHeartbeats 400000 in
theorem s_L_octets {l : Launch} {G : xG} {Y : xY} {sz : Nat} {b : Nat} {p1 : Int32} {p2 : Int32}  (hb : xLt Y b) {M M' : xMem} {r : Int64} (hf : f_L_octets b p1 p2 M = some (r, M')) : xM l G y_L_octets c_L_octets 6 (some .long) 1 0 0 [.ref b, .int p1, .int p2] (xo G Y M) sz (some (.long r)) (xo G Y M') sz := by
  unfold f_L_octets at hf
  refine xM.of (k := 3) (L0 := [some (.ref b), some (.int p1), some (.int p2), none, none, none]) (by decide) (Nat.le_of_ble_eq_true rfl) rfl ?_
  intro p e s m args below meth c hc hnm
  have hR : xRm { frames := 1, cells := 0, slots := 0, locals := 48 * 1 } 1 := ⟨Nat.le_refl _, Nat.le_refl _⟩
  refine x_iload_n hc (xd dk_L_octets 0 rfl) rfl rfl ?_
  refine x_iload_n hc (xd dk_L_octets 1 rfl) rfl rfl ?_
  refine x_isub hc (xd dk_L_octets 2 rfl) ?_
  refine x_bipush hc (v := 8) (xd dk_L_octets 3 rfl) (by decide) ?_
  refine x_icmp_le hc (tgt := 10) (xd dk_L_octets 4 rfl) rfl (fun q6 => ?_) (fun q6 => ?_)
  · rw [if_pos q6] at hf
    refine x_lconst hc (v := 0) (xd dk_L_octets 7 rfl) (by decide) ?_
    refine x_lstore_n hc (xd dk_L_octets 8 rfl) (by decide) rfl ?_
    refine x_iload_n hc (xd dk_L_octets 9 rfl) rfl rfl ?_
    refine x_iconst hc (v := 1) (xd dk_L_octets 10 rfl) (by decide) ?_
    refine x_isub hc (xd dk_L_octets 11 rfl) ?_
    refine x_istore hc (xd dk_L_octets 12 rfl) (by decide) rfl ?_
    exact s_L_octets_17 hc hR hb xFuel 0 (p2 - 1) M hf
  · rw [if_neg q6] at hf
    refine x_lconst hc (v := 0) (xd dk_L_octets 5 rfl) (by decide) ?_
    cases hf
    exact x_lreturn hc (xd dk_L_octets 6 rfl)
def f_L_samePart_3 (b : Nat) (p1 : Int32) (p2 : Int32) (p3 : Int32) : Nat → Int32 → xMem → Option (Int32 × xMem)
  | 0, _, _ => none
  | n + 1, v4, M =>
    (if p3 ≤ v4 then (some (1, M)) else (xbind (f_L_at b (p1 + v4) M) fun r8 M => xbind (f_L_at b (p2 + v4) M) fun r10 M => if r8 = r10 then (f_L_samePart_3 b p1 p2 p3 n (v4 + Int32.ofInt 1) M) else (some (0, M))))
def f_L_samePart (b : Nat) (p1 : Int32) (p2 : Int32) (p3 : Int32) (M : xMem) : Option (Int32 × xMem) :=
  (f_L_samePart_3 b p1 p2 p3 xFuel 0 M)
set_option maxRecDepth 100000 in
set_option maxHeartbeats 400000 in
theorem s_L_samePart_3 {p : Program} {l : Launch} {e : Env} {R : Room} {s : State} {m : MethodId} {args : Array Value} {below : List Frame} {meth : Method} {c : Code} {G : xG} {Y : xY} {sz : Nat} {b : Nat} {p1 : Int32} {p2 : Int32} {p3 : Int32}  (hc : xC p s m args meth c G 5 c_L_samePart y_L_samePart.cls (some .boolean)) (hR : xRm R 1) (hb : xLt Y b) {M' : xMem} {r : Int32} : ∀ (n : Nat) (v4 : Int32) (M : xMem), f_L_samePart_3 b p1 p2 p3 n v4 M = some (r, M') → xW p l e R s m args below meth c G 5 (MQ below (xQc G (some (.int r)) (xo G Y M') sz) args s 0 0 (xA G)) (xo G Y M) sz 0 0 3 [some (.ref b), some (.int p1), some (.int p2), some (.int p3), some (.int v4)] [] := by
  intro n
  induction n with
  | zero => intro v4 M hf; simp only [f_L_samePart_3] at hf; cases hf
  | succ n ih =>
    intro v4 M hf
    simp only [f_L_samePart_3] at hf
    refine x_iload hc (xd dk_L_samePart 2 rfl) rfl ?_
    refine x_iload_n hc (xd dk_L_samePart 3 rfl) rfl rfl ?_
    refine x_icmp_ge hc (tgt := 36) (xd dk_L_samePart 4 rfl) rfl (fun q7 => ?_) (fun q7 => ?_)
    · rw [if_pos q7] at hf
      refine x_iconst hc (v := 1) (xd dk_L_samePart 20 rfl) (by decide) ?_
      cases hf
      exact x_zreturn hc rfl (xd dk_L_samePart 21 rfl)
    · rw [if_neg q7] at hf
      refine x_aload_n hc (xd dk_L_samePart 5 rfl) rfl rfl ?_
      refine x_iload_n hc (xd dk_L_samePart 6 rfl) rfl rfl ?_
      refine x_iload hc (xd dk_L_samePart 7 rfl) rfl ?_
      refine x_iadd hc (xd dk_L_samePart 8 rfl) ?_
      obtain ⟨r8, M, e9, hf⟩ := xbind_some hf
      refine x_callV hc (As := [.int ((p1 + v4))]) (n := 1) (s_L_at hb e9) (c_L hb _) rfl (hR.call (by decide) (by decide)) ⟨by decide, by decide, by decide⟩ rfl rfl xw301 xw2 xw298 xw299 xw300 (Nat.le_of_ble_eq_true rfl) ⟨Nat.zero_le _, Nat.zero_le _⟩ (xd dk_L_samePart 9 rfl) ?_
      refine x_aload_n hc (xd dk_L_samePart 10 rfl) rfl rfl ?_
      refine x_iload_n hc (xd dk_L_samePart 11 rfl) rfl rfl ?_
      refine x_iload hc (xd dk_L_samePart 12 rfl) rfl ?_
      refine x_iadd hc (xd dk_L_samePart 13 rfl) ?_
      obtain ⟨r10, M, e11, hf⟩ := xbind_some hf
      refine x_callV hc (As := [.int ((p2 + v4))]) (n := 1) (s_L_at hb e11) (c_L hb _) rfl (hR.call (by decide) (by decide)) ⟨by decide, by decide, by decide⟩ rfl rfl xw301 xw2 xw298 xw299 xw300 (Nat.le_of_ble_eq_true rfl) ⟨Nat.zero_le _, Nat.zero_le _⟩ (xd dk_L_samePart 14 rfl) ?_
      refine x_icmp_eq hc (tgt := 30) (xd dk_L_samePart 15 rfl) rfl (fun q12 => ?_) (fun q12 => ?_)
      · rw [if_pos q12] at hf
        refine x_iinc hc (xd dk_L_samePart 18 rfl) rfl (by decide) rfl ?_
        refine x_goto hc (tgt := 3) (xd dk_L_samePart 19 rfl) rfl ?_
        exact ih (v4 + Int32.ofInt 1) M hf
      · rw [if_neg q12] at hf
        refine x_iconst hc (v := 0) (xd dk_L_samePart 16 rfl) (by decide) ?_
        cases hf
        exact x_zreturn hc rfl (xd dk_L_samePart 17 rfl)
set_option maxRecDepth 100000 in
set_option maxHeartbeats 400000 in
theorem s_L_samePart {l : Launch} {G : xG} {Y : xY} {sz : Nat} {b : Nat} {p1 : Int32} {p2 : Int32} {p3 : Int32}  (hb : xLt Y b) {M M' : xMem} {r : Int32} (hf : f_L_samePart b p1 p2 p3 M = some (r, M')) : xM l G y_L_samePart c_L_samePart 5 (some .boolean) 1 0 0 [.ref b, .int p1, .int p2, .int p3] (xo G Y M) sz (some (.int r)) (xo G Y M') sz := by
  unfold f_L_samePart at hf
  refine xM.of (k := 1) (L0 := [some (.ref b), some (.int p1), some (.int p2), some (.int p3), none]) (by decide) (Nat.le_of_ble_eq_true rfl) rfl ?_
  intro p e s m args below meth c hc hnm
  have hR : xRm { frames := 1, cells := 0, slots := 0, locals := 48 * 1 } 1 := ⟨Nat.le_refl _, Nat.le_refl _⟩
  refine x_iconst hc (v := 0) (xd dk_L_samePart 0 rfl) (by decide) ?_
  refine x_istore hc (xd dk_L_samePart 1 rfl) (by decide) rfl ?_
  exact s_L_samePart_3 hc hR hb xFuel 0 M hf
def f_L_behindNumber_2 (b : Nat) (p1 : Int32) : Nat → Int32 → xMem → Option (Int32 × xMem)
  | 0, _, _ => none
  | n + 1, v2, M =>
    (if M.1 b 1 ≤ v2 then (some (v2, M)) else (xbind (f_L_at b v2 M) fun r10 M => xbind (f_D_isDigit r10 M) fun r12 M => if r12 = 0 then (some (v2, M)) else (f_L_behindNumber_2 b p1 n (v2 + Int32.ofInt 1) M)))
def f_L_behindNumber (b : Nat) (p1 : Int32) (M : xMem) : Option (Int32 × xMem) :=
  (f_L_behindNumber_2 b p1 xFuel p1 M)
set_option maxRecDepth 100000 in
set_option maxHeartbeats 400000 in
theorem s_L_behindNumber_2 {p : Program} {l : Launch} {e : Env} {R : Room} {s : State} {m : MethodId} {args : Array Value} {below : List Frame} {meth : Method} {c : Code} {G : xG} {Y : xY} {sz : Nat} {b : Nat} {p1 : Int32}  (hc : xC p s m args meth c G 3 c_L_behindNumber y_L_behindNumber.cls (some .int)) (hR : xRm R 1) (hb : xLt Y b) {M' : xMem} {r : Int32} : ∀ (n : Nat) (v2 : Int32) (M : xMem), f_L_behindNumber_2 b p1 n v2 M = some (r, M') → xW p l e R s m args below meth c G 3 (MQ below (xQc G (some (.int r)) (xo G Y M') sz) args s 0 0 (xA G)) (xo G Y M) sz 0 0 2 [some (.ref b), some (.int p1), some (.int v2)] [] := by
  intro n
  induction n with
  | zero => intro v2 M hf; simp only [f_L_behindNumber_2] at hf; cases hf
  | succ n ih =>
    intro v2 M hf
    simp only [f_L_behindNumber_2] at hf
    refine x_iload_n hc (xd dk_L_behindNumber 2 rfl) rfl rfl ?_
    refine x_aload_n hc (xd dk_L_behindNumber 3 rfl) rfl rfl ?_
    refine x_get hc (ci := 1) (k := 1) fi_L (c_L hb _) rfl (by decide) rfl xw41 rfl (xd dk_L_behindNumber 4 rfl) ?_
    refine x_icmp_ge hc (tgt := 27) (xd dk_L_behindNumber 5 rfl) rfl (fun q9 => ?_) (fun q9 => ?_)
    · rw [if_pos q9] at hf
      refine x_iload_n hc (xd dk_L_behindNumber 13 rfl) rfl rfl ?_
      cases hf
      exact x_ireturn hc (xd dk_L_behindNumber 14 rfl)
    · rw [if_neg q9] at hf
      refine x_aload_n hc (xd dk_L_behindNumber 6 rfl) rfl rfl ?_
      refine x_iload_n hc (xd dk_L_behindNumber 7 rfl) rfl rfl ?_
      obtain ⟨r10, M, e11, hf⟩ := xbind_some hf
      refine x_callV hc (As := [.int v2]) (n := 1) (s_L_at hb e11) (c_L hb _) rfl (hR.call (by decide) (by decide)) ⟨by decide, by decide, by decide⟩ rfl rfl xw301 xw2 xw298 xw299 xw300 (Nat.le_of_ble_eq_true rfl) ⟨Nat.zero_le _, Nat.zero_le _⟩ (xd dk_L_behindNumber 8 rfl) ?_
      obtain ⟨r12, M, e13, hf⟩ := xbind_some hf
      refine x_callSN hc (As := [.int r10]) (n := 1) (s_D_isDigit e13) (hR.call (by decide) (by decide)) ⟨by decide, by decide, by decide⟩ rfl rfl xw326 xw1 xn324 xw325 (Nat.le_of_ble_eq_true rfl) ⟨Nat.zero_le _, Nat.zero_le _⟩ (xd dk_L_behindNumber 9 rfl) ?_
      refine x_if_eq hc (tgt := 27) (xd dk_L_behindNumber 10 rfl) rfl (fun q14 => ?_) (fun q14 => ?_)
      · rw [if_pos q14] at hf
        refine x_iload_n hc (xd dk_L_behindNumber 13 rfl) rfl rfl ?_
        cases hf
        exact x_ireturn hc (xd dk_L_behindNumber 14 rfl)
      · rw [if_neg q14] at hf
        refine x_iinc hc (xd dk_L_behindNumber 11 rfl) rfl (by decide) rfl ?_
        refine x_goto hc (tgt := 2) (xd dk_L_behindNumber 12 rfl) rfl ?_
        exact ih (v2 + Int32.ofInt 1) M hf
set_option maxRecDepth 100000 in
set_option maxHeartbeats 400000 in
theorem s_L_behindNumber {l : Launch} {G : xG} {Y : xY} {sz : Nat} {b : Nat} {p1 : Int32}  (hb : xLt Y b) {M M' : xMem} {r : Int32} (hf : f_L_behindNumber b p1 M = some (r, M')) : xM l G y_L_behindNumber c_L_behindNumber 3 (some .int) 1 0 0 [.ref b, .int p1] (xo G Y M) sz (some (.int r)) (xo G Y M') sz := by
  unfold f_L_behindNumber at hf
  refine xM.of (k := 1) (L0 := [some (.ref b), some (.int p1), none]) (by decide) (Nat.le_of_ble_eq_true rfl) rfl ?_
  intro p e s m args below meth c hc hnm
  have hR : xRm { frames := 1, cells := 0, slots := 0, locals := 48 * 1 } 1 := ⟨Nat.le_refl _, Nat.le_refl _⟩
  refine x_iload_n hc (xd dk_L_behindNumber 0 rfl) rfl rfl ?_
  refine x_istore_n hc (xd dk_L_behindNumber 1 rfl) (by decide) rfl ?_
  exact s_L_behindNumber_2 hc hR hb xFuel p1 M hf
def f_L_behindText_4 (b : Nat) (p1 : Int32) : Nat → Int32 → xMem → Option (Int32 × xMem)
  | 0, _, _ => none
  | n + 1, v2, M =>
    (if M.1 b 1 ≤ v2 then (some (p1, M)) else (xbind (f_L_at b v2 M) fun r6 M => if r6 = 10 then (some (p1, M)) else (xbind (f_L_at b v2 M) fun r9 M => if r9 = 39 then (some ((v2 + 1), M)) else (f_L_behindText_4 b p1 n (v2 + Int32.ofInt 1) M))))
def f_L_behindText (b : Nat) (p1 : Int32) (M : xMem) : Option (Int32 × xMem) :=
  (f_L_behindText_4 b p1 xFuel (p1 + 1) M)
set_option maxRecDepth 100000 in
set_option maxHeartbeats 400000 in
theorem s_L_behindText_4 {p : Program} {l : Launch} {e : Env} {R : Room} {s : State} {m : MethodId} {args : Array Value} {below : List Frame} {meth : Method} {c : Code} {G : xG} {Y : xY} {sz : Nat} {b : Nat} {p1 : Int32}  (hc : xC p s m args meth c G 3 c_L_behindText y_L_behindText.cls (some .int)) (hR : xRm R 1) (hb : xLt Y b) {M' : xMem} {r : Int32} : ∀ (n : Nat) (v2 : Int32) (M : xMem), f_L_behindText_4 b p1 n v2 M = some (r, M') → xW p l e R s m args below meth c G 3 (MQ below (xQc G (some (.int r)) (xo G Y M') sz) args s 0 0 (xA G)) (xo G Y M) sz 0 0 4 [some (.ref b), some (.int p1), some (.int v2)] [] := by
  intro n
  induction n with
  | zero => intro v2 M hf; simp only [f_L_behindText_4] at hf; cases hf
  | succ n ih =>
    intro v2 M hf
    simp only [f_L_behindText_4] at hf
    refine x_iload_n hc (xd dk_L_behindText 4 rfl) rfl rfl ?_
    refine x_aload_n hc (xd dk_L_behindText 5 rfl) rfl rfl ?_
    refine x_get hc (ci := 1) (k := 1) fi_L (c_L hb _) rfl (by decide) rfl xw41 rfl (xd dk_L_behindText 6 rfl) ?_
    refine x_icmp_ge hc (tgt := 42) (xd dk_L_behindText 7 rfl) rfl (fun q5 => ?_) (fun q5 => ?_)
    · rw [if_pos q5] at hf
      refine x_iload_n hc (xd dk_L_behindText 24 rfl) rfl rfl ?_
      cases hf
      exact x_ireturn hc (xd dk_L_behindText 25 rfl)
    · rw [if_neg q5] at hf
      refine x_aload_n hc (xd dk_L_behindText 8 rfl) rfl rfl ?_
      refine x_iload_n hc (xd dk_L_behindText 9 rfl) rfl rfl ?_
      obtain ⟨r6, M, e7, hf⟩ := xbind_some hf
      refine x_callV hc (As := [.int v2]) (n := 1) (s_L_at hb e7) (c_L hb _) rfl (hR.call (by decide) (by decide)) ⟨by decide, by decide, by decide⟩ rfl rfl xw301 xw2 xw298 xw299 xw300 (Nat.le_of_ble_eq_true rfl) ⟨Nat.zero_le _, Nat.zero_le _⟩ (xd dk_L_behindText 10 rfl) ?_
      refine x_bipush hc (v := 10) (xd dk_L_behindText 11 rfl) (by decide) ?_
      refine x_icmp_eq hc (tgt := 42) (xd dk_L_behindText 12 rfl) rfl (fun q8 => ?_) (fun q8 => ?_)
      · rw [if_pos q8] at hf
        refine x_iload_n hc (xd dk_L_behindText 24 rfl) rfl rfl ?_
        cases hf
        exact x_ireturn hc (xd dk_L_behindText 25 rfl)
      · rw [if_neg q8] at hf
        refine x_aload_n hc (xd dk_L_behindText 13 rfl) rfl rfl ?_
        refine x_iload_n hc (xd dk_L_behindText 14 rfl) rfl rfl ?_
        obtain ⟨r9, M, e10, hf⟩ := xbind_some hf
        refine x_callV hc (As := [.int v2]) (n := 1) (s_L_at hb e10) (c_L hb _) rfl (hR.call (by decide) (by decide)) ⟨by decide, by decide, by decide⟩ rfl rfl xw301 xw2 xw298 xw299 xw300 (Nat.le_of_ble_eq_true rfl) ⟨Nat.zero_le _, Nat.zero_le _⟩ (xd dk_L_behindText 15 rfl) ?_
        refine x_bipush hc (v := 39) (xd dk_L_behindText 16 rfl) (by decide) ?_
        refine x_icmp_ne hc (tgt := 36) (xd dk_L_behindText 17 rfl) rfl (fun q11 => ?_) (fun q11 => ?_)
        · rw [if_neg q11] at hf
          refine x_iinc hc (xd dk_L_behindText 22 rfl) rfl (by decide) rfl ?_
          refine x_goto hc (tgt := 4) (xd dk_L_behindText 23 rfl) rfl ?_
          exact ih (v2 + Int32.ofInt 1) M hf
        · rw [if_pos q11] at hf
          refine x_iload_n hc (xd dk_L_behindText 18 rfl) rfl rfl ?_
          refine x_iconst hc (v := 1) (xd dk_L_behindText 19 rfl) (by decide) ?_
          refine x_iadd hc (xd dk_L_behindText 20 rfl) ?_
          cases hf
          exact x_ireturn hc (xd dk_L_behindText 21 rfl)
set_option maxRecDepth 100000 in
set_option maxHeartbeats 400000 in
theorem s_L_behindText {l : Launch} {G : xG} {Y : xY} {sz : Nat} {b : Nat} {p1 : Int32}  (hb : xLt Y b) {M M' : xMem} {r : Int32} (hf : f_L_behindText b p1 M = some (r, M')) : xM l G y_L_behindText c_L_behindText 3 (some .int) 1 0 0 [.ref b, .int p1] (xo G Y M) sz (some (.int r)) (xo G Y M') sz := by
  unfold f_L_behindText at hf
  refine xM.of (k := 1) (L0 := [some (.ref b), some (.int p1), none]) (by decide) (Nat.le_of_ble_eq_true rfl) rfl ?_
  intro p e s m args below meth c hc hnm
  have hR : xRm { frames := 1, cells := 0, slots := 0, locals := 48 * 1 } 1 := ⟨Nat.le_refl _, Nat.le_refl _⟩
  refine x_iload_n hc (xd dk_L_behindText 0 rfl) rfl rfl ?_
  refine x_iconst hc (v := 1) (xd dk_L_behindText 1 rfl) (by decide) ?_
  refine x_iadd hc (xd dk_L_behindText 2 rfl) ?_
  refine x_istore_n hc (xd dk_L_behindText 3 rfl) (by decide) rfl ?_
  exact s_L_behindText_4 hc hR hb xFuel (p1 + 1) M hf
def f_S_clear (b : Nat) (M : xMem) : Option (Unit × xMem) :=
  (if xin 0 61 = true then xlet (wI M (b + 9) (0 : Int32).toNatClampNeg 0) fun M => if xin 0 61 = true then xlet (wI M (b + 10) (0 : Int32).toNatClampNeg 0) fun M => if xin 0 61 = true then xlet (wI M (b + 11) (0 : Int32).toNatClampNeg 0) fun M => xlet (wI M (b + 8) 3 1) fun M => some ((), M) else none else none else none)
set_option maxRecDepth 100000 in
set_option maxHeartbeats 400000 in
theorem s_S_clear {l : Launch} {G : xG} {Y : xY} {sz : Nat} {b : Nat}  (hb : xRd Y b) {M M' : xMem} {r : Unit} (hf : f_S_clear b M = some (r, M')) : xM l G y_S_clear c_S_clear 1 none 0 0 0 [.ref (b + 8)] (xo G Y M) sz none (xo G Y M') sz := by
  unfold f_S_clear at hf
  refine xM.of (k := 0) (L0 := [some (.ref (b + 8))]) (by decide) (Nat.le_of_ble_eq_true rfl) rfl ?_
  intro p e s m args below meth c hc hnm
  have hR : xRm { frames := 0, cells := 0, slots := 0, locals := 48 * 0 } 0 := ⟨Nat.le_refl _, Nat.le_refl _⟩
  refine x_aload_n hc (xd dk_S_clear 0 rfl) rfl rfl ?_
  refine x_get hc (ci := 4) (k := 0) fi_S (c_S hb _) rfl (by decide) rfl xw110 rfl (xd dk_S_clear 1 rfl) ?_
  refine x_iconst hc (v := 0) (xd dk_S_clear 2 rfl) (by decide) ?_
  refine x_iconst hc (v := 0) (xd dk_S_clear 3 rfl) (by decide) ?_
  by_cases q4 : xin 0 61 = true
  case neg => rw [if_neg q4] at hf; cases hf
  rw [if_pos q4] at hf
  refine x_iast hc (cA (xRd.ar hb 9 (by decide) rfl)) (xin_in q4) (xd dk_S_clear 4 rfl) ?_
  rw [wA (xRd.ar hb 9 (by decide) rfl)]
  replace hf := xlet_some hf
  generalize wI M (b + 9) (0 : Int32).toNatClampNeg 0 = M at hf ⊢
  refine x_aload_n hc (xd dk_S_clear 5 rfl) rfl rfl ?_
  refine x_get hc (ci := 4) (k := 1) fi_S (c_S hb _) rfl (by decide) rfl xw111 rfl (xd dk_S_clear 6 rfl) ?_
  refine x_iconst hc (v := 0) (xd dk_S_clear 7 rfl) (by decide) ?_
  refine x_iconst hc (v := 0) (xd dk_S_clear 8 rfl) (by decide) ?_
  by_cases q5 : xin 0 61 = true
  case neg => rw [if_neg q5] at hf; cases hf
  rw [if_pos q5] at hf
  refine x_iast hc (cA (xRd.ar hb 10 (by decide) rfl)) (xin_in q5) (xd dk_S_clear 9 rfl) ?_
  rw [wA (xRd.ar hb 10 (by decide) rfl)]
  replace hf := xlet_some hf
  generalize wI M (b + 10) (0 : Int32).toNatClampNeg 0 = M at hf ⊢
  refine x_aload_n hc (xd dk_S_clear 10 rfl) rfl rfl ?_
  refine x_get hc (ci := 4) (k := 2) fi_S (c_S hb _) rfl (by decide) rfl xw112 rfl (xd dk_S_clear 11 rfl) ?_
  refine x_iconst hc (v := 0) (xd dk_S_clear 12 rfl) (by decide) ?_
  refine x_iconst hc (v := 0) (xd dk_S_clear 13 rfl) (by decide) ?_
  by_cases q6 : xin 0 61 = true
  case neg => rw [if_neg q6] at hf; cases hf
  rw [if_pos q6] at hf
  refine x_iast hc (cA (xRd.ar hb 11 (by decide) rfl)) (xin_in q6) (xd dk_S_clear 14 rfl) ?_
  rw [wA (xRd.ar hb 11 (by decide) rfl)]
  replace hf := xlet_some hf
  generalize wI M (b + 11) (0 : Int32).toNatClampNeg 0 = M at hf ⊢
  refine x_aload_n hc (xd dk_S_clear 15 rfl) rfl rfl ?_
  refine x_iconst hc (v := 1) (xd dk_S_clear 16 rfl) (by decide) ?_
  refine x_put hc (ci := 4) (k := 3) fi_S ft_S ft_S_ok fn_S (c_S hb _) rfl (by decide) rfl xw113 rfl rfl rfl (Nat.le_of_ble_eq_true rfl) (xd dk_S_clear 17 rfl) ?_
  rw [w_S_3 hb]
  replace hf := xlet_some hf
  generalize wI M (b + 8) 3 1 = M at hf ⊢
  cases hf
  exact x_return hc (xd dk_S_clear 18 rfl)
def f_M_clear_2 (b : Nat) : Nat → Int32 → xMem → Option (Unit × xMem)
  | 0, _, _ => none
  | n + 1, v1, M =>
    (if 60 ≤ v1 then (some ((), M)) else (if xin v1 60 = true then xlet (wI M (b + 22) v1.toNatClampNeg 0) fun M => if xin v1 60 = true then xlet (wI M (b + 23) v1.toNatClampNeg 0) fun M => if xin v1 60 = true then xlet (wI M (b + 24) v1.toNatClampNeg (vp_nar .boolean 0)) fun M => f_M_clear_2 b n (v1 + Int32.ofInt 1) M else none else none else none))
def f_M_clear (b : Nat) (M : xMem) : Option (Unit × xMem) :=
  (f_M_clear_2 b xFuel 0 M)
set_option maxRecDepth 100000 in
set_option maxHeartbeats 400000 in
theorem s_M_clear_2 {p : Program} {l : Launch} {e : Env} {R : Room} {s : State} {m : MethodId} {args : Array Value} {below : List Frame} {meth : Method} {c : Code} {G : xG} {Y : xY} {sz : Nat} {b : Nat}  (hc : xC p s m args meth c G 2 c_M_clear y_M_clear.cls none) (hR : xRm R 0) (hb : xRd Y b) {M' : xMem} {r : Unit} : ∀ (n : Nat) (v1 : Int32) (M : xMem), f_M_clear_2 b n v1 M = some (r, M') → xW p l e R s m args below meth c G 2 (MQ below (xQc G none (xo G Y M') sz) args s 0 0 (xA G)) (xo G Y M) sz 0 0 2 [some (.ref (b + 21)), some (.int v1)] [] := by
  intro n
  induction n with
  | zero => intro v1 M hf; simp only [f_M_clear_2] at hf; cases hf
  | succ n ih =>
    intro v1 M hf
    simp only [f_M_clear_2] at hf
    refine x_iload_n hc (xd dk_M_clear 2 rfl) rfl rfl ?_
    refine x_bipush hc (v := 60) (xd dk_M_clear 3 rfl) (by decide) ?_
    refine x_icmp_ge hc (tgt := 35) (xd dk_M_clear 4 rfl) rfl (fun q4 => ?_) (fun q4 => ?_)
    · rw [if_pos q4] at hf
      cases hf
      exact x_return hc (xd dk_M_clear 22 rfl)
    · rw [if_neg q4] at hf
      refine x_aload_n hc (xd dk_M_clear 5 rfl) rfl rfl ?_
      refine x_get hc (ci := 6) (k := 0) fi_M (c_M hb _) rfl (by decide) rfl xw181 rfl (xd dk_M_clear 6 rfl) ?_
      refine x_iload_n hc (xd dk_M_clear 7 rfl) rfl rfl ?_
      refine x_iconst hc (v := 0) (xd dk_M_clear 8 rfl) (by decide) ?_
      by_cases q5 : xin v1 60 = true
      case neg => rw [if_neg q5] at hf; cases hf
      rw [if_pos q5] at hf
      refine x_iast hc (cA (xRd.ar hb 22 (by decide) rfl)) (xin_in q5) (xd dk_M_clear 9 rfl) ?_
      rw [wA (xRd.ar hb 22 (by decide) rfl)]
      replace hf := xlet_some hf
      generalize wI M (b + 22) v1.toNatClampNeg 0 = M at hf ⊢
      refine x_aload_n hc (xd dk_M_clear 10 rfl) rfl rfl ?_
      refine x_get hc (ci := 6) (k := 1) fi_M (c_M hb _) rfl (by decide) rfl xw182 rfl (xd dk_M_clear 11 rfl) ?_
      refine x_iload_n hc (xd dk_M_clear 12 rfl) rfl rfl ?_
      refine x_iconst hc (v := 0) (xd dk_M_clear 13 rfl) (by decide) ?_
      by_cases q6 : xin v1 60 = true
      case neg => rw [if_neg q6] at hf; cases hf
      rw [if_pos q6] at hf
      refine x_iast hc (cA (xRd.ar hb 23 (by decide) rfl)) (xin_in q6) (xd dk_M_clear 14 rfl) ?_
      rw [wA (xRd.ar hb 23 (by decide) rfl)]
      replace hf := xlet_some hf
      generalize wI M (b + 23) v1.toNatClampNeg 0 = M at hf ⊢
      refine x_aload_n hc (xd dk_M_clear 15 rfl) rfl rfl ?_
      refine x_get hc (ci := 6) (k := 2) fi_M (c_M hb _) rfl (by decide) rfl xw183 rfl (xd dk_M_clear 16 rfl) ?_
      refine x_iload_n hc (xd dk_M_clear 17 rfl) rfl rfl ?_
      refine x_iconst hc (v := 0) (xd dk_M_clear 18 rfl) (by decide) ?_
      by_cases q7 : xin v1 60 = true
      case neg => rw [if_neg q7] at hf; cases hf
      rw [if_pos q7] at hf
      refine x_zast hc (cA (xRd.ar hb 24 (by decide) rfl)) (xin_in q7) (xd dk_M_clear 19 rfl) ?_
      rw [wA (xRd.ar hb 24 (by decide) rfl)]
      replace hf := xlet_some hf
      generalize wI M (b + 24) v1.toNatClampNeg (vp_nar .boolean 0) = M at hf ⊢
      refine x_iinc hc (xd dk_M_clear 20 rfl) rfl (by decide) rfl ?_
      refine x_goto hc (tgt := 2) (xd dk_M_clear 21 rfl) rfl ?_
      exact ih (v1 + Int32.ofInt 1) M hf
set_option maxRecDepth 100000 in
set_option maxHeartbeats 400000 in
theorem s_M_clear {l : Launch} {G : xG} {Y : xY} {sz : Nat} {b : Nat}  (hb : xRd Y b) {M M' : xMem} {r : Unit} (hf : f_M_clear b M = some (r, M')) : xM l G y_M_clear c_M_clear 2 none 0 0 0 [.ref (b + 21)] (xo G Y M) sz none (xo G Y M') sz := by
  unfold f_M_clear at hf
  refine xM.of (k := 1) (L0 := [some (.ref (b + 21)), none]) (by decide) (Nat.le_of_ble_eq_true rfl) rfl ?_
  intro p e s m args below meth c hc hnm
  have hR : xRm { frames := 0, cells := 0, slots := 0, locals := 48 * 0 } 0 := ⟨Nat.le_refl _, Nat.le_refl _⟩
  refine x_iconst hc (v := 0) (xd dk_M_clear 0 rfl) (by decide) ?_
  refine x_istore_n hc (xd dk_M_clear 1 rfl) (by decide) rfl ?_
  exact s_M_clear_2 hc hR hb xFuel 0 M hf
def f_H_clear (b : Nat) (M : xMem) : Option (Unit × xMem) :=
  (xlet (wI M (b + 12) 8 0) fun M => some ((), M))
set_option maxRecDepth 100000 in
set_option maxHeartbeats 400000 in
theorem s_H_clear {l : Launch} {G : xG} {Y : xY} {sz : Nat} {b : Nat}  (hb : xRd Y b) {M M' : xMem} {r : Unit} (hf : f_H_clear b M = some (r, M')) : xM l G y_H_clear c_H_clear 1 none 0 0 0 [.ref (b + 12)] (xo G Y M) sz none (xo G Y M') sz := by
  unfold f_H_clear at hf
  refine xM.of (k := 0) (L0 := [some (.ref (b + 12))]) (by decide) (Nat.le_of_ble_eq_true rfl) rfl ?_
  intro p e s m args below meth c hc hnm
  have hR : xRm { frames := 0, cells := 0, slots := 0, locals := 48 * 0 } 0 := ⟨Nat.le_refl _, Nat.le_refl _⟩
  refine x_aload_n hc (xd dk_H_clear 0 rfl) rfl rfl ?_
  refine x_iconst hc (v := 0) (xd dk_H_clear 1 rfl) (by decide) ?_
  refine x_put hc (ci := 5) (k := 8) fi_H ft_H ft_H_ok fn_H (c_H hb _) rfl (by decide) rfl xw152 rfl rfl rfl (Nat.le_of_ble_eq_true rfl) (xd dk_H_clear 2 rfl) ?_
  rw [w_H_8 hb]
  replace hf := xlet_some hf
  generalize wI M (b + 12) 8 0 = M at hf ⊢
  cases hf
  exact x_return hc (xd dk_H_clear 3 rfl)
def f_M_isThere (p0 : Int32) (M : xMem) : Option (Int32 × xMem) :=
  (if p0 < 0 then (some (0, M)) else (if 60 ≤ p0 then (some (0, M)) else (some (1, M))))
set_option maxRecDepth 100000 in
set_option maxHeartbeats 400000 in
theorem s_M_isThere {l : Launch} {G : xG} {Y : xY} {sz : Nat} {p0 : Int32}   {M M' : xMem} {r : Int32} (hf : f_M_isThere p0 M = some (r, M')) : xM l G y_M_isThere c_M_isThere 1 (some .boolean) 0 0 0 [.int p0] (xo G Y M) sz (some (.int r)) (xo G Y M') sz := by
  unfold f_M_isThere at hf
  refine xM.of (k := 0) (L0 := [some (.int p0)]) (by decide) (Nat.le_of_ble_eq_true rfl) rfl ?_
  intro p e s m args below meth c hc hnm
  have hR : xRm { frames := 0, cells := 0, slots := 0, locals := 48 * 0 } 0 := ⟨Nat.le_refl _, Nat.le_refl _⟩
  refine x_iload_n hc (xd dk_M_isThere 0 rfl) rfl rfl ?_
  refine x_if_lt hc (tgt := 14) (xd dk_M_isThere 1 rfl) rfl (fun q2 => ?_) (fun q2 => ?_)
  · rw [if_pos q2] at hf
    refine x_iconst hc (v := 0) (xd dk_M_isThere 7 rfl) (by decide) ?_
    cases hf
    exact x_zreturn hc rfl (xd dk_M_isThere 8 rfl)
  · rw [if_neg q2] at hf
    refine x_iload_n hc (xd dk_M_isThere 2 rfl) rfl rfl ?_
    refine x_bipush hc (v := 60) (xd dk_M_isThere 3 rfl) (by decide) ?_
    refine x_icmp_ge hc (tgt := 14) (xd dk_M_isThere 4 rfl) rfl (fun q3 => ?_) (fun q3 => ?_)
    · rw [if_pos q3] at hf
      refine x_iconst hc (v := 0) (xd dk_M_isThere 7 rfl) (by decide) ?_
      cases hf
      exact x_zreturn hc rfl (xd dk_M_isThere 8 rfl)
    · rw [if_neg q3] at hf
      refine x_iconst hc (v := 1) (xd dk_M_isThere 5 rfl) (by decide) ?_
      refine x_goto hc (tgt := 15) (xd dk_M_isThere 6 rfl) rfl ?_
      cases hf
      exact x_zreturn hc rfl (xd dk_M_isThere 8 rfl)
def f_S_isThere (b : Nat) (p1 : Int32) (M : xMem) : Option (Int32 × xMem) :=
  (if p1 < 0 then (some (0, M)) else (if M.1 (b + 8) 3 ≤ p1 then (some (0, M)) else (some (1, M))))
set_option maxRecDepth 100000 in
set_option maxHeartbeats 400000 in
theorem s_S_isThere {l : Launch} {G : xG} {Y : xY} {sz : Nat} {b : Nat} {p1 : Int32}  (hb : xRd Y b) {M M' : xMem} {r : Int32} (hf : f_S_isThere b p1 M = some (r, M')) : xM l G y_S_isThere c_S_isThere 2 (some .boolean) 0 0 0 [.ref (b + 8), .int p1] (xo G Y M) sz (some (.int r)) (xo G Y M') sz := by
  unfold f_S_isThere at hf
  refine xM.of (k := 0) (L0 := [some (.ref (b + 8)), some (.int p1)]) (by decide) (Nat.le_of_ble_eq_true rfl) rfl ?_
  intro p e s m args below meth c hc hnm
  have hR : xRm { frames := 0, cells := 0, slots := 0, locals := 48 * 0 } 0 := ⟨Nat.le_refl _, Nat.le_refl _⟩
  refine x_iload_n hc (xd dk_S_isThere 0 rfl) rfl rfl ?_
  refine x_if_lt hc (tgt := 16) (xd dk_S_isThere 1 rfl) rfl (fun q2 => ?_) (fun q2 => ?_)
  · rw [if_pos q2] at hf
    refine x_iconst hc (v := 0) (xd dk_S_isThere 8 rfl) (by decide) ?_
    cases hf
    exact x_zreturn hc rfl (xd dk_S_isThere 9 rfl)
  · rw [if_neg q2] at hf
    refine x_iload_n hc (xd dk_S_isThere 2 rfl) rfl rfl ?_
    refine x_aload_n hc (xd dk_S_isThere 3 rfl) rfl rfl ?_
    refine x_get hc (ci := 4) (k := 3) fi_S (c_S hb _) rfl (by decide) rfl xw113 rfl (xd dk_S_isThere 4 rfl) ?_
    refine x_icmp_ge hc (tgt := 16) (xd dk_S_isThere 5 rfl) rfl (fun q3 => ?_) (fun q3 => ?_)
    · rw [if_pos q3] at hf
      refine x_iconst hc (v := 0) (xd dk_S_isThere 8 rfl) (by decide) ?_
      cases hf
      exact x_zreturn hc rfl (xd dk_S_isThere 9 rfl)
    · rw [if_neg q3] at hf
      refine x_iconst hc (v := 1) (xd dk_S_isThere 6 rfl) (by decide) ?_
      refine x_goto hc (tgt := 17) (xd dk_S_isThere 7 rfl) rfl ?_
      cases hf
      exact x_zreturn hc rfl (xd dk_S_isThere 9 rfl)
def f_T_isThere (b : Nat) (p1 : Int32) (M : xMem) : Option (Int32 × xMem) :=
  (if p1 < 0 then (some (0, M)) else (if M.1 (b + 2) 6 < p1 then (some (0, M)) else (if 60 < p1 then (some (0, M)) else (some (1, M)))))
set_option maxRecDepth 100000 in
set_option maxHeartbeats 400000 in
theorem s_T_isThere {l : Launch} {G : xG} {Y : xY} {sz : Nat} {b : Nat} {p1 : Int32}  (hb : xRd Y b) {M M' : xMem} {r : Int32} (hf : f_T_isThere b p1 M = some (r, M')) : xM l G y_T_isThere c_T_isThere 2 (some .boolean) 0 0 0 [.ref (b + 2), .int p1] (xo G Y M) sz (some (.int r)) (xo G Y M') sz := by
  unfold f_T_isThere at hf
  refine xM.of (k := 0) (L0 := [some (.ref (b + 2)), some (.int p1)]) (by decide) (Nat.le_of_ble_eq_true rfl) rfl ?_
  intro p e s m args below meth c hc hnm
  have hR : xRm { frames := 0, cells := 0, slots := 0, locals := 48 * 0 } 0 := ⟨Nat.le_refl _, Nat.le_refl _⟩
  refine x_iload_n hc (xd dk_T_isThere 0 rfl) rfl rfl ?_
  refine x_if_lt hc (tgt := 22) (xd dk_T_isThere 1 rfl) rfl (fun q2 => ?_) (fun q2 => ?_)
  · rw [if_pos q2] at hf
    refine x_iconst hc (v := 0) (xd dk_T_isThere 11 rfl) (by decide) ?_
    cases hf
    exact x_zreturn hc rfl (xd dk_T_isThere 12 rfl)
  · rw [if_neg q2] at hf
    refine x_iload_n hc (xd dk_T_isThere 2 rfl) rfl rfl ?_
    refine x_aload_n hc (xd dk_T_isThere 3 rfl) rfl rfl ?_
    refine x_get hc (ci := 3) (k := 6) fi_T (c_T hb _) rfl (by decide) rfl xw85 rfl (xd dk_T_isThere 4 rfl) ?_
    refine x_icmp_gt hc (tgt := 22) (xd dk_T_isThere 5 rfl) rfl (fun q3 => ?_) (fun q3 => ?_)
    · rw [if_pos q3] at hf
      refine x_iconst hc (v := 0) (xd dk_T_isThere 11 rfl) (by decide) ?_
      cases hf
      exact x_zreturn hc rfl (xd dk_T_isThere 12 rfl)
    · rw [if_neg q3] at hf
      refine x_iload_n hc (xd dk_T_isThere 6 rfl) rfl rfl ?_
      refine x_bipush hc (v := 60) (xd dk_T_isThere 7 rfl) (by decide) ?_
      refine x_icmp_gt hc (tgt := 22) (xd dk_T_isThere 8 rfl) rfl (fun q4 => ?_) (fun q4 => ?_)
      · rw [if_pos q4] at hf
        refine x_iconst hc (v := 0) (xd dk_T_isThere 11 rfl) (by decide) ?_
        cases hf
        exact x_zreturn hc rfl (xd dk_T_isThere 12 rfl)
      · rw [if_neg q4] at hf
        refine x_iconst hc (v := 1) (xd dk_T_isThere 9 rfl) (by decide) ?_
        refine x_goto hc (tgt := 23) (xd dk_T_isThere 10 rfl) rfl ?_
        cases hf
        exact x_zreturn hc rfl (xd dk_T_isThere 12 rfl)
def f_H_inScope_32 (b : Nat) (p1 : Int32) (p2 : Int32) (k2 : Int32 → xMem → Option (Int32 × xMem)) (v3 : Int32) (M : xMem) : Option (Int32 × xMem) :=
  (k2 (v3 + Int32.ofInt 1) M)
def f_H_inScope_2 (b : Nat) (p1 : Int32) (p2 : Int32) : Nat → Int32 → xMem → Option (Int32 × xMem)
  | 0, _, _ => none
  | n + 1, v3, M =>
    (if M.1 (b + 12) 8 ≤ v3 then (some ((-1), M)) else (if xin v3 60 = true then if M.1 (b + 16) v3.toNatClampNeg = p1 then (if xin v3 60 = true then if M.1 (b + 14) v3.toNatClampNeg = p2 then (some (v3, M)) else (f_H_inScope_32 b p1 p2 (f_H_inScope_2 b p1 p2 n) v3 M) else none) else (f_H_inScope_32 b p1 p2 (f_H_inScope_2 b p1 p2 n) v3 M) else none))
def f_H_inScope (b : Nat) (p1 : Int32) (p2 : Int32) (M : xMem) : Option (Int32 × xMem) :=
  (f_H_inScope_2 b p1 p2 xFuel 0 M)
set_option maxRecDepth 100000 in
set_option maxHeartbeats 400000 in
theorem s_H_inScope_32 {p : Program} {l : Launch} {e : Env} {R : Room} {s : State} {m : MethodId} {args : Array Value} {below : List Frame} {meth : Method} {c : Code} {G : xG} {Y : xY} {sz : Nat} {b : Nat} {p1 : Int32} {p2 : Int32}  (hc : xC p s m args meth c G 4 c_H_inScope y_H_inScope.cls (some .int)) (hR : xRm R 0) (hb : xRd Y b) {k2 : Int32 → xMem → Option (Int32 × xMem)} {M' : xMem} {r : Int32} (hk2 : ∀ (v3 : Int32) (M : xMem), k2 v3 M = some (r, M') → xW p l e R s m args below meth c G 4 (MQ below (xQc G (some (.int r)) (xo G Y M') sz) args s 0 0 (xA G)) (xo G Y M) sz 0 0 2 [some (.ref (b + 12)), some (.int p1), some (.int p2), some (.int v3)] []) (v3 : Int32) (M : xMem) (hf : f_H_inScope_32 b p1 p2 k2 v3 M = some (r, M')) : xW p l e R s m args below meth c G 4 (MQ below (xQc G (some (.int r)) (xo G Y M') sz) args s 0 0 (xA G)) (xo G Y M) sz 0 0 32 [some (.ref (b + 12)), some (.int p1), some (.int p2), some (.int v3)] [] := by
  unfold f_H_inScope_32 at hf
  refine x_iinc hc (xd dk_H_inScope 20 rfl) rfl (by decide) rfl ?_
  refine x_goto hc (tgt := 2) (xd dk_H_inScope 21 rfl) rfl ?_
  exact hk2 (v3 + Int32.ofInt 1) M hf
set_option maxRecDepth 100000 in
set_option maxHeartbeats 400000 in
theorem s_H_inScope_2 {p : Program} {l : Launch} {e : Env} {R : Room} {s : State} {m : MethodId} {args : Array Value} {below : List Frame} {meth : Method} {c : Code} {G : xG} {Y : xY} {sz : Nat} {b : Nat} {p1 : Int32} {p2 : Int32}  (hc : xC p s m args meth c G 4 c_H_inScope y_H_inScope.cls (some .int)) (hR : xRm R 0) (hb : xRd Y b) {M' : xMem} {r : Int32} : ∀ (n : Nat) (v3 : Int32) (M : xMem), f_H_inScope_2 b p1 p2 n v3 M = some (r, M') → xW p l e R s m args below meth c G 4 (MQ below (xQc G (some (.int r)) (xo G Y M') sz) args s 0 0 (xA G)) (xo G Y M) sz 0 0 2 [some (.ref (b + 12)), some (.int p1), some (.int p2), some (.int v3)] [] := by
  intro n
  induction n with
  | zero => intro v3 M hf; simp only [f_H_inScope_2] at hf; cases hf
  | succ n ih =>
    intro v3 M hf
    simp only [f_H_inScope_2] at hf
    refine x_iload_n hc (xd dk_H_inScope 2 rfl) rfl rfl ?_
    refine x_aload_n hc (xd dk_H_inScope 3 rfl) rfl rfl ?_
    refine x_get hc (ci := 5) (k := 8) fi_H (c_H hb _) rfl (by decide) rfl xw152 rfl (xd dk_H_inScope 4 rfl) ?_
    refine x_icmp_ge hc (tgt := 38) (xd dk_H_inScope 5 rfl) rfl (fun q3 => ?_) (fun q3 => ?_)
    · rw [if_pos q3] at hf
      refine x_iconst hc (v := (-1)) (xd dk_H_inScope 22 rfl) (by decide) ?_
      cases hf
      exact x_ireturn hc (xd dk_H_inScope 23 rfl)
    · rw [if_neg q3] at hf
      refine x_aload_n hc (xd dk_H_inScope 6 rfl) rfl rfl ?_
      refine x_get hc (ci := 5) (k := 3) fi_H (c_H hb _) rfl (by decide) rfl xw138 rfl (xd dk_H_inScope 7 rfl) ?_
      refine x_iload_n hc (xd dk_H_inScope 8 rfl) rfl rfl ?_
      by_cases q4 : xin v3 60 = true
      case neg => rw [if_neg q4] at hf; cases hf
      rw [if_pos q4] at hf
      refine x_iald hc (cA (xRd.ar hb 16 (by decide) rfl)) (xin_in q4) (xd dk_H_inScope 9 rfl) ?_
      refine x_iload_n hc (xd dk_H_inScope 10 rfl) rfl rfl ?_
      refine x_icmp_ne hc (tgt := 32) (xd dk_H_inScope 11 rfl) rfl (fun q5 => ?_) (fun q5 => ?_)
      · rw [if_neg q5] at hf
        exact s_H_inScope_32 hc hR hb ih v3 M hf
      · rw [if_pos q5] at hf
        refine x_aload_n hc (xd dk_H_inScope 12 rfl) rfl rfl ?_
        refine x_get hc (ci := 5) (k := 1) fi_H (c_H hb _) rfl (by decide) rfl xw133 rfl (xd dk_H_inScope 13 rfl) ?_
        refine x_iload_n hc (xd dk_H_inScope 14 rfl) rfl rfl ?_
        by_cases q6 : xin v3 60 = true
        case neg => rw [if_neg q6] at hf; cases hf
        rw [if_pos q6] at hf
        refine x_iald hc (cA (xRd.ar hb 14 (by decide) rfl)) (xin_in q6) (xd dk_H_inScope 15 rfl) ?_
        refine x_iload_n hc (xd dk_H_inScope 16 rfl) rfl rfl ?_
        refine x_icmp_ne hc (tgt := 32) (xd dk_H_inScope 17 rfl) rfl (fun q7 => ?_) (fun q7 => ?_)
        · rw [if_neg q7] at hf
          exact s_H_inScope_32 hc hR hb ih v3 M hf
        · rw [if_pos q7] at hf
          refine x_iload_n hc (xd dk_H_inScope 18 rfl) rfl rfl ?_
          cases hf
          exact x_ireturn hc (xd dk_H_inScope 19 rfl)
set_option maxRecDepth 100000 in
set_option maxHeartbeats 400000 in
theorem s_H_inScope {l : Launch} {G : xG} {Y : xY} {sz : Nat} {b : Nat} {p1 : Int32} {p2 : Int32}  (hb : xRd Y b) {M M' : xMem} {r : Int32} (hf : f_H_inScope b p1 p2 M = some (r, M')) : xM l G y_H_inScope c_H_inScope 4 (some .int) 0 0 0 [.ref (b + 12), .int p1, .int p2] (xo G Y M) sz (some (.int r)) (xo G Y M') sz := by
  unfold f_H_inScope at hf
  refine xM.of (k := 1) (L0 := [some (.ref (b + 12)), some (.int p1), some (.int p2), none]) (by decide) (Nat.le_of_ble_eq_true rfl) rfl ?_
  intro p e s m args below meth c hc hnm
  have hR : xRm { frames := 0, cells := 0, slots := 0, locals := 48 * 0 } 0 := ⟨Nat.le_refl _, Nat.le_refl _⟩
  refine x_iconst hc (v := 0) (xd dk_H_inScope 0 rfl) (by decide) ?_
  refine x_istore_n hc (xd dk_H_inScope 1 rfl) (by decide) rfl ?_
  exact s_H_inScope_2 hc hR hb xFuel 0 M hf
def f_H_add (b : Nat) (p1 : Int32) (p2 : Int32) (p3 : Int32) (p4 : Int32) (M : xMem) : Option (Unit × xMem) :=
  (if 60 ≤ M.1 (b + 12) 8 then (some ((), M)) else (xval (M.1 (b + 12) 8) fun x10 => if xin x10 60 = true then xlet (wI M (b + 13) x10.toNatClampNeg p1) fun M => xval (M.1 (b + 12) 8) fun x12 => if xin x12 60 = true then xlet (wI M (b + 14) x12.toNatClampNeg p2) fun M => xval (M.1 (b + 12) 8) fun x14 => if xin x14 60 = true then xlet (wI M (b + 15) x14.toNatClampNeg p3) fun M => xval (M.1 (b + 12) 8) fun x16 => if xin x16 60 = true then xlet (wI M (b + 16) x16.toNatClampNeg p4) fun M => xval (M.1 (b + 12) 8) fun x18 => if xin x18 60 = true then xlet (wI M (b + 17) x18.toNatClampNeg 0) fun M => xval (M.1 (b + 12) 8) fun x20 => if xin x20 60 = true then xlet (wI M (b + 18) x20.toNatClampNeg 0) fun M => xval (M.1 (b + 12) 8) fun x22 => if xin x22 60 = true then xlet (wI M (b + 19) x22.toNatClampNeg 1) fun M => xval (M.1 (b + 12) 8) fun x24 => if xin x24 60 = true then xlet (wI M (b + 20) x24.toNatClampNeg (vp_nar .boolean 0)) fun M => xval ((M.1 (b + 12) 8) + 1) fun x26 => xlet (wI M (b + 12) 8 x26) fun M => some ((), M) else none else none else none else none else none else none else none else none))
set_option maxRecDepth 100000 in
set_option maxHeartbeats 400000 in
theorem s_H_add {l : Launch} {G : xG} {Y : xY} {sz : Nat} {b : Nat} {p1 : Int32} {p2 : Int32} {p3 : Int32} {p4 : Int32}  (hb : xRd Y b) {M M' : xMem} {r : Unit} (hf : f_H_add b p1 p2 p3 p4 M = some (r, M')) : xM l G y_H_add c_H_add 5 none 0 0 0 [.ref (b + 12), .int p1, .int p2, .int p3, .int p4] (xo G Y M) sz none (xo G Y M') sz := by
  unfold f_H_add at hf
  refine xM.of (k := 0) (L0 := [some (.ref (b + 12)), some (.int p1), some (.int p2), some (.int p3), some (.int p4)]) (by decide) (Nat.le_of_ble_eq_true rfl) rfl ?_
  intro p e s m args below meth c hc hnm
  have hR : xRm { frames := 0, cells := 0, slots := 0, locals := 48 * 0 } 0 := ⟨Nat.le_refl _, Nat.le_refl _⟩
  refine x_aload_n hc (xd dk_H_add 0 rfl) rfl rfl ?_
  refine x_get hc (ci := 5) (k := 8) fi_H (c_H hb _) rfl (by decide) rfl xw152 rfl (xd dk_H_add 1 rfl) ?_
  refine x_bipush hc (v := 60) (xd dk_H_add 2 rfl) (by decide) ?_
  refine x_icmp_ge hc (tgt := 100) (xd dk_H_add 3 rfl) rfl (fun q9 => ?_) (fun q9 => ?_)
  · rw [if_pos q9] at hf
    cases hf
    exact x_return hc (xd dk_H_add 58 rfl)
  · rw [if_neg q9] at hf
    refine x_aload_n hc (xd dk_H_add 4 rfl) rfl rfl ?_
    refine x_get hc (ci := 5) (k := 0) fi_H (c_H hb _) rfl (by decide) rfl xw130 rfl (xd dk_H_add 5 rfl) ?_
    refine x_aload_n hc (xd dk_H_add 6 rfl) rfl rfl ?_
    refine x_get hc (ci := 5) (k := 8) fi_H (c_H hb _) rfl (by decide) rfl xw152 rfl (xd dk_H_add 7 rfl) ?_
    refine x_iload_n hc (xd dk_H_add 8 rfl) rfl rfl ?_
    obtain ⟨x10, hx10, hf⟩ := xval_ex hf
    rw [← hx10]
    by_cases q11 : xin x10 60 = true
    case neg => rw [if_neg q11] at hf; cases hf
    rw [if_pos q11] at hf
    refine x_iast hc (cA (xRd.ar hb 13 (by decide) rfl)) (xin_in q11) (xd dk_H_add 9 rfl) ?_
    rw [wA (xRd.ar hb 13 (by decide) rfl)]
    replace hf := xlet_some hf
    generalize wI M (b + 13) x10.toNatClampNeg p1 = M at hf ⊢
    refine x_aload_n hc (xd dk_H_add 10 rfl) rfl rfl ?_
    refine x_get hc (ci := 5) (k := 1) fi_H (c_H hb _) rfl (by decide) rfl xw133 rfl (xd dk_H_add 11 rfl) ?_
    refine x_aload_n hc (xd dk_H_add 12 rfl) rfl rfl ?_
    refine x_get hc (ci := 5) (k := 8) fi_H (c_H hb _) rfl (by decide) rfl xw152 rfl (xd dk_H_add 13 rfl) ?_
    refine x_iload_n hc (xd dk_H_add 14 rfl) rfl rfl ?_
    obtain ⟨x12, hx12, hf⟩ := xval_ex hf
    rw [← hx12]
    by_cases q13 : xin x12 60 = true
    case neg => rw [if_neg q13] at hf; cases hf
    rw [if_pos q13] at hf
    refine x_iast hc (cA (xRd.ar hb 14 (by decide) rfl)) (xin_in q13) (xd dk_H_add 15 rfl) ?_
    rw [wA (xRd.ar hb 14 (by decide) rfl)]
    replace hf := xlet_some hf
    generalize wI M (b + 14) x12.toNatClampNeg p2 = M at hf ⊢
    refine x_aload_n hc (xd dk_H_add 16 rfl) rfl rfl ?_
    refine x_get hc (ci := 5) (k := 2) fi_H (c_H hb _) rfl (by decide) rfl xw135 rfl (xd dk_H_add 17 rfl) ?_
    refine x_aload_n hc (xd dk_H_add 18 rfl) rfl rfl ?_
    refine x_get hc (ci := 5) (k := 8) fi_H (c_H hb _) rfl (by decide) rfl xw152 rfl (xd dk_H_add 19 rfl) ?_
    refine x_iload_n hc (xd dk_H_add 20 rfl) rfl rfl ?_
    obtain ⟨x14, hx14, hf⟩ := xval_ex hf
    rw [← hx14]
    by_cases q15 : xin x14 60 = true
    case neg => rw [if_neg q15] at hf; cases hf
    rw [if_pos q15] at hf
    refine x_iast hc (cA (xRd.ar hb 15 (by decide) rfl)) (xin_in q15) (xd dk_H_add 21 rfl) ?_
    rw [wA (xRd.ar hb 15 (by decide) rfl)]
    replace hf := xlet_some hf
    generalize wI M (b + 15) x14.toNatClampNeg p3 = M at hf ⊢
    refine x_aload_n hc (xd dk_H_add 22 rfl) rfl rfl ?_
    refine x_get hc (ci := 5) (k := 3) fi_H (c_H hb _) rfl (by decide) rfl xw138 rfl (xd dk_H_add 23 rfl) ?_
    refine x_aload_n hc (xd dk_H_add 24 rfl) rfl rfl ?_
    refine x_get hc (ci := 5) (k := 8) fi_H (c_H hb _) rfl (by decide) rfl xw152 rfl (xd dk_H_add 25 rfl) ?_
    refine x_iload hc (xd dk_H_add 26 rfl) rfl ?_
    obtain ⟨x16, hx16, hf⟩ := xval_ex hf
    rw [← hx16]
    by_cases q17 : xin x16 60 = true
    case neg => rw [if_neg q17] at hf; cases hf
    rw [if_pos q17] at hf
    refine x_iast hc (cA (xRd.ar hb 16 (by decide) rfl)) (xin_in q17) (xd dk_H_add 27 rfl) ?_
    rw [wA (xRd.ar hb 16 (by decide) rfl)]
    replace hf := xlet_some hf
    generalize wI M (b + 16) x16.toNatClampNeg p4 = M at hf ⊢
    refine x_aload_n hc (xd dk_H_add 28 rfl) rfl rfl ?_
    refine x_get hc (ci := 5) (k := 4) fi_H (c_H hb _) rfl (by decide) rfl xw141 rfl (xd dk_H_add 29 rfl) ?_
    refine x_aload_n hc (xd dk_H_add 30 rfl) rfl rfl ?_
    refine x_get hc (ci := 5) (k := 8) fi_H (c_H hb _) rfl (by decide) rfl xw152 rfl (xd dk_H_add 31 rfl) ?_
    refine x_iconst hc (v := 0) (xd dk_H_add 32 rfl) (by decide) ?_
    obtain ⟨x18, hx18, hf⟩ := xval_ex hf
    rw [← hx18]
    by_cases q19 : xin x18 60 = true
    case neg => rw [if_neg q19] at hf; cases hf
    rw [if_pos q19] at hf
    refine x_iast hc (cA (xRd.ar hb 17 (by decide) rfl)) (xin_in q19) (xd dk_H_add 33 rfl) ?_
    rw [wA (xRd.ar hb 17 (by decide) rfl)]
    replace hf := xlet_some hf
    generalize wI M (b + 17) x18.toNatClampNeg 0 = M at hf ⊢
    refine x_aload_n hc (xd dk_H_add 34 rfl) rfl rfl ?_
    refine x_get hc (ci := 5) (k := 5) fi_H (c_H hb _) rfl (by decide) rfl xw144 rfl (xd dk_H_add 35 rfl) ?_
    refine x_aload_n hc (xd dk_H_add 36 rfl) rfl rfl ?_
    refine x_get hc (ci := 5) (k := 8) fi_H (c_H hb _) rfl (by decide) rfl xw152 rfl (xd dk_H_add 37 rfl) ?_
    refine x_iconst hc (v := 0) (xd dk_H_add 38 rfl) (by decide) ?_
    obtain ⟨x20, hx20, hf⟩ := xval_ex hf
    rw [← hx20]
    by_cases q21 : xin x20 60 = true
    case neg => rw [if_neg q21] at hf; cases hf
    rw [if_pos q21] at hf
    refine x_iast hc (cA (xRd.ar hb 18 (by decide) rfl)) (xin_in q21) (xd dk_H_add 39 rfl) ?_
    rw [wA (xRd.ar hb 18 (by decide) rfl)]
    replace hf := xlet_some hf
    generalize wI M (b + 18) x20.toNatClampNeg 0 = M at hf ⊢
    refine x_aload_n hc (xd dk_H_add 40 rfl) rfl rfl ?_
    refine x_get hc (ci := 5) (k := 6) fi_H (c_H hb _) rfl (by decide) rfl xw147 rfl (xd dk_H_add 41 rfl) ?_
    refine x_aload_n hc (xd dk_H_add 42 rfl) rfl rfl ?_
    refine x_get hc (ci := 5) (k := 8) fi_H (c_H hb _) rfl (by decide) rfl xw152 rfl (xd dk_H_add 43 rfl) ?_
    refine x_iconst hc (v := 1) (xd dk_H_add 44 rfl) (by decide) ?_
    obtain ⟨x22, hx22, hf⟩ := xval_ex hf
    rw [← hx22]
    by_cases q23 : xin x22 60 = true
    case neg => rw [if_neg q23] at hf; cases hf
    rw [if_pos q23] at hf
    refine x_iast hc (cA (xRd.ar hb 19 (by decide) rfl)) (xin_in q23) (xd dk_H_add 45 rfl) ?_
    rw [wA (xRd.ar hb 19 (by decide) rfl)]
    replace hf := xlet_some hf
    generalize wI M (b + 19) x22.toNatClampNeg 1 = M at hf ⊢
    refine x_aload_n hc (xd dk_H_add 46 rfl) rfl rfl ?_
    refine x_get hc (ci := 5) (k := 7) fi_H (c_H hb _) rfl (by decide) rfl xw150 rfl (xd dk_H_add 47 rfl) ?_
    refine x_aload_n hc (xd dk_H_add 48 rfl) rfl rfl ?_
    refine x_get hc (ci := 5) (k := 8) fi_H (c_H hb _) rfl (by decide) rfl xw152 rfl (xd dk_H_add 49 rfl) ?_
    refine x_iconst hc (v := 0) (xd dk_H_add 50 rfl) (by decide) ?_
    obtain ⟨x24, hx24, hf⟩ := xval_ex hf
    rw [← hx24]
    by_cases q25 : xin x24 60 = true
    case neg => rw [if_neg q25] at hf; cases hf
    rw [if_pos q25] at hf
    refine x_zast hc (cA (xRd.ar hb 20 (by decide) rfl)) (xin_in q25) (xd dk_H_add 51 rfl) ?_
    rw [wA (xRd.ar hb 20 (by decide) rfl)]
    replace hf := xlet_some hf
    generalize wI M (b + 20) x24.toNatClampNeg (vp_nar .boolean 0) = M at hf ⊢
    refine x_aload_n hc (xd dk_H_add 52 rfl) rfl rfl ?_
    refine x_dup hc (xd dk_H_add 53 rfl) rfl ?_
    refine x_get hc (ci := 5) (k := 8) fi_H (c_H hb _) rfl (by decide) rfl xw152 rfl (xd dk_H_add 54 rfl) ?_
    refine x_iconst hc (v := 1) (xd dk_H_add 55 rfl) (by decide) ?_
    refine x_iadd hc (xd dk_H_add 56 rfl) ?_
    obtain ⟨x26, hx26, hf⟩ := xval_ex hf
    rw [← hx26]
    refine x_put hc (ci := 5) (k := 8) fi_H ft_H ft_H_ok fn_H (c_H hb _) rfl (by decide) rfl xw152 rfl rfl rfl (Nat.le_of_ble_eq_true rfl) (xd dk_H_add 57 rfl) ?_
    rw [w_H_8 hb]
    replace hf := xlet_some hf
    generalize wI M (b + 12) 8 x26 = M at hf ⊢
    cases hf
    exact x_return hc (xd dk_H_add 58 rfl)
def f_B_addUse (b : Nat) (p1 : Int32) (p2 : Int32) (p3 : Int32) (M : xMem) : Option (Unit × xMem) :=
  (if 60 ≤ M.1 (b + 25) 7 then (some ((), M)) else (xval (M.1 (b + 25) 7) fun x5 => if xin x5 60 = true then xlet (wI M (b + 26) x5.toNatClampNeg p1) fun M => xval (M.1 (b + 25) 7) fun x7 => if xin x7 60 = true then xlet (wI M (b + 27) x7.toNatClampNeg p2) fun M => xval (M.1 (b + 25) 7) fun x9 => if xin x9 60 = true then xlet (wI M (b + 28) x9.toNatClampNeg (vp_nar .boolean p3)) fun M => xval ((M.1 (b + 25) 7) + 1) fun x11 => xlet (wI M (b + 25) 7 x11) fun M => some ((), M) else none else none else none))
set_option maxRecDepth 100000 in
set_option maxHeartbeats 400000 in
theorem s_B_addUse {l : Launch} {G : xG} {Y : xY} {sz : Nat} {b : Nat} {p1 : Int32} {p2 : Int32} {p3 : Int32}  (hb : xRd Y b) {M M' : xMem} {r : Unit} (hf : f_B_addUse b p1 p2 p3 M = some (r, M')) : xM l G y_B_addUse c_B_addUse 4 none 0 0 0 [.ref (b + 25), .int p1, .int p2, .int p3] (xo G Y M) sz none (xo G Y M') sz := by
  unfold f_B_addUse at hf
  refine xM.of (k := 0) (L0 := [some (.ref (b + 25)), some (.int p1), some (.int p2), some (.int p3)]) (by decide) (Nat.le_of_ble_eq_true rfl) rfl ?_
  intro p e s m args below meth c hc hnm
  have hR : xRm { frames := 0, cells := 0, slots := 0, locals := 48 * 0 } 0 := ⟨Nat.le_refl _, Nat.le_refl _⟩
  refine x_aload_n hc (xd dk_B_addUse 0 rfl) rfl rfl ?_
  refine x_get hc (ci := 7) (k := 7) fi_B (c_B hb _) rfl (by decide) rfl xw204 rfl (xd dk_B_addUse 1 rfl) ?_
  refine x_bipush hc (v := 60) (xd dk_B_addUse 2 rfl) (by decide) ?_
  refine x_icmp_ge hc (tgt := 49) (xd dk_B_addUse 3 rfl) rfl (fun q4 => ?_) (fun q4 => ?_)
  · rw [if_pos q4] at hf
    cases hf
    exact x_return hc (xd dk_B_addUse 28 rfl)
  · rw [if_neg q4] at hf
    refine x_aload_n hc (xd dk_B_addUse 4 rfl) rfl rfl ?_
    refine x_get hc (ci := 7) (k := 4) fi_B (c_B hb _) rfl (by decide) rfl xw201 rfl (xd dk_B_addUse 5 rfl) ?_
    refine x_aload_n hc (xd dk_B_addUse 6 rfl) rfl rfl ?_
    refine x_get hc (ci := 7) (k := 7) fi_B (c_B hb _) rfl (by decide) rfl xw204 rfl (xd dk_B_addUse 7 rfl) ?_
    refine x_iload_n hc (xd dk_B_addUse 8 rfl) rfl rfl ?_
    obtain ⟨x5, hx5, hf⟩ := xval_ex hf
    rw [← hx5]
    by_cases q6 : xin x5 60 = true
    case neg => rw [if_neg q6] at hf; cases hf
    rw [if_pos q6] at hf
    refine x_iast hc (cA (xRd.ar hb 26 (by decide) rfl)) (xin_in q6) (xd dk_B_addUse 9 rfl) ?_
    rw [wA (xRd.ar hb 26 (by decide) rfl)]
    replace hf := xlet_some hf
    generalize wI M (b + 26) x5.toNatClampNeg p1 = M at hf ⊢
    refine x_aload_n hc (xd dk_B_addUse 10 rfl) rfl rfl ?_
    refine x_get hc (ci := 7) (k := 5) fi_B (c_B hb _) rfl (by decide) rfl xw202 rfl (xd dk_B_addUse 11 rfl) ?_
    refine x_aload_n hc (xd dk_B_addUse 12 rfl) rfl rfl ?_
    refine x_get hc (ci := 7) (k := 7) fi_B (c_B hb _) rfl (by decide) rfl xw204 rfl (xd dk_B_addUse 13 rfl) ?_
    refine x_iload_n hc (xd dk_B_addUse 14 rfl) rfl rfl ?_
    obtain ⟨x7, hx7, hf⟩ := xval_ex hf
    rw [← hx7]
    by_cases q8 : xin x7 60 = true
    case neg => rw [if_neg q8] at hf; cases hf
    rw [if_pos q8] at hf
    refine x_iast hc (cA (xRd.ar hb 27 (by decide) rfl)) (xin_in q8) (xd dk_B_addUse 15 rfl) ?_
    rw [wA (xRd.ar hb 27 (by decide) rfl)]
    replace hf := xlet_some hf
    generalize wI M (b + 27) x7.toNatClampNeg p2 = M at hf ⊢
    refine x_aload_n hc (xd dk_B_addUse 16 rfl) rfl rfl ?_
    refine x_get hc (ci := 7) (k := 6) fi_B (c_B hb _) rfl (by decide) rfl xw203 rfl (xd dk_B_addUse 17 rfl) ?_
    refine x_aload_n hc (xd dk_B_addUse 18 rfl) rfl rfl ?_
    refine x_get hc (ci := 7) (k := 7) fi_B (c_B hb _) rfl (by decide) rfl xw204 rfl (xd dk_B_addUse 19 rfl) ?_
    refine x_iload_n hc (xd dk_B_addUse 20 rfl) rfl rfl ?_
    obtain ⟨x9, hx9, hf⟩ := xval_ex hf
    rw [← hx9]
    by_cases q10 : xin x9 60 = true
    case neg => rw [if_neg q10] at hf; cases hf
    rw [if_pos q10] at hf
    refine x_zast hc (cA (xRd.ar hb 28 (by decide) rfl)) (xin_in q10) (xd dk_B_addUse 21 rfl) ?_
    rw [wA (xRd.ar hb 28 (by decide) rfl)]
    replace hf := xlet_some hf
    generalize wI M (b + 28) x9.toNatClampNeg (vp_nar .boolean p3) = M at hf ⊢
    refine x_aload_n hc (xd dk_B_addUse 22 rfl) rfl rfl ?_
    refine x_dup hc (xd dk_B_addUse 23 rfl) rfl ?_
    refine x_get hc (ci := 7) (k := 7) fi_B (c_B hb _) rfl (by decide) rfl xw204 rfl (xd dk_B_addUse 24 rfl) ?_
    refine x_iconst hc (v := 1) (xd dk_B_addUse 25 rfl) (by decide) ?_
    refine x_iadd hc (xd dk_B_addUse 26 rfl) ?_
    obtain ⟨x11, hx11, hf⟩ := xval_ex hf
    rw [← hx11]
    refine x_put hc (ci := 7) (k := 7) fi_B ft_B ft_B_ok fn_B (c_B hb _) rfl (by decide) rfl xw204 rfl rfl rfl (Nat.le_of_ble_eq_true rfl) (xd dk_B_addUse 27 rfl) ?_
    rw [w_B_7 hb]
    replace hf := xlet_some hf
    generalize wI M (b + 25) 7 x11 = M at hf ⊢
    cases hf
    exact x_return hc (xd dk_B_addUse 28 rfl)
def f_S_open_50 (b : Nat) (p1 : Int32) (p2 : Int32) (v3 : Int32) (w1 : Int32) (w2 : Int32) (M : xMem) : Option (Int32 × xMem) :=
  (if xin w1 61 = true then xlet (wI M (b + 10) w1.toNatClampNeg w2) fun M => if xin p1 61 = true then xval ((M.1 (b + 11) p1.toNatClampNeg) + 1) fun x10 => if xin v3 61 = true then xlet (wI M (b + 11) v3.toNatClampNeg x10) fun M => xval ((M.1 (b + 8) 3) + 1) fun x12 => xlet (wI M (b + 8) 3 x12) fun M => some (v3, M) else none else none else none)
def f_S_open (b : Nat) (p1 : Int32) (p2 : Int32) (M : xMem) : Option (Int32 × xMem) :=
  (if 61 ≤ M.1 (b + 8) 3 then (some (p1, M)) else (xbind (f_S_isThere b p1 M) fun r14 M => if r14 = 0 then (some (p1, M)) else (xval (M.1 (b + 8) 3) fun x17 => if xin x17 61 = true then xlet (wI M (b + 9) x17.toNatClampNeg p1) fun M => if p2 = 0 then (if xin p1 61 = true then f_S_open_50 b p1 p2 x17 x17 (M.1 (b + 10) p1.toNatClampNeg) M else none) else (f_S_open_50 b p1 p2 x17 x17 x17 M) else none)))
set_option maxRecDepth 100000 in
set_option maxHeartbeats 400000 in
theorem s_S_open_50 {p : Program} {l : Launch} {e : Env} {R : Room} {s : State} {m : MethodId} {args : Array Value} {below : List Frame} {meth : Method} {c : Code} {G : xG} {Y : xY} {sz : Nat} {b : Nat} {p1 : Int32} {p2 : Int32}  (hc : xC p s m args meth c G 4 c_S_open y_S_open.cls (some .int)) (hR : xRm R 1) (hb : xRd Y b) {M' : xMem} {r : Int32} (v3 : Int32) (w1 : Int32) (w2 : Int32) (M : xMem) (hf : f_S_open_50 b p1 p2 v3 w1 w2 M = some (r, M')) : xW p l e R s m args below meth c G 4 (MQ below (xQc G (some (.int r)) (xo G Y M') sz) args s 0 0 (xA G)) (xo G Y M) sz 0 0 50 [some (.ref (b + 8)), some (.int p1), some (.int p2), some (.int v3)] [.int w2, .int w1, .ref (b + 10)] := by
  unfold f_S_open_50 at hf
  by_cases q8 : xin w1 61 = true
  case neg => rw [if_neg q8] at hf; cases hf
  rw [if_pos q8] at hf
  refine x_iast hc (cA (xRd.ar hb 10 (by decide) rfl)) (xin_in q8) (xd dk_S_open 29 rfl) ?_
  rw [wA (xRd.ar hb 10 (by decide) rfl)]
  replace hf := xlet_some hf
  generalize wI M (b + 10) w1.toNatClampNeg w2 = M at hf ⊢
  refine x_aload_n hc (xd dk_S_open 30 rfl) rfl rfl ?_
  refine x_get hc (ci := 4) (k := 2) fi_S (c_S hb _) rfl (by decide) rfl xw112 rfl (xd dk_S_open 31 rfl) ?_
  refine x_iload_n hc (xd dk_S_open 32 rfl) rfl rfl ?_
  refine x_aload_n hc (xd dk_S_open 33 rfl) rfl rfl ?_
  refine x_get hc (ci := 4) (k := 2) fi_S (c_S hb _) rfl (by decide) rfl xw112 rfl (xd dk_S_open 34 rfl) ?_
  refine x_iload_n hc (xd dk_S_open 35 rfl) rfl rfl ?_
  by_cases q9 : xin p1 61 = true
  case neg => rw [if_neg q9] at hf; cases hf
  rw [if_pos q9] at hf
  refine x_iald hc (cA (xRd.ar hb 11 (by decide) rfl)) (xin_in q9) (xd dk_S_open 36 rfl) ?_
  refine x_iconst hc (v := 1) (xd dk_S_open 37 rfl) (by decide) ?_
  refine x_iadd hc (xd dk_S_open 38 rfl) ?_
  obtain ⟨x10, hx10, hf⟩ := xval_ex hf
  rw [← hx10]
  by_cases q11 : xin v3 61 = true
  case neg => rw [if_neg q11] at hf; cases hf
  rw [if_pos q11] at hf
  refine x_iast hc (cA (xRd.ar hb 11 (by decide) rfl)) (xin_in q11) (xd dk_S_open 39 rfl) ?_
  rw [wA (xRd.ar hb 11 (by decide) rfl)]
  replace hf := xlet_some hf
  generalize wI M (b + 11) v3.toNatClampNeg x10 = M at hf ⊢
  refine x_aload_n hc (xd dk_S_open 40 rfl) rfl rfl ?_
  refine x_dup hc (xd dk_S_open 41 rfl) rfl ?_
  refine x_get hc (ci := 4) (k := 3) fi_S (c_S hb _) rfl (by decide) rfl xw113 rfl (xd dk_S_open 42 rfl) ?_
  refine x_iconst hc (v := 1) (xd dk_S_open 43 rfl) (by decide) ?_
  refine x_iadd hc (xd dk_S_open 44 rfl) ?_
  obtain ⟨x12, hx12, hf⟩ := xval_ex hf
  rw [← hx12]
  refine x_put hc (ci := 4) (k := 3) fi_S ft_S ft_S_ok fn_S (c_S hb _) rfl (by decide) rfl xw113 rfl rfl rfl (Nat.le_of_ble_eq_true rfl) (xd dk_S_open 45 rfl) ?_
  rw [w_S_3 hb]
  replace hf := xlet_some hf
  generalize wI M (b + 8) 3 x12 = M at hf ⊢
  refine x_iload_n hc (xd dk_S_open 46 rfl) rfl rfl ?_
  cases hf
  exact x_ireturn hc (xd dk_S_open 47 rfl)
set_option maxRecDepth 100000 in
set_option maxHeartbeats 400000 in
theorem s_S_open {l : Launch} {G : xG} {Y : xY} {sz : Nat} {b : Nat} {p1 : Int32} {p2 : Int32}  (hb : xRd Y b) {M M' : xMem} {r : Int32} (hf : f_S_open b p1 p2 M = some (r, M')) : xM l G y_S_open c_S_open 4 (some .int) 1 0 0 [.ref (b + 8), .int p1, .int p2] (xo G Y M) sz (some (.int r)) (xo G Y M') sz := by
  unfold f_S_open at hf
  refine xM.of (k := 1) (L0 := [some (.ref (b + 8)), some (.int p1), some (.int p2), none]) (by decide) (Nat.le_of_ble_eq_true rfl) rfl ?_
  intro p e s m args below meth c hc hnm
  have hR : xRm { frames := 1, cells := 0, slots := 0, locals := 48 * 1 } 1 := ⟨Nat.le_refl _, Nat.le_refl _⟩
  refine x_aload_n hc (xd dk_S_open 0 rfl) rfl rfl ?_
  refine x_get hc (ci := 4) (k := 3) fi_S (c_S hb _) rfl (by decide) rfl xw113 rfl (xd dk_S_open 1 rfl) ?_
  refine x_bipush hc (v := 61) (xd dk_S_open 2 rfl) (by decide) ?_
  refine x_icmp_ge hc (tgt := 17) (xd dk_S_open 3 rfl) rfl (fun q13 => ?_) (fun q13 => ?_)
  · rw [if_pos q13] at hf
    refine x_iload_n hc (xd dk_S_open 8 rfl) rfl rfl ?_
    cases hf
    exact x_ireturn hc (xd dk_S_open 9 rfl)
  · rw [if_neg q13] at hf
    refine x_aload_n hc (xd dk_S_open 4 rfl) rfl rfl ?_
    refine x_iload_n hc (xd dk_S_open 5 rfl) rfl rfl ?_
    obtain ⟨r14, M, e15, hf⟩ := xbind_some hf
    refine x_callV hc (As := [.int p1]) (n := 1) (s_S_isThere hb e15) (c_S hb _) rfl (hR.call (by decide) (by decide)) ⟨by decide, by decide, by decide⟩ rfl rfl xw501 xw5 xw498 xw500 xs_S_isThere (Nat.le_of_ble_eq_true rfl) ⟨Nat.zero_le _, Nat.zero_le _⟩ (xd dk_S_open 6 rfl) ?_
    refine x_if_ne hc (tgt := 19) (xd dk_S_open 7 rfl) rfl (fun q16 => ?_) (fun q16 => ?_)
    · rw [if_neg q16] at hf
      refine x_aload_n hc (xd dk_S_open 10 rfl) rfl rfl ?_
      refine x_get hc (ci := 4) (k := 3) fi_S (c_S hb _) rfl (by decide) rfl xw113 rfl (xd dk_S_open 11 rfl) ?_
      refine x_istore_n hc (xd dk_S_open 12 rfl) (by decide) rfl ?_
      refine x_aload_n hc (xd dk_S_open 13 rfl) rfl rfl ?_
      refine x_get hc (ci := 4) (k := 0) fi_S (c_S hb _) rfl (by decide) rfl xw110 rfl (xd dk_S_open 14 rfl) ?_
      refine x_iload_n hc (xd dk_S_open 15 rfl) rfl rfl ?_
      refine x_iload_n hc (xd dk_S_open 16 rfl) rfl rfl ?_
      obtain ⟨x17, hx17, hf⟩ := xval_ex hf
      rw [← hx17]
      by_cases q18 : xin x17 61 = true
      case neg => rw [if_neg q18] at hf; cases hf
      rw [if_pos q18] at hf
      refine x_iast hc (cA (xRd.ar hb 9 (by decide) rfl)) (xin_in q18) (xd dk_S_open 17 rfl) ?_
      rw [wA (xRd.ar hb 9 (by decide) rfl)]
      replace hf := xlet_some hf
      generalize wI M (b + 9) x17.toNatClampNeg p1 = M at hf ⊢
      refine x_aload_n hc (xd dk_S_open 18 rfl) rfl rfl ?_
      refine x_get hc (ci := 4) (k := 1) fi_S (c_S hb _) rfl (by decide) rfl xw111 rfl (xd dk_S_open 19 rfl) ?_
      refine x_iload_n hc (xd dk_S_open 20 rfl) rfl rfl ?_
      refine x_iload_n hc (xd dk_S_open 21 rfl) rfl rfl ?_
      refine x_if_eq hc (tgt := 44) (xd dk_S_open 22 rfl) rfl (fun q19 => ?_) (fun q19 => ?_)
      · rw [if_pos q19] at hf
        refine x_aload_n hc (xd dk_S_open 25 rfl) rfl rfl ?_
        refine x_get hc (ci := 4) (k := 1) fi_S (c_S hb _) rfl (by decide) rfl xw111 rfl (xd dk_S_open 26 rfl) ?_
        refine x_iload_n hc (xd dk_S_open 27 rfl) rfl rfl ?_
        by_cases q20 : xin p1 61 = true
        case neg => rw [if_neg q20] at hf; cases hf
        rw [if_pos q20] at hf
        refine x_iald hc (cA (xRd.ar hb 10 (by decide) rfl)) (xin_in q20) (xd dk_S_open 28 rfl) ?_
        exact s_S_open_50 hc hR hb x17 x17 (M.1 (b + 10) p1.toNatClampNeg) M hf
      · rw [if_neg q19] at hf
        refine x_iload_n hc (xd dk_S_open 23 rfl) rfl rfl ?_
        refine x_goto hc (tgt := 50) (xd dk_S_open 24 rfl) rfl ?_
        exact s_S_open_50 hc hR hb x17 x17 x17 M hf
    · rw [if_pos q16] at hf
      refine x_iload_n hc (xd dk_S_open 8 rfl) rfl rfl ?_
      cases hf
      exact x_ireturn hc (xd dk_S_open 9 rfl)
def f_M_loosen (b : Nat) (p1 : Int32) (M : xMem) : Option (Unit × xMem) :=
  (xbind (f_M_isThere p1 M) fun r4 M => if r4 = 0 then (some ((), M)) else (if xin p1 60 = true then xlet (wI M (b + 24) p1.toNatClampNeg (vp_nar .boolean 1)) fun M => some ((), M) else none))
set_option maxRecDepth 100000 in
set_option maxHeartbeats 400000 in
theorem s_M_loosen {l : Launch} {G : xG} {Y : xY} {sz : Nat} {b : Nat} {p1 : Int32}  (hb : xRd Y b) {M M' : xMem} {r : Unit} (hf : f_M_loosen b p1 M = some (r, M')) : xM l G y_M_loosen c_M_loosen 2 none 1 0 0 [.ref (b + 21), .int p1] (xo G Y M) sz none (xo G Y M') sz := by
  unfold f_M_loosen at hf
  refine xM.of (k := 0) (L0 := [some (.ref (b + 21)), some (.int p1)]) (by decide) (Nat.le_of_ble_eq_true rfl) rfl ?_
  intro p e s m args below meth c hc hnm
  have hR : xRm { frames := 1, cells := 0, slots := 0, locals := 48 * 1 } 1 := ⟨Nat.le_refl _, Nat.le_refl _⟩
  refine x_iload_n hc (xd dk_M_loosen 0 rfl) rfl rfl ?_
  obtain ⟨r4, M, e5, hf⟩ := xbind_some hf
  refine x_callS hc (As := [.int p1]) (n := 1) (s_M_isThere e5) (hR.call (by decide) (by decide)) ⟨by decide, by decide, by decide⟩ rfl rfl xw470 xw7 xw468 xw469 (Nat.le_of_ble_eq_true rfl) ⟨Nat.zero_le _, Nat.zero_le _⟩ (xd dk_M_loosen 1 rfl) ?_
  refine x_if_eq hc (tgt := 14) (xd dk_M_loosen 2 rfl) rfl (fun q6 => ?_) (fun q6 => ?_)
  · rw [if_pos q6] at hf
    cases hf
    exact x_return hc (xd dk_M_loosen 8 rfl)
  · rw [if_neg q6] at hf
    refine x_aload_n hc (xd dk_M_loosen 3 rfl) rfl rfl ?_
    refine x_get hc (ci := 6) (k := 2) fi_M (c_M hb _) rfl (by decide) rfl xw183 rfl (xd dk_M_loosen 4 rfl) ?_
    refine x_iload_n hc (xd dk_M_loosen 5 rfl) rfl rfl ?_
    refine x_iconst hc (v := 1) (xd dk_M_loosen 6 rfl) (by decide) ?_
    by_cases q7 : xin p1 60 = true
    case neg => rw [if_neg q7] at hf; cases hf
    rw [if_pos q7] at hf
    refine x_zast hc (cA (xRd.ar hb 24 (by decide) rfl)) (xin_in q7) (xd dk_M_loosen 7 rfl) ?_
    rw [wA (xRd.ar hb 24 (by decide) rfl)]
    replace hf := xlet_some hf
    generalize wI M (b + 24) p1.toNatClampNeg (vp_nar .boolean 1) = M at hf ⊢
    cases hf
    exact x_return hc (xd dk_M_loosen 8 rfl)
def f_T_endOf (b : Nat) (p1 : Int32) (M : xMem) : Option (Int32 × xMem) :=
  (xbind (f_T_isThere b p1 M) fun r4 M => if r4 = 0 then (some (M.1 b 1, M)) else (if xin p1 61 = true then some (M.1 (b + 5) p1.toNatClampNeg, M) else none))
set_option maxRecDepth 100000 in
set_option maxHeartbeats 400000 in
theorem s_T_endOf {l : Launch} {G : xG} {Y : xY} {sz : Nat} {b : Nat} {p1 : Int32}  (hb : xRd Y b) {M M' : xMem} {r : Int32} (hf : f_T_endOf b p1 M = some (r, M')) : xM l G y_T_endOf c_T_endOf 2 (some .int) 1 0 0 [.ref (b + 2), .int p1] (xo G Y M) sz (some (.int r)) (xo G Y M') sz := by
  unfold f_T_endOf at hf
  refine xM.of (k := 0) (L0 := [some (.ref (b + 2)), some (.int p1)]) (by decide) (Nat.le_of_ble_eq_true rfl) rfl ?_
  intro p e s m args below meth c hc hnm
  have hR : xRm { frames := 1, cells := 0, slots := 0, locals := 48 * 1 } 1 := ⟨Nat.le_refl _, Nat.le_refl _⟩
  refine x_aload_n hc (xd dk_T_endOf 0 rfl) rfl rfl ?_
  refine x_iload_n hc (xd dk_T_endOf 1 rfl) rfl rfl ?_
  obtain ⟨r4, M, e5, hf⟩ := xbind_some hf
  refine x_callV hc (As := [.int p1]) (n := 1) (s_T_isThere hb e5) (c_T hb _) rfl (hR.call (by decide) (by decide)) ⟨by decide, by decide, by decide⟩ rfl rfl xw513 xw4 xw510 xw512 xs_T_isThere (Nat.le_of_ble_eq_true rfl) ⟨Nat.zero_le _, Nat.zero_le _⟩ (xd dk_T_endOf 2 rfl) ?_
  refine x_if_eq hc (tgt := 17) (xd dk_T_endOf 3 rfl) rfl (fun q6 => ?_) (fun q6 => ?_)
  · rw [if_pos q6] at hf
    refine x_aload_n hc (xd dk_T_endOf 9 rfl) rfl rfl ?_
    refine x_get hc (ci := 3) (k := 0) fi_T (c_T hb _) rfl (by decide) rfl xw79 rfl (xd dk_T_endOf 10 rfl) ?_
    refine x_getN hc (ci := 1) (k := 1) fi_L (c_L hb.L _) rfl (by decide) rfl xn43 rfl (xd dk_T_endOf 11 rfl) ?_
    cases hf
    exact x_ireturn hc (xd dk_T_endOf 12 rfl)
  · rw [if_neg q6] at hf
    refine x_aload_n hc (xd dk_T_endOf 4 rfl) rfl rfl ?_
    refine x_get hc (ci := 3) (k := 3) fi_T (c_T hb _) rfl (by decide) rfl xw82 rfl (xd dk_T_endOf 5 rfl) ?_
    refine x_iload_n hc (xd dk_T_endOf 6 rfl) rfl rfl ?_
    by_cases q7 : xin p1 61 = true
    case neg => rw [if_neg q7] at hf; cases hf
    rw [if_pos q7] at hf
    refine x_iald hc (cA (xRd.ar hb 5 (by decide) rfl)) (xin_in q7) (xd dk_T_endOf 7 rfl) ?_
    refine x_goto hc (tgt := 24) (xd dk_T_endOf 8 rfl) rfl ?_
    cases hf
    exact x_ireturn hc (xd dk_T_endOf 12 rfl)
def f_T_startOf (b : Nat) (p1 : Int32) (M : xMem) : Option (Int32 × xMem) :=
  (xbind (f_T_isThere b p1 M) fun r4 M => if r4 = 0 then (some (M.1 b 1, M)) else (if xin p1 61 = true then some (M.1 (b + 4) p1.toNatClampNeg, M) else none))
set_option maxRecDepth 100000 in
set_option maxHeartbeats 400000 in
theorem s_T_startOf {l : Launch} {G : xG} {Y : xY} {sz : Nat} {b : Nat} {p1 : Int32}  (hb : xRd Y b) {M M' : xMem} {r : Int32} (hf : f_T_startOf b p1 M = some (r, M')) : xM l G y_T_startOf c_T_startOf 2 (some .int) 1 0 0 [.ref (b + 2), .int p1] (xo G Y M) sz (some (.int r)) (xo G Y M') sz := by
  unfold f_T_startOf at hf
  refine xM.of (k := 0) (L0 := [some (.ref (b + 2)), some (.int p1)]) (by decide) (Nat.le_of_ble_eq_true rfl) rfl ?_
  intro p e s m args below meth c hc hnm
  have hR : xRm { frames := 1, cells := 0, slots := 0, locals := 48 * 1 } 1 := ⟨Nat.le_refl _, Nat.le_refl _⟩
  refine x_aload_n hc (xd dk_T_startOf 0 rfl) rfl rfl ?_
  refine x_iload_n hc (xd dk_T_startOf 1 rfl) rfl rfl ?_
  obtain ⟨r4, M, e5, hf⟩ := xbind_some hf
  refine x_callV hc (As := [.int p1]) (n := 1) (s_T_isThere hb e5) (c_T hb _) rfl (hR.call (by decide) (by decide)) ⟨by decide, by decide, by decide⟩ rfl rfl xw513 xw4 xw510 xw512 xs_T_isThere (Nat.le_of_ble_eq_true rfl) ⟨Nat.zero_le _, Nat.zero_le _⟩ (xd dk_T_startOf 2 rfl) ?_
  refine x_if_eq hc (tgt := 17) (xd dk_T_startOf 3 rfl) rfl (fun q6 => ?_) (fun q6 => ?_)
  · rw [if_pos q6] at hf
    refine x_aload_n hc (xd dk_T_startOf 9 rfl) rfl rfl ?_
    refine x_get hc (ci := 3) (k := 0) fi_T (c_T hb _) rfl (by decide) rfl xw79 rfl (xd dk_T_startOf 10 rfl) ?_
    refine x_getN hc (ci := 1) (k := 1) fi_L (c_L hb.L _) rfl (by decide) rfl xn43 rfl (xd dk_T_startOf 11 rfl) ?_
    cases hf
    exact x_ireturn hc (xd dk_T_startOf 12 rfl)
  · rw [if_neg q6] at hf
    refine x_aload_n hc (xd dk_T_startOf 4 rfl) rfl rfl ?_
    refine x_get hc (ci := 3) (k := 2) fi_T (c_T hb _) rfl (by decide) rfl xw81 rfl (xd dk_T_startOf 5 rfl) ?_
    refine x_iload_n hc (xd dk_T_startOf 6 rfl) rfl rfl ?_
    by_cases q7 : xin p1 61 = true
    case neg => rw [if_neg q7] at hf; cases hf
    rw [if_pos q7] at hf
    refine x_iald hc (cA (xRd.ar hb 4 (by decide) rfl)) (xin_in q7) (xd dk_T_startOf 7 rfl) ?_
    refine x_goto hc (tgt := 24) (xd dk_T_startOf 8 rfl) rfl ?_
    cases hf
    exact x_ireturn hc (xd dk_T_startOf 12 rfl)
def f_M_excuse_30 (b : Nat) (p1 : Int32) (p2 : Int32) (p3 : Int32) (k3 : Int32 → xMem → Option (Unit × xMem)) (v4 : Int32) (M : xMem) : Option (Unit × xMem) :=
  (k3 (v4 + Int32.ofInt 1) M)
def f_M_excuse_3 (b : Nat) (p1 : Int32) (p2 : Int32) (p3 : Int32) : Nat → Int32 → xMem → Option (Unit × xMem)
  | 0, _, _ => none
  | n + 1, v4, M =>
    (if p3 < v4 then (some ((), M)) else (xbind (f_M_isThere v4 M) fun r10 M => if r10 = 0 then (f_M_excuse_30 b p1 p2 p3 (f_M_excuse_3 b p1 p2 p3 n) v4 M) else (if xin v4 60 = true then xval ((M.1 (b + 23) v4.toNatClampNeg) ||| (1 <<< (p1 &&& 31))) fun x14 => if xin v4 60 = true then xlet (wI M (b + 23) v4.toNatClampNeg x14) fun M => f_M_excuse_30 b p1 p2 p3 (f_M_excuse_3 b p1 p2 p3 n) v4 M else none else none)))
def f_M_excuse (b : Nat) (p1 : Int32) (p2 : Int32) (p3 : Int32) (M : xMem) : Option (Unit × xMem) :=
  (f_M_excuse_3 b p1 p2 p3 xFuel p2 M)
set_option maxRecDepth 100000 in
set_option maxHeartbeats 400000 in
theorem s_M_excuse_30 {p : Program} {l : Launch} {e : Env} {R : Room} {s : State} {m : MethodId} {args : Array Value} {below : List Frame} {meth : Method} {c : Code} {G : xG} {Y : xY} {sz : Nat} {b : Nat} {p1 : Int32} {p2 : Int32} {p3 : Int32}  (hc : xC p s m args meth c G 5 c_M_excuse y_M_excuse.cls none) (hR : xRm R 1) (hb : xRd Y b) {k3 : Int32 → xMem → Option (Unit × xMem)} {M' : xMem} {r : Unit} (hk3 : ∀ (v4 : Int32) (M : xMem), k3 v4 M = some (r, M') → xW p l e R s m args below meth c G 5 (MQ below (xQc G none (xo G Y M') sz) args s 0 0 (xA G)) (xo G Y M) sz 0 0 3 [some (.ref (b + 21)), some (.int p1), some (.int p2), some (.int p3), some (.int v4)] []) (v4 : Int32) (M : xMem) (hf : f_M_excuse_30 b p1 p2 p3 k3 v4 M = some (r, M')) : xW p l e R s m args below meth c G 5 (MQ below (xQc G none (xo G Y M') sz) args s 0 0 (xA G)) (xo G Y M) sz 0 0 30 [some (.ref (b + 21)), some (.int p1), some (.int p2), some (.int p3), some (.int v4)] [] := by
  unfold f_M_excuse_30 at hf
  refine x_iinc hc (xd dk_M_excuse 18 rfl) rfl (by decide) rfl ?_
  refine x_goto hc (tgt := 3) (xd dk_M_excuse 19 rfl) rfl ?_
  exact hk3 (v4 + Int32.ofInt 1) M hf
set_option maxRecDepth 100000 in
set_option maxHeartbeats 400000 in
theorem s_M_excuse_3 {p : Program} {l : Launch} {e : Env} {R : Room} {s : State} {m : MethodId} {args : Array Value} {below : List Frame} {meth : Method} {c : Code} {G : xG} {Y : xY} {sz : Nat} {b : Nat} {p1 : Int32} {p2 : Int32} {p3 : Int32}  (hc : xC p s m args meth c G 5 c_M_excuse y_M_excuse.cls none) (hR : xRm R 1) (hb : xRd Y b) {M' : xMem} {r : Unit} : ∀ (n : Nat) (v4 : Int32) (M : xMem), f_M_excuse_3 b p1 p2 p3 n v4 M = some (r, M') → xW p l e R s m args below meth c G 5 (MQ below (xQc G none (xo G Y M') sz) args s 0 0 (xA G)) (xo G Y M) sz 0 0 3 [some (.ref (b + 21)), some (.int p1), some (.int p2), some (.int p3), some (.int v4)] [] := by
  intro n
  induction n with
  | zero => intro v4 M hf; simp only [f_M_excuse_3] at hf; cases hf
  | succ n ih =>
    intro v4 M hf
    simp only [f_M_excuse_3] at hf
    refine x_iload hc (xd dk_M_excuse 2 rfl) rfl ?_
    refine x_iload_n hc (xd dk_M_excuse 3 rfl) rfl rfl ?_
    refine x_icmp_gt hc (tgt := 36) (xd dk_M_excuse 4 rfl) rfl (fun q9 => ?_) (fun q9 => ?_)
    · rw [if_pos q9] at hf
      cases hf
      exact x_return hc (xd dk_M_excuse 20 rfl)
    · rw [if_neg q9] at hf
      refine x_iload hc (xd dk_M_excuse 5 rfl) rfl ?_
      obtain ⟨r10, M, e11, hf⟩ := xbind_some hf
      refine x_callS hc (As := [.int v4]) (n := 1) (s_M_isThere e11) (hR.call (by decide) (by decide)) ⟨by decide, by decide, by decide⟩ rfl rfl xw470 xw7 xw468 xw469 (Nat.le_of_ble_eq_true rfl) ⟨Nat.zero_le _, Nat.zero_le _⟩ (xd dk_M_excuse 6 rfl) ?_
      refine x_if_eq hc (tgt := 30) (xd dk_M_excuse 7 rfl) rfl (fun q12 => ?_) (fun q12 => ?_)
      · rw [if_pos q12] at hf
        exact s_M_excuse_30 hc hR hb ih v4 M hf
      · rw [if_neg q12] at hf
        refine x_aload_n hc (xd dk_M_excuse 8 rfl) rfl rfl ?_
        refine x_get hc (ci := 6) (k := 1) fi_M (c_M hb _) rfl (by decide) rfl xw182 rfl (xd dk_M_excuse 9 rfl) ?_
        refine x_iload hc (xd dk_M_excuse 10 rfl) rfl ?_
        refine x_dup2_11 hc (xd dk_M_excuse 11 rfl) rfl rfl ?_
        by_cases q13 : xin v4 60 = true
        case neg => rw [if_neg q13] at hf; cases hf
        rw [if_pos q13] at hf
        refine x_iald hc (cA (xRd.ar hb 23 (by decide) rfl)) (xin_in q13) (xd dk_M_excuse 12 rfl) ?_
        refine x_iconst hc (v := 1) (xd dk_M_excuse 13 rfl) (by decide) ?_
        refine x_iload_n hc (xd dk_M_excuse 14 rfl) rfl rfl ?_
        refine x_ishl hc (xd dk_M_excuse 15 rfl) ?_
        refine x_ior hc (xd dk_M_excuse 16 rfl) ?_
        obtain ⟨x14, hx14, hf⟩ := xval_ex hf
        rw [← hx14]
        by_cases q15 : xin v4 60 = true
        case neg => rw [if_neg q15] at hf; cases hf
        rw [if_pos q15] at hf
        refine x_iast hc (cA (xRd.ar hb 23 (by decide) rfl)) (xin_in q15) (xd dk_M_excuse 17 rfl) ?_
        rw [wA (xRd.ar hb 23 (by decide) rfl)]
        replace hf := xlet_some hf
        generalize wI M (b + 23) v4.toNatClampNeg x14 = M at hf ⊢
        exact s_M_excuse_30 hc hR hb ih v4 M hf
set_option maxRecDepth 100000 in
set_option maxHeartbeats 400000 in
theorem s_M_excuse {l : Launch} {G : xG} {Y : xY} {sz : Nat} {b : Nat} {p1 : Int32} {p2 : Int32} {p3 : Int32}  (hb : xRd Y b) {M M' : xMem} {r : Unit} (hf : f_M_excuse b p1 p2 p3 M = some (r, M')) : xM l G y_M_excuse c_M_excuse 5 none 1 0 0 [.ref (b + 21), .int p1, .int p2, .int p3] (xo G Y M) sz none (xo G Y M') sz := by
  unfold f_M_excuse at hf
  refine xM.of (k := 1) (L0 := [some (.ref (b + 21)), some (.int p1), some (.int p2), some (.int p3), none]) (by decide) (Nat.le_of_ble_eq_true rfl) rfl ?_
  intro p e s m args below meth c hc hnm
  have hR : xRm { frames := 1, cells := 0, slots := 0, locals := 48 * 1 } 1 := ⟨Nat.le_refl _, Nat.le_refl _⟩
  refine x_iload_n hc (xd dk_M_excuse 0 rfl) rfl rfl ?_
  refine x_istore hc (xd dk_M_excuse 1 rfl) (by decide) rfl ?_
  exact s_M_excuse_3 hc hR hb xFuel p2 M hf
def f_S_levelOf (b : Nat) (p1 : Int32) (M : xMem) : Option (Int32 × xMem) :=
  (xbind (f_S_isThere b p1 M) fun r4 M => if r4 = 0 then (some (0, M)) else (if xin p1 61 = true then some (M.1 (b + 11) p1.toNatClampNeg, M) else none))
set_option maxRecDepth 100000 in
set_option maxHeartbeats 400000 in
theorem s_S_levelOf {l : Launch} {G : xG} {Y : xY} {sz : Nat} {b : Nat} {p1 : Int32}  (hb : xRd Y b) {M M' : xMem} {r : Int32} (hf : f_S_levelOf b p1 M = some (r, M')) : xM l G y_S_levelOf c_S_levelOf 2 (some .int) 1 0 0 [.ref (b + 8), .int p1] (xo G Y M) sz (some (.int r)) (xo G Y M') sz := by
  unfold f_S_levelOf at hf
  refine xM.of (k := 0) (L0 := [some (.ref (b + 8)), some (.int p1)]) (by decide) (Nat.le_of_ble_eq_true rfl) rfl ?_
  intro p e s m args below meth c hc hnm
  have hR : xRm { frames := 1, cells := 0, slots := 0, locals := 48 * 1 } 1 := ⟨Nat.le_refl _, Nat.le_refl _⟩
  refine x_aload_n hc (xd dk_S_levelOf 0 rfl) rfl rfl ?_
  refine x_iload_n hc (xd dk_S_levelOf 1 rfl) rfl rfl ?_
  obtain ⟨r4, M, e5, hf⟩ := xbind_some hf
  refine x_callV hc (As := [.int p1]) (n := 1) (s_S_isThere hb e5) (c_S hb _) rfl (hR.call (by decide) (by decide)) ⟨by decide, by decide, by decide⟩ rfl rfl xw501 xw5 xw498 xw500 xs_S_isThere (Nat.le_of_ble_eq_true rfl) ⟨Nat.zero_le _, Nat.zero_le _⟩ (xd dk_S_levelOf 2 rfl) ?_
  refine x_if_eq hc (tgt := 17) (xd dk_S_levelOf 3 rfl) rfl (fun q6 => ?_) (fun q6 => ?_)
  · rw [if_pos q6] at hf
    refine x_iconst hc (v := 0) (xd dk_S_levelOf 9 rfl) (by decide) ?_
    cases hf
    exact x_ireturn hc (xd dk_S_levelOf 10 rfl)
  · rw [if_neg q6] at hf
    refine x_aload_n hc (xd dk_S_levelOf 4 rfl) rfl rfl ?_
    refine x_get hc (ci := 4) (k := 2) fi_S (c_S hb _) rfl (by decide) rfl xw112 rfl (xd dk_S_levelOf 5 rfl) ?_
    refine x_iload_n hc (xd dk_S_levelOf 6 rfl) rfl rfl ?_
    by_cases q7 : xin p1 61 = true
    case neg => rw [if_neg q7] at hf; cases hf
    rw [if_pos q7] at hf
    refine x_iald hc (cA (xRd.ar hb 11 (by decide) rfl)) (xin_in q7) (xd dk_S_levelOf 7 rfl) ?_
    refine x_goto hc (tgt := 18) (xd dk_S_levelOf 8 rfl) rfl ?_
    cases hf
    exact x_ireturn hc (xd dk_S_levelOf 10 rfl)
def f_S_aroundOf (b : Nat) (p1 : Int32) (M : xMem) : Option (Int32 × xMem) :=
  (xbind (f_S_isThere b p1 M) fun r4 M => if r4 = 0 then (some (0, M)) else (if xin p1 61 = true then some (M.1 (b + 9) p1.toNatClampNeg, M) else none))
set_option maxRecDepth 100000 in
set_option maxHeartbeats 400000 in
theorem s_S_aroundOf {l : Launch} {G : xG} {Y : xY} {sz : Nat} {b : Nat} {p1 : Int32}  (hb : xRd Y b) {M M' : xMem} {r : Int32} (hf : f_S_aroundOf b p1 M = some (r, M')) : xM l G y_S_aroundOf c_S_aroundOf 2 (some .int) 1 0 0 [.ref (b + 8), .int p1] (xo G Y M) sz (some (.int r)) (xo G Y M') sz := by
  unfold f_S_aroundOf at hf
  refine xM.of (k := 0) (L0 := [some (.ref (b + 8)), some (.int p1)]) (by decide) (Nat.le_of_ble_eq_true rfl) rfl ?_
  intro p e s m args below meth c hc hnm
  have hR : xRm { frames := 1, cells := 0, slots := 0, locals := 48 * 1 } 1 := ⟨Nat.le_refl _, Nat.le_refl _⟩
  refine x_aload_n hc (xd dk_S_aroundOf 0 rfl) rfl rfl ?_
  refine x_iload_n hc (xd dk_S_aroundOf 1 rfl) rfl rfl ?_
  obtain ⟨r4, M, e5, hf⟩ := xbind_some hf
  refine x_callV hc (As := [.int p1]) (n := 1) (s_S_isThere hb e5) (c_S hb _) rfl (hR.call (by decide) (by decide)) ⟨by decide, by decide, by decide⟩ rfl rfl xw501 xw5 xw498 xw500 xs_S_isThere (Nat.le_of_ble_eq_true rfl) ⟨Nat.zero_le _, Nat.zero_le _⟩ (xd dk_S_aroundOf 2 rfl) ?_
  refine x_if_eq hc (tgt := 17) (xd dk_S_aroundOf 3 rfl) rfl (fun q6 => ?_) (fun q6 => ?_)
  · rw [if_pos q6] at hf
    refine x_iconst hc (v := 0) (xd dk_S_aroundOf 9 rfl) (by decide) ?_
    cases hf
    exact x_ireturn hc (xd dk_S_aroundOf 10 rfl)
  · rw [if_neg q6] at hf
    refine x_aload_n hc (xd dk_S_aroundOf 4 rfl) rfl rfl ?_
    refine x_get hc (ci := 4) (k := 0) fi_S (c_S hb _) rfl (by decide) rfl xw110 rfl (xd dk_S_aroundOf 5 rfl) ?_
    refine x_iload_n hc (xd dk_S_aroundOf 6 rfl) rfl rfl ?_
    by_cases q7 : xin p1 61 = true
    case neg => rw [if_neg q7] at hf; cases hf
    rw [if_pos q7] at hf
    refine x_iald hc (cA (xRd.ar hb 9 (by decide) rfl)) (xin_in q7) (xd dk_S_aroundOf 7 rfl) ?_
    refine x_goto hc (tgt := 18) (xd dk_S_aroundOf 8 rfl) rfl ?_
    cases hf
    exact x_ireturn hc (xd dk_S_aroundOf 10 rfl)
def f_H_isParameter (b : Nat) (p1 : Int32) (M : xMem) : Option (Int32 × xMem) :=
  (if xin p1 60 = true then if M.1 (b + 15) p1.toNatClampNeg = 4 then (some (1, M)) else (some (0, M)) else none)
set_option maxRecDepth 100000 in
set_option maxHeartbeats 400000 in
theorem s_H_isParameter {l : Launch} {G : xG} {Y : xY} {sz : Nat} {b : Nat} {p1 : Int32}  (hb : xRd Y b) {M M' : xMem} {r : Int32} (hf : f_H_isParameter b p1 M = some (r, M')) : xM l G y_H_isParameter c_H_isParameter 2 (some .boolean) 0 0 0 [.ref (b + 12), .int p1] (xo G Y M) sz (some (.int r)) (xo G Y M') sz := by
  unfold f_H_isParameter at hf
  refine xM.of (k := 0) (L0 := [some (.ref (b + 12)), some (.int p1)]) (by decide) (Nat.le_of_ble_eq_true rfl) rfl ?_
  intro p e s m args below meth c hc hnm
  have hR : xRm { frames := 0, cells := 0, slots := 0, locals := 48 * 0 } 0 := ⟨Nat.le_refl _, Nat.le_refl _⟩
  refine x_aload_n hc (xd dk_H_isParameter 0 rfl) rfl rfl ?_
  refine x_get hc (ci := 5) (k := 2) fi_H (c_H hb _) rfl (by decide) rfl xw135 rfl (xd dk_H_isParameter 1 rfl) ?_
  refine x_iload_n hc (xd dk_H_isParameter 2 rfl) rfl rfl ?_
  by_cases q3 : xin p1 60 = true
  case neg => rw [if_neg q3] at hf; cases hf
  rw [if_pos q3] at hf
  refine x_iald hc (cA (xRd.ar hb 15 (by decide) rfl)) (xin_in q3) (xd dk_H_isParameter 3 rfl) ?_
  refine x_iconst hc (v := 4) (xd dk_H_isParameter 4 rfl) (by decide) ?_
  refine x_icmp_ne hc (tgt := 14) (xd dk_H_isParameter 5 rfl) rfl (fun q4 => ?_) (fun q4 => ?_)
  · rw [if_neg q4] at hf
    refine x_iconst hc (v := 0) (xd dk_H_isParameter 8 rfl) (by decide) ?_
    cases hf
    exact x_zreturn hc rfl (xd dk_H_isParameter 9 rfl)
  · rw [if_pos q4] at hf
    refine x_iconst hc (v := 1) (xd dk_H_isParameter 6 rfl) (by decide) ?_
    refine x_goto hc (tgt := 15) (xd dk_H_isParameter 7 rfl) rfl ?_
    cases hf
    exact x_zreturn hc rfl (xd dk_H_isParameter 9 rfl)
def f_H_isRead (b : Nat) (p1 : Int32) (M : xMem) : Option (Int32 × xMem) :=
  (if xin p1 60 = true then if M.1 (b + 17) p1.toNatClampNeg ≤ 0 then (some (0, M)) else (some (1, M)) else none)
set_option maxRecDepth 100000 in
set_option maxHeartbeats 400000 in
theorem s_H_isRead {l : Launch} {G : xG} {Y : xY} {sz : Nat} {b : Nat} {p1 : Int32}  (hb : xRd Y b) {M M' : xMem} {r : Int32} (hf : f_H_isRead b p1 M = some (r, M')) : xM l G y_H_isRead c_H_isRead 2 (some .boolean) 0 0 0 [.ref (b + 12), .int p1] (xo G Y M) sz (some (.int r)) (xo G Y M') sz := by
  unfold f_H_isRead at hf
  refine xM.of (k := 0) (L0 := [some (.ref (b + 12)), some (.int p1)]) (by decide) (Nat.le_of_ble_eq_true rfl) rfl ?_
  intro p e s m args below meth c hc hnm
  have hR : xRm { frames := 0, cells := 0, slots := 0, locals := 48 * 0 } 0 := ⟨Nat.le_refl _, Nat.le_refl _⟩
  refine x_aload_n hc (xd dk_H_isRead 0 rfl) rfl rfl ?_
  refine x_get hc (ci := 5) (k := 4) fi_H (c_H hb _) rfl (by decide) rfl xw141 rfl (xd dk_H_isRead 1 rfl) ?_
  refine x_iload_n hc (xd dk_H_isRead 2 rfl) rfl rfl ?_
  by_cases q3 : xin p1 60 = true
  case neg => rw [if_neg q3] at hf; cases hf
  rw [if_pos q3] at hf
  refine x_iald hc (cA (xRd.ar hb 17 (by decide) rfl)) (xin_in q3) (xd dk_H_isRead 3 rfl) ?_
  refine x_if_le hc (tgt := 13) (xd dk_H_isRead 4 rfl) rfl (fun q4 => ?_) (fun q4 => ?_)
  · rw [if_pos q4] at hf
    refine x_iconst hc (v := 0) (xd dk_H_isRead 7 rfl) (by decide) ?_
    cases hf
    exact x_zreturn hc rfl (xd dk_H_isRead 8 rfl)
  · rw [if_neg q4] at hf
    refine x_iconst hc (v := 1) (xd dk_H_isRead 5 rfl) (by decide) ?_
    refine x_goto hc (tgt := 14) (xd dk_H_isRead 6 rfl) rfl ?_
    cases hf
    exact x_zreturn hc rfl (xd dk_H_isRead 8 rfl)
def f_H_couldBeConst (b : Nat) (p1 : Int32) (M : xMem) : Option (Int32 × xMem) :=
  (if xin p1 60 = true then if M.1 (b + 15) p1.toNatClampNeg = 0 then (if xin p1 60 = true then if M.1 (b + 20) p1.toNatClampNeg = 0 then (some (0, M)) else (if xin p1 60 = true then if M.1 (b + 19) p1.toNatClampNeg = 1 then (if xin p1 60 = true then if M.1 (b + 18) p1.toNatClampNeg = 1 then (some (1, M)) else (some (0, M)) else none) else (some (0, M)) else none) else none) else (some (0, M)) else none)
set_option maxRecDepth 100000 in
set_option maxHeartbeats 400000 in
theorem s_H_couldBeConst {l : Launch} {G : xG} {Y : xY} {sz : Nat} {b : Nat} {p1 : Int32}  (hb : xRd Y b) {M M' : xMem} {r : Int32} (hf : f_H_couldBeConst b p1 M = some (r, M')) : xM l G y_H_couldBeConst c_H_couldBeConst 2 (some .boolean) 0 0 0 [.ref (b + 12), .int p1] (xo G Y M) sz (some (.int r)) (xo G Y M') sz := by
  unfold f_H_couldBeConst at hf
  refine xM.of (k := 0) (L0 := [some (.ref (b + 12)), some (.int p1)]) (by decide) (Nat.le_of_ble_eq_true rfl) rfl ?_
  intro p e s m args below meth c hc hnm
  have hR : xRm { frames := 0, cells := 0, slots := 0, locals := 48 * 0 } 0 := ⟨Nat.le_refl _, Nat.le_refl _⟩
  refine x_aload_n hc (xd dk_H_couldBeConst 0 rfl) rfl rfl ?_
  refine x_get hc (ci := 5) (k := 2) fi_H (c_H hb _) rfl (by decide) rfl xw135 rfl (xd dk_H_couldBeConst 1 rfl) ?_
  refine x_iload_n hc (xd dk_H_couldBeConst 2 rfl) rfl rfl ?_
  by_cases q6 : xin p1 60 = true
  case neg => rw [if_neg q6] at hf; cases hf
  rw [if_pos q6] at hf
  refine x_iald hc (cA (xRd.ar hb 15 (by decide) rfl)) (xin_in q6) (xd dk_H_couldBeConst 3 rfl) ?_
  refine x_if_ne hc (tgt := 42) (xd dk_H_couldBeConst 4 rfl) rfl (fun q7 => ?_) (fun q7 => ?_)
  · rw [if_neg q7] at hf
    refine x_iconst hc (v := 0) (xd dk_H_couldBeConst 24 rfl) (by decide) ?_
    cases hf
    exact x_zreturn hc rfl (xd dk_H_couldBeConst 25 rfl)
  · rw [if_pos q7] at hf
    refine x_aload_n hc (xd dk_H_couldBeConst 5 rfl) rfl rfl ?_
    refine x_get hc (ci := 5) (k := 7) fi_H (c_H hb _) rfl (by decide) rfl xw150 rfl (xd dk_H_couldBeConst 6 rfl) ?_
    refine x_iload_n hc (xd dk_H_couldBeConst 7 rfl) rfl rfl ?_
    by_cases q8 : xin p1 60 = true
    case neg => rw [if_neg q8] at hf; cases hf
    rw [if_pos q8] at hf
    refine x_zald hc (cA (xRd.ar hb 20 (by decide) rfl)) (xin_in q8) (xd dk_H_couldBeConst 8 rfl) ?_
    refine x_if_eq hc (tgt := 42) (xd dk_H_couldBeConst 9 rfl) rfl (fun q9 => ?_) (fun q9 => ?_)
    · rw [if_pos q9] at hf
      refine x_iconst hc (v := 0) (xd dk_H_couldBeConst 24 rfl) (by decide) ?_
      cases hf
      exact x_zreturn hc rfl (xd dk_H_couldBeConst 25 rfl)
    · rw [if_neg q9] at hf
      refine x_aload_n hc (xd dk_H_couldBeConst 10 rfl) rfl rfl ?_
      refine x_get hc (ci := 5) (k := 6) fi_H (c_H hb _) rfl (by decide) rfl xw147 rfl (xd dk_H_couldBeConst 11 rfl) ?_
      refine x_iload_n hc (xd dk_H_couldBeConst 12 rfl) rfl rfl ?_
      by_cases q10 : xin p1 60 = true
      case neg => rw [if_neg q10] at hf; cases hf
      rw [if_pos q10] at hf
      refine x_iald hc (cA (xRd.ar hb 19 (by decide) rfl)) (xin_in q10) (xd dk_H_couldBeConst 13 rfl) ?_
      refine x_iconst hc (v := 1) (xd dk_H_couldBeConst 14 rfl) (by decide) ?_
      refine x_icmp_ne hc (tgt := 42) (xd dk_H_couldBeConst 15 rfl) rfl (fun q11 => ?_) (fun q11 => ?_)
      · rw [if_neg q11] at hf
        refine x_iconst hc (v := 0) (xd dk_H_couldBeConst 24 rfl) (by decide) ?_
        cases hf
        exact x_zreturn hc rfl (xd dk_H_couldBeConst 25 rfl)
      · rw [if_pos q11] at hf
        refine x_aload_n hc (xd dk_H_couldBeConst 16 rfl) rfl rfl ?_
        refine x_get hc (ci := 5) (k := 5) fi_H (c_H hb _) rfl (by decide) rfl xw144 rfl (xd dk_H_couldBeConst 17 rfl) ?_
        refine x_iload_n hc (xd dk_H_couldBeConst 18 rfl) rfl rfl ?_
        by_cases q12 : xin p1 60 = true
        case neg => rw [if_neg q12] at hf; cases hf
        rw [if_pos q12] at hf
        refine x_iald hc (cA (xRd.ar hb 18 (by decide) rfl)) (xin_in q12) (xd dk_H_couldBeConst 19 rfl) ?_
        refine x_iconst hc (v := 1) (xd dk_H_couldBeConst 20 rfl) (by decide) ?_
        refine x_icmp_ne hc (tgt := 42) (xd dk_H_couldBeConst 21 rfl) rfl (fun q13 => ?_) (fun q13 => ?_)
        · rw [if_neg q13] at hf
          refine x_iconst hc (v := 0) (xd dk_H_couldBeConst 24 rfl) (by decide) ?_
          cases hf
          exact x_zreturn hc rfl (xd dk_H_couldBeConst 25 rfl)
        · rw [if_pos q13] at hf
          refine x_iconst hc (v := 1) (xd dk_H_couldBeConst 22 rfl) (by decide) ?_
          refine x_goto hc (tgt := 43) (xd dk_H_couldBeConst 23 rfl) rfl ?_
          cases hf
          exact x_zreturn hc rfl (xd dk_H_couldBeConst 25 rfl)
def f_M_rulesAt (b : Nat) (p1 : Int32) (M : xMem) : Option (Int32 × xMem) :=
  (xbind (f_M_isThere p1 M) fun r4 M => if r4 = 0 then (some (0, M)) else (if xin p1 60 = true then some (M.1 (b + 22) p1.toNatClampNeg, M) else none))
set_option maxRecDepth 100000 in
set_option maxHeartbeats 400000 in
theorem s_M_rulesAt {l : Launch} {G : xG} {Y : xY} {sz : Nat} {b : Nat} {p1 : Int32}  (hb : xRd Y b) {M M' : xMem} {r : Int32} (hf : f_M_rulesAt b p1 M = some (r, M')) : xM l G y_M_rulesAt c_M_rulesAt 2 (some .int) 1 0 0 [.ref (b + 21), .int p1] (xo G Y M) sz (some (.int r)) (xo G Y M') sz := by
  unfold f_M_rulesAt at hf
  refine xM.of (k := 0) (L0 := [some (.ref (b + 21)), some (.int p1)]) (by decide) (Nat.le_of_ble_eq_true rfl) rfl ?_
  intro p e s m args below meth c hc hnm
  have hR : xRm { frames := 1, cells := 0, slots := 0, locals := 48 * 1 } 1 := ⟨Nat.le_refl _, Nat.le_refl _⟩
  refine x_iload_n hc (xd dk_M_rulesAt 0 rfl) rfl rfl ?_
  obtain ⟨r4, M, e5, hf⟩ := xbind_some hf
  refine x_callS hc (As := [.int p1]) (n := 1) (s_M_isThere e5) (hR.call (by decide) (by decide)) ⟨by decide, by decide, by decide⟩ rfl rfl xw470 xw7 xw468 xw469 (Nat.le_of_ble_eq_true rfl) ⟨Nat.zero_le _, Nat.zero_le _⟩ (xd dk_M_rulesAt 1 rfl) ?_
  refine x_if_eq hc (tgt := 16) (xd dk_M_rulesAt 2 rfl) rfl (fun q6 => ?_) (fun q6 => ?_)
  · rw [if_pos q6] at hf
    refine x_iconst hc (v := 0) (xd dk_M_rulesAt 8 rfl) (by decide) ?_
    cases hf
    exact x_ireturn hc (xd dk_M_rulesAt 9 rfl)
  · rw [if_neg q6] at hf
    refine x_aload_n hc (xd dk_M_rulesAt 3 rfl) rfl rfl ?_
    refine x_get hc (ci := 6) (k := 0) fi_M (c_M hb _) rfl (by decide) rfl xw181 rfl (xd dk_M_rulesAt 4 rfl) ?_
    refine x_iload_n hc (xd dk_M_rulesAt 5 rfl) rfl rfl ?_
    by_cases q7 : xin p1 60 = true
    case neg => rw [if_neg q7] at hf; cases hf
    rw [if_pos q7] at hf
    refine x_iald hc (cA (xRd.ar hb 22 (by decide) rfl)) (xin_in q7) (xd dk_M_rulesAt 6 rfl) ?_
    refine x_goto hc (tgt := 17) (xd dk_M_rulesAt 7 rfl) rfl ?_
    cases hf
    exact x_ireturn hc (xd dk_M_rulesAt 9 rfl)
def f_T_octetsOf (b : Nat) (p1 : Int32) (M : xMem) : Option (Int64 × xMem) :=
  (xbind (f_T_isThere b p1 M) fun r4 M => if r4 = 0 then (some (0, M)) else (if xin p1 61 = true then some (M.2.1 (b + 6) p1.toNatClampNeg, M) else none))
set_option maxRecDepth 100000 in
set_option maxHeartbeats 400000 in
theorem s_T_octetsOf {l : Launch} {G : xG} {Y : xY} {sz : Nat} {b : Nat} {p1 : Int32}  (hb : xRd Y b) {M M' : xMem} {r : Int64} (hf : f_T_octetsOf b p1 M = some (r, M')) : xM l G y_T_octetsOf c_T_octetsOf 2 (some .long) 1 0 0 [.ref (b + 2), .int p1] (xo G Y M) sz (some (.long r)) (xo G Y M') sz := by
  unfold f_T_octetsOf at hf
  refine xM.of (k := 0) (L0 := [some (.ref (b + 2)), some (.int p1)]) (by decide) (Nat.le_of_ble_eq_true rfl) rfl ?_
  intro p e s m args below meth c hc hnm
  have hR : xRm { frames := 1, cells := 0, slots := 0, locals := 48 * 1 } 1 := ⟨Nat.le_refl _, Nat.le_refl _⟩
  refine x_aload_n hc (xd dk_T_octetsOf 0 rfl) rfl rfl ?_
  refine x_iload_n hc (xd dk_T_octetsOf 1 rfl) rfl rfl ?_
  obtain ⟨r4, M, e5, hf⟩ := xbind_some hf
  refine x_callV hc (As := [.int p1]) (n := 1) (s_T_isThere hb e5) (c_T hb _) rfl (hR.call (by decide) (by decide)) ⟨by decide, by decide, by decide⟩ rfl rfl xw513 xw4 xw510 xw512 xs_T_isThere (Nat.le_of_ble_eq_true rfl) ⟨Nat.zero_le _, Nat.zero_le _⟩ (xd dk_T_octetsOf 2 rfl) ?_
  refine x_if_eq hc (tgt := 17) (xd dk_T_octetsOf 3 rfl) rfl (fun q6 => ?_) (fun q6 => ?_)
  · rw [if_pos q6] at hf
    refine x_lconst hc (v := 0) (xd dk_T_octetsOf 9 rfl) (by decide) ?_
    cases hf
    exact x_lreturn hc (xd dk_T_octetsOf 10 rfl)
  · rw [if_neg q6] at hf
    refine x_aload_n hc (xd dk_T_octetsOf 4 rfl) rfl rfl ?_
    refine x_get hc (ci := 3) (k := 4) fi_T (c_T hb _) rfl (by decide) rfl xw83 rfl (xd dk_T_octetsOf 5 rfl) ?_
    refine x_iload_n hc (xd dk_T_octetsOf 6 rfl) rfl rfl ?_
    by_cases q7 : xin p1 61 = true
    case neg => rw [if_neg q7] at hf; cases hf
    rw [if_pos q7] at hf
    refine x_lald hc (cJ (xRd.al hb 6 (by decide) rfl rfl).1 (xRd.al hb 6 (by decide) rfl rfl).2) (xin_in q7) (xd dk_T_octetsOf 7 rfl) ?_
    refine x_goto hc (tgt := 18) (xd dk_T_octetsOf 8 rfl) rfl ?_
    cases hf
    exact x_lreturn hc (xd dk_T_octetsOf 10 rfl)
def f_G_isGiven_2 (b : Nat) (p1 : Int64) : Nat → Int32 → xMem → Option (Int32 × xMem)
  | 0, _, _ => none
  | n + 1, v3, M =>
    (if M.1 b 1 ≤ v3 then (some (0, M)) else (if xin v3 8 = true then if (lg_cmp (M.2.1 (b + 1) v3.toNatClampNeg) p1) = 0 then (some (1, M)) else (f_G_isGiven_2 b p1 n (v3 + Int32.ofInt 1) M) else none))
def f_G_isGiven (b : Nat) (p1 : Int64) (M : xMem) : Option (Int32 × xMem) :=
  (f_G_isGiven_2 b p1 xFuel 0 M)
set_option maxRecDepth 100000 in
set_option maxHeartbeats 400000 in
theorem s_G_isGiven_2 {p : Program} {l : Launch} {e : Env} {R : Room} {s : State} {m : MethodId} {args : Array Value} {below : List Frame} {meth : Method} {c : Code} {G : xG} {Y : xY} {sz : Nat} {b : Nat} {p1 : Int64}  (hc : xC p s m args meth c G 4 c_G_isGiven y_G_isGiven.cls (some .boolean)) (hR : xRm R 0) (hb : xSg Y b) {M' : xMem} {r : Int32} : ∀ (n : Nat) (v3 : Int32) (M : xMem), f_G_isGiven_2 b p1 n v3 M = some (r, M') → xW p l e R s m args below meth c G 4 (MQ below (xQc G (some (.int r)) (xo G Y M') sz) args s 0 0 (xA G)) (xo G Y M) sz 0 0 2 [some (.ref b), some (.long (p1)), none, some (.int v3)] [] := by
  intro n
  induction n with
  | zero => intro v3 M hf; simp only [f_G_isGiven_2] at hf; cases hf
  | succ n ih =>
    intro v3 M hf
    simp only [f_G_isGiven_2] at hf
    refine x_iload_n hc (xd dk_G_isGiven 2 rfl) rfl rfl ?_
    refine x_aload_n hc (xd dk_G_isGiven 3 rfl) rfl rfl ?_
    refine x_get hc (ci := 2) (k := 1) fi_G (c_G hb _) rfl (by decide) rfl xw57 rfl (xd dk_G_isGiven 4 rfl) ?_
    refine x_icmp_ge hc (tgt := 29) (xd dk_G_isGiven 5 rfl) rfl (fun q4 => ?_) (fun q4 => ?_)
    · rw [if_pos q4] at hf
      refine x_iconst hc (v := 0) (xd dk_G_isGiven 17 rfl) (by decide) ?_
      cases hf
      exact x_zreturn hc rfl (xd dk_G_isGiven 18 rfl)
    · rw [if_neg q4] at hf
      refine x_aload_n hc (xd dk_G_isGiven 6 rfl) rfl rfl ?_
      refine x_get hc (ci := 2) (k := 0) fi_G (c_G hb _) rfl (by decide) rfl xw56 rfl (xd dk_G_isGiven 7 rfl) ?_
      refine x_iload_n hc (xd dk_G_isGiven 8 rfl) rfl rfl ?_
      by_cases q5 : xin v3 8 = true
      case neg => rw [if_neg q5] at hf; cases hf
      rw [if_pos q5] at hf
      refine x_lald hc (cJ (xSg.ar hb).1 (xSg.ar hb).2) (xin_in q5) (xd dk_G_isGiven 9 rfl) ?_
      refine x_lload_n hc (xd dk_G_isGiven 10 rfl) rfl rfl ?_
      refine x_lcmp hc (xd dk_G_isGiven 11 rfl) ?_
      refine x_if_ne hc (tgt := 23) (xd dk_G_isGiven 12 rfl) rfl (fun q6 => ?_) (fun q6 => ?_)
      · rw [if_neg q6] at hf
        refine x_iinc hc (xd dk_G_isGiven 15 rfl) rfl (by decide) rfl ?_
        refine x_goto hc (tgt := 2) (xd dk_G_isGiven 16 rfl) rfl ?_
        exact ih (v3 + Int32.ofInt 1) M hf
      · rw [if_pos q6] at hf
        refine x_iconst hc (v := 1) (xd dk_G_isGiven 13 rfl) (by decide) ?_
        cases hf
        exact x_zreturn hc rfl (xd dk_G_isGiven 14 rfl)
set_option maxRecDepth 100000 in
set_option maxHeartbeats 400000 in
theorem s_G_isGiven {l : Launch} {G : xG} {Y : xY} {sz : Nat} {b : Nat} {p1 : Int64}  (hb : xSg Y b) {M M' : xMem} {r : Int32} (hf : f_G_isGiven b p1 M = some (r, M')) : xM l G y_G_isGiven c_G_isGiven 4 (some .boolean) 0 0 0 [.ref b, .long (p1)] (xo G Y M) sz (some (.int r)) (xo G Y M') sz := by
  unfold f_G_isGiven at hf
  refine xM.of (k := 1) (L0 := [some (.ref b), some (.long (p1)), none, none]) (by decide) (Nat.le_of_ble_eq_true rfl) rfl ?_
  intro p e s m args below meth c hc hnm
  have hR : xRm { frames := 0, cells := 0, slots := 0, locals := 48 * 0 } 0 := ⟨Nat.le_refl _, Nat.le_refl _⟩
  refine x_iconst hc (v := 0) (xd dk_G_isGiven 0 rfl) (by decide) ?_
  refine x_istore_n hc (xd dk_G_isGiven 1 rfl) (by decide) rfl ?_
  exact s_G_isGiven_2 hc hR hb xFuel 0 M hf
def f_M_excusedAt (b : Nat) (p1 : Int32) (M : xMem) : Option (Int32 × xMem) :=
  (xbind (f_M_isThere p1 M) fun r4 M => if r4 = 0 then (some (0, M)) else (if xin p1 60 = true then some (M.1 (b + 23) p1.toNatClampNeg, M) else none))
set_option maxRecDepth 100000 in
set_option maxHeartbeats 400000 in
theorem s_M_excusedAt {l : Launch} {G : xG} {Y : xY} {sz : Nat} {b : Nat} {p1 : Int32}  (hb : xRd Y b) {M M' : xMem} {r : Int32} (hf : f_M_excusedAt b p1 M = some (r, M')) : xM l G y_M_excusedAt c_M_excusedAt 2 (some .int) 1 0 0 [.ref (b + 21), .int p1] (xo G Y M) sz (some (.int r)) (xo G Y M') sz := by
  unfold f_M_excusedAt at hf
  refine xM.of (k := 0) (L0 := [some (.ref (b + 21)), some (.int p1)]) (by decide) (Nat.le_of_ble_eq_true rfl) rfl ?_
  intro p e s m args below meth c hc hnm
  have hR : xRm { frames := 1, cells := 0, slots := 0, locals := 48 * 1 } 1 := ⟨Nat.le_refl _, Nat.le_refl _⟩
  refine x_iload_n hc (xd dk_M_excusedAt 0 rfl) rfl rfl ?_
  obtain ⟨r4, M, e5, hf⟩ := xbind_some hf
  refine x_callS hc (As := [.int p1]) (n := 1) (s_M_isThere e5) (hR.call (by decide) (by decide)) ⟨by decide, by decide, by decide⟩ rfl rfl xw470 xw7 xw468 xw469 (Nat.le_of_ble_eq_true rfl) ⟨Nat.zero_le _, Nat.zero_le _⟩ (xd dk_M_excusedAt 1 rfl) ?_
  refine x_if_eq hc (tgt := 16) (xd dk_M_excusedAt 2 rfl) rfl (fun q6 => ?_) (fun q6 => ?_)
  · rw [if_pos q6] at hf
    refine x_iconst hc (v := 0) (xd dk_M_excusedAt 8 rfl) (by decide) ?_
    cases hf
    exact x_ireturn hc (xd dk_M_excusedAt 9 rfl)
  · rw [if_neg q6] at hf
    refine x_aload_n hc (xd dk_M_excusedAt 3 rfl) rfl rfl ?_
    refine x_get hc (ci := 6) (k := 1) fi_M (c_M hb _) rfl (by decide) rfl xw182 rfl (xd dk_M_excusedAt 4 rfl) ?_
    refine x_iload_n hc (xd dk_M_excusedAt 5 rfl) rfl rfl ?_
    by_cases q7 : xin p1 60 = true
    case neg => rw [if_neg q7] at hf; cases hf
    rw [if_pos q7] at hf
    refine x_iald hc (cA (xRd.ar hb 23 (by decide) rfl)) (xin_in q7) (xd dk_M_excusedAt 6 rfl) ?_
    refine x_goto hc (tgt := 17) (xd dk_M_excusedAt 7 rfl) rfl ?_
    cases hf
    exact x_ireturn hc (xd dk_M_excusedAt 9 rfl)
def f_M_isLoose (b : Nat) (p1 : Int32) (M : xMem) : Option (Int32 × xMem) :=
  (xbind (f_M_isThere p1 M) fun r5 M => if r5 = 0 then (some (0, M)) else (if xin p1 60 = true then if M.1 (b + 24) p1.toNatClampNeg = 0 then (some (0, M)) else (some (1, M)) else none))
set_option maxRecDepth 100000 in
set_option maxHeartbeats 400000 in
theorem s_M_isLoose {l : Launch} {G : xG} {Y : xY} {sz : Nat} {b : Nat} {p1 : Int32}  (hb : xRd Y b) {M M' : xMem} {r : Int32} (hf : f_M_isLoose b p1 M = some (r, M')) : xM l G y_M_isLoose c_M_isLoose 2 (some .boolean) 1 0 0 [.ref (b + 21), .int p1] (xo G Y M) sz (some (.int r)) (xo G Y M') sz := by
  unfold f_M_isLoose at hf
  refine xM.of (k := 0) (L0 := [some (.ref (b + 21)), some (.int p1)]) (by decide) (Nat.le_of_ble_eq_true rfl) rfl ?_
  intro p e s m args below meth c hc hnm
  have hR : xRm { frames := 1, cells := 0, slots := 0, locals := 48 * 1 } 1 := ⟨Nat.le_refl _, Nat.le_refl _⟩
  refine x_iload_n hc (xd dk_M_isLoose 0 rfl) rfl rfl ?_
  obtain ⟨r5, M, e6, hf⟩ := xbind_some hf
  refine x_callS hc (As := [.int p1]) (n := 1) (s_M_isThere e6) (hR.call (by decide) (by decide)) ⟨by decide, by decide, by decide⟩ rfl rfl xw470 xw7 xw468 xw469 (Nat.le_of_ble_eq_true rfl) ⟨Nat.zero_le _, Nat.zero_le _⟩ (xd dk_M_isLoose 1 rfl) ?_
  refine x_if_eq hc (tgt := 20) (xd dk_M_isLoose 2 rfl) rfl (fun q7 => ?_) (fun q7 => ?_)
  · rw [if_pos q7] at hf
    refine x_iconst hc (v := 0) (xd dk_M_isLoose 10 rfl) (by decide) ?_
    cases hf
    exact x_zreturn hc rfl (xd dk_M_isLoose 11 rfl)
  · rw [if_neg q7] at hf
    refine x_aload_n hc (xd dk_M_isLoose 3 rfl) rfl rfl ?_
    refine x_get hc (ci := 6) (k := 2) fi_M (c_M hb _) rfl (by decide) rfl xw183 rfl (xd dk_M_isLoose 4 rfl) ?_
    refine x_iload_n hc (xd dk_M_isLoose 5 rfl) rfl rfl ?_
    by_cases q8 : xin p1 60 = true
    case neg => rw [if_neg q8] at hf; cases hf
    rw [if_pos q8] at hf
    refine x_zald hc (cA (xRd.ar hb 24 (by decide) rfl)) (xin_in q8) (xd dk_M_isLoose 6 rfl) ?_
    refine x_if_eq hc (tgt := 20) (xd dk_M_isLoose 7 rfl) rfl (fun q9 => ?_) (fun q9 => ?_)
    · rw [if_pos q9] at hf
      refine x_iconst hc (v := 0) (xd dk_M_isLoose 10 rfl) (by decide) ?_
      cases hf
      exact x_zreturn hc rfl (xd dk_M_isLoose 11 rfl)
    · rw [if_neg q9] at hf
      refine x_iconst hc (v := 1) (xd dk_M_isLoose 8 rfl) (by decide) ?_
      refine x_goto hc (tgt := 21) (xd dk_M_isLoose 9 rfl) rfl ?_
      cases hf
      exact x_zreturn hc rfl (xd dk_M_isLoose 11 rfl)
def f_L_clear (b : Nat) (M : xMem) : Option (Unit × xMem) :=
  (xlet (wI M b 1 0) fun M => some ((), M))
set_option maxRecDepth 100000 in
set_option maxHeartbeats 400000 in
theorem s_L_clear {l : Launch} {G : xG} {Y : xY} {sz : Nat} {b : Nat}  (hb : xLt Y b) {M M' : xMem} {r : Unit} (hf : f_L_clear b M = some (r, M')) : xM l G y_L_clear c_L_clear 1 none 0 0 0 [.ref b] (xo G Y M) sz none (xo G Y M') sz := by
  unfold f_L_clear at hf
  refine xM.of (k := 0) (L0 := [some (.ref b)]) (by decide) (Nat.le_of_ble_eq_true rfl) rfl ?_
  intro p e s m args below meth c hc hnm
  have hR : xRm { frames := 0, cells := 0, slots := 0, locals := 48 * 0 } 0 := ⟨Nat.le_refl _, Nat.le_refl _⟩
  refine x_aload_n hc (xd dk_L_clear 0 rfl) rfl rfl ?_
  refine x_iconst hc (v := 0) (xd dk_L_clear 1 rfl) (by decide) ?_
  refine x_put hc (ci := 1) (k := 1) fi_L ft_L ft_L_ok fn_L (c_L hb _) rfl (by decide) rfl xw41 rfl rfl rfl (Nat.le_of_ble_eq_true rfl) (xd dk_L_clear 2 rfl) ?_
  rw [w_L_1 hb]
  replace hf := xlet_some hf
  generalize wI M b 1 0 = M at hf ⊢
  cases hf
  exact x_return hc (xd dk_L_clear 3 rfl)
def f_L_add (b : Nat) (p1 : Int32) (M : xMem) : Option (Unit × xMem) :=
  (if 160 ≤ M.1 b 1 then (some ((), M)) else (xval (M.1 b 1) fun x3 => if xin x3 160 = true then xlet (wI M (b + 1) x3.toNatClampNeg (vp_nar .char p1)) fun M => xval ((M.1 b 1) + 1) fun x5 => xlet (wI M b 1 x5) fun M => some ((), M) else none))
set_option maxRecDepth 100000 in
set_option maxHeartbeats 400000 in
theorem s_L_add {l : Launch} {G : xG} {Y : xY} {sz : Nat} {b : Nat} {p1 : Int32}  (hb : xLt Y b) {M M' : xMem} {r : Unit} (hf : f_L_add b p1 M = some (r, M')) : xM l G y_L_add c_L_add 2 none 0 0 0 [.ref b, .int p1] (xo G Y M) sz none (xo G Y M') sz := by
  unfold f_L_add at hf
  refine xM.of (k := 0) (L0 := [some (.ref b), some (.int p1)]) (by decide) (Nat.le_of_ble_eq_true rfl) rfl ?_
  intro p e s m args below meth c hc hnm
  have hR : xRm { frames := 0, cells := 0, slots := 0, locals := 48 * 0 } 0 := ⟨Nat.le_refl _, Nat.le_refl _⟩
  refine x_aload_n hc (xd dk_L_add 0 rfl) rfl rfl ?_
  refine x_get hc (ci := 1) (k := 1) fi_L (c_L hb _) rfl (by decide) rfl xw41 rfl (xd dk_L_add 1 rfl) ?_
  refine x_sipush hc (v := 160) (xd dk_L_add 2 rfl) (by decide) ?_
  refine x_icmp_ge hc (tgt := 30) (xd dk_L_add 3 rfl) rfl (fun q2 => ?_) (fun q2 => ?_)
  · rw [if_pos q2] at hf
    cases hf
    exact x_return hc (xd dk_L_add 16 rfl)
  · rw [if_neg q2] at hf
    refine x_aload_n hc (xd dk_L_add 4 rfl) rfl rfl ?_
    refine x_get hc (ci := 1) (k := 0) fi_L (c_L hb _) rfl (by decide) rfl xw40 rfl (xd dk_L_add 5 rfl) ?_
    refine x_aload_n hc (xd dk_L_add 6 rfl) rfl rfl ?_
    refine x_get hc (ci := 1) (k := 1) fi_L (c_L hb _) rfl (by decide) rfl xw41 rfl (xd dk_L_add 7 rfl) ?_
    refine x_iload_n hc (xd dk_L_add 8 rfl) rfl rfl ?_
    obtain ⟨x3, hx3, hf⟩ := xval_ex hf
    rw [← hx3]
    by_cases q4 : xin x3 160 = true
    case neg => rw [if_neg q4] at hf; cases hf
    rw [if_pos q4] at hf
    refine x_cast hc (cA (xLt.ar hb)) (xin_in q4) (xd dk_L_add 9 rfl) ?_
    rw [wA (xLt.ar hb)]
    replace hf := xlet_some hf
    generalize wI M (b + 1) x3.toNatClampNeg (vp_nar .char p1) = M at hf ⊢
    refine x_aload_n hc (xd dk_L_add 10 rfl) rfl rfl ?_
    refine x_dup hc (xd dk_L_add 11 rfl) rfl ?_
    refine x_get hc (ci := 1) (k := 1) fi_L (c_L hb _) rfl (by decide) rfl xw41 rfl (xd dk_L_add 12 rfl) ?_
    refine x_iconst hc (v := 1) (xd dk_L_add 13 rfl) (by decide) ?_
    refine x_iadd hc (xd dk_L_add 14 rfl) ?_
    obtain ⟨x5, hx5, hf⟩ := xval_ex hf
    rw [← hx5]
    refine x_put hc (ci := 1) (k := 1) fi_L ft_L ft_L_ok fn_L (c_L hb _) rfl (by decide) rfl xw41 rfl rfl rfl (Nat.le_of_ble_eq_true rfl) (xd dk_L_add 15 rfl) ?_
    rw [w_L_1 hb]
    replace hf := xlet_some hf
    generalize wI M b 1 x5 = M at hf ⊢
    cases hf
    exact x_return hc (xd dk_L_add 16 rfl)
def f_D_octet (p0 : Int64) (p2 : Int32) (M : xMem) : Option (Int32 × xMem) :=
  (some (((((p0.toUInt64 >>> ((8 * p2).toInt64.toUInt64 &&& Int64.toUInt64 63)).toInt64).toInt32) &&& 255), M))
set_option maxRecDepth 100000 in
set_option maxHeartbeats 400000 in
theorem s_D_octet {l : Launch} {G : xG} {Y : xY} {sz : Nat} {p0 : Int64} {p2 : Int32}   {M M' : xMem} {r : Int32} (hf : f_D_octet p0 p2 M = some (r, M')) : xM l G y_D_octet c_D_octet 3 (some .int) 0 0 0 [.long (p0), .int p2] (xo G Y M) sz (some (.int r)) (xo G Y M') sz := by
  unfold f_D_octet at hf
  refine xM.of (k := 0) (L0 := [some (.long (p0)), none, some (.int p2)]) (by decide) (Nat.le_of_ble_eq_true rfl) rfl ?_
  intro p e s m args below meth c hc hnm
  have hR : xRm { frames := 0, cells := 0, slots := 0, locals := 48 * 0 } 0 := ⟨Nat.le_refl _, Nat.le_refl _⟩
  refine x_lload_n hc (xd dk_D_octet 0 rfl) rfl rfl ?_
  refine x_bipush hc (v := 8) (xd dk_D_octet 1 rfl) (by decide) ?_
  refine x_iload_n hc (xd dk_D_octet 2 rfl) rfl rfl ?_
  refine x_imul hc (xd dk_D_octet 3 rfl) ?_
  refine x_lushr hc (xd dk_D_octet 4 rfl) rfl ?_
  refine x_l2i hc (xd dk_D_octet 5 rfl) rfl ?_
  refine x_sipush hc (v := 255) (xd dk_D_octet 6 rfl) (by decide) ?_
  refine x_iand hc (xd dk_D_octet 7 rfl) ?_
  cases hf
  exact x_ireturn hc (xd dk_D_octet 8 rfl)
def f_D_areLetters_37 (p0 : Int64) (p2 : Int32) (k2 : Int32 → xMem → Option (Int32 × xMem)) (v3 : Int32) (v4 : Int32) (M : xMem) : Option (Int32 × xMem) :=
  (k2 (v3 + Int32.ofInt 1) M)
def f_D_areLetters_2 (p0 : Int64) (p2 : Int32) : Nat → Int32 → xMem → Option (Int32 × xMem)
  | 0, _, _ => none
  | n + 1, v3, M =>
    (if p2 ≤ v3 then (some (1, M)) else (xbind (f_D_octet p0 v3 M) fun r6 M => if r6 = 10 then (f_D_areLetters_37 p0 p2 (f_D_areLetters_2 p0 p2 n) v3 r6 M) else (if r6 < 32 then (some (0, M)) else (if r6 ≤ 126 then (f_D_areLetters_37 p0 p2 (f_D_areLetters_2 p0 p2 n) v3 r6 M) else (some (0, M))))))
def f_D_areLetters (p0 : Int64) (p2 : Int32) (M : xMem) : Option (Int32 × xMem) :=
  (f_D_areLetters_2 p0 p2 xFuel 0 M)
set_option maxRecDepth 100000 in
set_option maxHeartbeats 400000 in
theorem s_D_areLetters_37 {p : Program} {l : Launch} {e : Env} {R : Room} {s : State} {m : MethodId} {args : Array Value} {below : List Frame} {meth : Method} {c : Code} {G : xG} {Y : xY} {sz : Nat} {p0 : Int64} {p2 : Int32}  (hc : xC p s m args meth c G 5 c_D_areLetters y_D_areLetters.cls (some .boolean)) (hR : xRm R 1)  {k2 : Int32 → xMem → Option (Int32 × xMem)} {M' : xMem} {r : Int32} (hk2 : ∀ (v3 : Int32) (M : xMem), k2 v3 M = some (r, M') → xW p l e R s m args below meth c G 5 (MQ below (xQc G (some (.int r)) (xo G Y M') sz) args s 0 0 (xA G)) (xo G Y M) sz 0 0 2 [some (.long (p0)), none, some (.int p2), some (.int v3), none] []) (v3 : Int32) (v4 : Int32) (M : xMem) (hf : f_D_areLetters_37 p0 p2 k2 v3 v4 M = some (r, M')) : xW p l e R s m args below meth c G 5 (MQ below (xQc G (some (.int r)) (xo G Y M') sz) args s 0 0 (xA G)) (xo G Y M) sz 0 0 37 [some (.long (p0)), none, some (.int p2), some (.int v3), some (.int v4)] [] := by
  unfold f_D_areLetters_37 at hf
  refine x_iinc hc (xd dk_D_areLetters 20 rfl) rfl (by decide) rfl ?_
  refine x_goto hc (tgt := 2) (xd dk_D_areLetters 21 rfl) rfl ?_
  refine x_drop 4 ?_
  exact hk2 (v3 + Int32.ofInt 1) M hf
set_option maxRecDepth 100000 in
set_option maxHeartbeats 400000 in
theorem s_D_areLetters_2 {p : Program} {l : Launch} {e : Env} {R : Room} {s : State} {m : MethodId} {args : Array Value} {below : List Frame} {meth : Method} {c : Code} {G : xG} {Y : xY} {sz : Nat} {p0 : Int64} {p2 : Int32}  (hc : xC p s m args meth c G 5 c_D_areLetters y_D_areLetters.cls (some .boolean)) (hR : xRm R 1)  {M' : xMem} {r : Int32} : ∀ (n : Nat) (v3 : Int32) (M : xMem), f_D_areLetters_2 p0 p2 n v3 M = some (r, M') → xW p l e R s m args below meth c G 5 (MQ below (xQc G (some (.int r)) (xo G Y M') sz) args s 0 0 (xA G)) (xo G Y M) sz 0 0 2 [some (.long (p0)), none, some (.int p2), some (.int v3), none] [] := by
  intro n
  induction n with
  | zero => intro v3 M hf; simp only [f_D_areLetters_2] at hf; cases hf
  | succ n ih =>
    intro v3 M hf
    simp only [f_D_areLetters_2] at hf
    refine x_iload_n hc (xd dk_D_areLetters 2 rfl) rfl rfl ?_
    refine x_iload_n hc (xd dk_D_areLetters 3 rfl) rfl rfl ?_
    refine x_icmp_ge hc (tgt := 43) (xd dk_D_areLetters 4 rfl) rfl (fun q5 => ?_) (fun q5 => ?_)
    · rw [if_pos q5] at hf
      refine x_iconst hc (v := 1) (xd dk_D_areLetters 22 rfl) (by decide) ?_
      cases hf
      exact x_zreturn hc rfl (xd dk_D_areLetters 23 rfl)
    · rw [if_neg q5] at hf
      refine x_lload_n hc (xd dk_D_areLetters 5 rfl) rfl rfl ?_
      refine x_iload_n hc (xd dk_D_areLetters 6 rfl) rfl rfl ?_
      obtain ⟨r6, M, e7, hf⟩ := xbind_some hf
      refine x_callS hc (As := [.long (p0), .int v3]) (n := 2) (s_D_octet e7) (hR.call (by decide) (by decide)) ⟨by decide, by decide, by decide⟩ rfl rfl xw812 xw1 xw810 xw811 (Nat.le_of_ble_eq_true rfl) ⟨Nat.zero_le _, Nat.zero_le _⟩ (xd dk_D_areLetters 7 rfl) ?_
      refine x_istore hc (xd dk_D_areLetters 8 rfl) (by decide) rfl ?_
      refine x_iload hc (xd dk_D_areLetters 9 rfl) rfl ?_
      refine x_bipush hc (v := 10) (xd dk_D_areLetters 10 rfl) (by decide) ?_
      refine x_icmp_eq hc (tgt := 37) (xd dk_D_areLetters 11 rfl) rfl (fun q8 => ?_) (fun q8 => ?_)
      · rw [if_pos q8] at hf
        exact s_D_areLetters_37 hc hR ih v3 r6 M hf
      · rw [if_neg q8] at hf
        refine x_iload hc (xd dk_D_areLetters 12 rfl) rfl ?_
        refine x_bipush hc (v := 32) (xd dk_D_areLetters 13 rfl) (by decide) ?_
        refine x_icmp_lt hc (tgt := 35) (xd dk_D_areLetters 14 rfl) rfl (fun q9 => ?_) (fun q9 => ?_)
        · rw [if_pos q9] at hf
          refine x_iconst hc (v := 0) (xd dk_D_areLetters 18 rfl) (by decide) ?_
          cases hf
          exact x_zreturn hc rfl (xd dk_D_areLetters 19 rfl)
        · rw [if_neg q9] at hf
          refine x_iload hc (xd dk_D_areLetters 15 rfl) rfl ?_
          refine x_bipush hc (v := 126) (xd dk_D_areLetters 16 rfl) (by decide) ?_
          refine x_icmp_le hc (tgt := 37) (xd dk_D_areLetters 17 rfl) rfl (fun q10 => ?_) (fun q10 => ?_)
          · rw [if_pos q10] at hf
            exact s_D_areLetters_37 hc hR ih v3 r6 M hf
          · rw [if_neg q10] at hf
            refine x_iconst hc (v := 0) (xd dk_D_areLetters 18 rfl) (by decide) ?_
            cases hf
            exact x_zreturn hc rfl (xd dk_D_areLetters 19 rfl)
set_option maxRecDepth 100000 in
set_option maxHeartbeats 400000 in
theorem s_D_areLetters {l : Launch} {G : xG} {Y : xY} {sz : Nat} {p0 : Int64} {p2 : Int32}   {M M' : xMem} {r : Int32} (hf : f_D_areLetters p0 p2 M = some (r, M')) : xM l G y_D_areLetters c_D_areLetters 5 (some .boolean) 1 0 0 [.long (p0), .int p2] (xo G Y M) sz (some (.int r)) (xo G Y M') sz := by
  unfold f_D_areLetters at hf
  refine xM.of (k := 2) (L0 := [some (.long (p0)), none, some (.int p2), none, none]) (by decide) (Nat.le_of_ble_eq_true rfl) rfl ?_
  intro p e s m args below meth c hc hnm
  have hR : xRm { frames := 1, cells := 0, slots := 0, locals := 48 * 1 } 1 := ⟨Nat.le_refl _, Nat.le_refl _⟩
  refine x_iconst hc (v := 0) (xd dk_D_areLetters 0 rfl) (by decide) ?_
  refine x_istore_n hc (xd dk_D_areLetters 1 rfl) (by decide) rfl ?_
  exact s_D_areLetters_2 hc hR xFuel 0 M hf
def f_G_isOn (b : Nat) (p1 : Int32) (M : xMem) : Option (Int32 × xMem) :=
  (if ((M.1 b 2) &&& (1 <<< (p1 &&& 31))) = 0 then (some (0, M)) else (some (1, M)))
set_option maxRecDepth 100000 in
set_option maxHeartbeats 400000 in
theorem s_G_isOn {l : Launch} {G : xG} {Y : xY} {sz : Nat} {b : Nat} {p1 : Int32}  (hb : xSg Y b) {M M' : xMem} {r : Int32} (hf : f_G_isOn b p1 M = some (r, M')) : xM l G y_G_isOn c_G_isOn 2 (some .boolean) 0 0 0 [.ref b, .int p1] (xo G Y M) sz (some (.int r)) (xo G Y M') sz := by
  unfold f_G_isOn at hf
  refine xM.of (k := 0) (L0 := [some (.ref b), some (.int p1)]) (by decide) (Nat.le_of_ble_eq_true rfl) rfl ?_
  intro p e s m args below meth c hc hnm
  have hR : xRm { frames := 0, cells := 0, slots := 0, locals := 48 * 0 } 0 := ⟨Nat.le_refl _, Nat.le_refl _⟩
  refine x_aload_n hc (xd dk_G_isOn 0 rfl) rfl rfl ?_
  refine x_get hc (ci := 2) (k := 2) fi_G (c_G hb _) rfl (by decide) rfl xw59 rfl (xd dk_G_isOn 1 rfl) ?_
  refine x_iconst hc (v := 1) (xd dk_G_isOn 2 rfl) (by decide) ?_
  refine x_iload_n hc (xd dk_G_isOn 3 rfl) rfl rfl ?_
  refine x_ishl hc (xd dk_G_isOn 4 rfl) ?_
  refine x_iand hc (xd dk_G_isOn 5 rfl) ?_
  refine x_if_eq hc (tgt := 15) (xd dk_G_isOn 6 rfl) rfl (fun q2 => ?_) (fun q2 => ?_)
  · rw [if_pos q2] at hf
    refine x_iconst hc (v := 0) (xd dk_G_isOn 9 rfl) (by decide) ?_
    cases hf
    exact x_zreturn hc rfl (xd dk_G_isOn 10 rfl)
  · rw [if_neg q2] at hf
    refine x_iconst hc (v := 1) (xd dk_G_isOn 7 rfl) (by decide) ?_
    refine x_goto hc (tgt := 16) (xd dk_G_isOn 8 rfl) rfl ?_
    cases hf
    exact x_zreturn hc rfl (xd dk_G_isOn 10 rfl)
def f_G_turn_26 (b : Nat) (p1 : Int32) (p2 : Int32) (w1 : Int32) (M : xMem) : Option (Unit × xMem) :=
  (xlet (wI M b 2 w1) fun M => some ((), M))
def f_G_turn (b : Nat) (p1 : Int32) (p2 : Int32) (M : xMem) : Option (Unit × xMem) :=
  (if p2 = 0 then (f_G_turn_26 b p1 p2 ((M.1 b 2) &&& ((1 <<< (p1 &&& 31)) ^^^ (-1))) M) else (f_G_turn_26 b p1 p2 ((M.1 b 2) ||| (1 <<< (p1 &&& 31))) M))
set_option maxRecDepth 100000 in
set_option maxHeartbeats 400000 in
theorem s_G_turn_26 {p : Program} {l : Launch} {e : Env} {R : Room} {s : State} {m : MethodId} {args : Array Value} {below : List Frame} {meth : Method} {c : Code} {G : xG} {Y : xY} {sz : Nat} {b : Nat} {p1 : Int32} {p2 : Int32}  (hc : xC p s m args meth c G 3 c_G_turn y_G_turn.cls none) (hR : xRm R 0) (hb : xSg Y b) {M' : xMem} {r : Unit} (w1 : Int32) (M : xMem) (hf : f_G_turn_26 b p1 p2 w1 M = some (r, M')) : xW p l e R s m args below meth c G 3 (MQ below (xQc G none (xo G Y M') sz) args s 0 0 (xA G)) (xo G Y M) sz 0 0 26 [some (.ref b), some (.int p1), some (.int p2)] [.int w1, .ref b] := by
  unfold f_G_turn_26 at hf
  refine x_put hc (ci := 2) (k := 2) fi_G ft_G ft_G_ok fn_G (c_G hb _) rfl (by decide) rfl xw59 rfl rfl rfl (Nat.le_of_ble_eq_true rfl) (xd dk_G_turn 18 rfl) ?_
  rw [w_G_2 hb]
  replace hf := xlet_some hf
  generalize wI M b 2 w1 = M at hf ⊢
  cases hf
  exact x_return hc (xd dk_G_turn 19 rfl)
set_option maxRecDepth 100000 in
set_option maxHeartbeats 400000 in
theorem s_G_turn {l : Launch} {G : xG} {Y : xY} {sz : Nat} {b : Nat} {p1 : Int32} {p2 : Int32}  (hb : xSg Y b) {M M' : xMem} {r : Unit} (hf : f_G_turn b p1 p2 M = some (r, M')) : xM l G y_G_turn c_G_turn 3 none 0 0 0 [.ref b, .int p1, .int p2] (xo G Y M) sz none (xo G Y M') sz := by
  unfold f_G_turn at hf
  refine xM.of (k := 0) (L0 := [some (.ref b), some (.int p1), some (.int p2)]) (by decide) (Nat.le_of_ble_eq_true rfl) rfl ?_
  intro p e s m args below meth c hc hnm
  have hR : xRm { frames := 0, cells := 0, slots := 0, locals := 48 * 0 } 0 := ⟨Nat.le_refl _, Nat.le_refl _⟩
  refine x_aload_n hc (xd dk_G_turn 0 rfl) rfl rfl ?_
  refine x_iload_n hc (xd dk_G_turn 1 rfl) rfl rfl ?_
  refine x_if_eq hc (tgt := 16) (xd dk_G_turn 2 rfl) rfl (fun q1 => ?_) (fun q1 => ?_)
  · rw [if_pos q1] at hf
    refine x_aload_n hc (xd dk_G_turn 10 rfl) rfl rfl ?_
    refine x_get hc (ci := 2) (k := 2) fi_G (c_G hb _) rfl (by decide) rfl xw59 rfl (xd dk_G_turn 11 rfl) ?_
    refine x_iconst hc (v := 1) (xd dk_G_turn 12 rfl) (by decide) ?_
    refine x_iload_n hc (xd dk_G_turn 13 rfl) rfl rfl ?_
    refine x_ishl hc (xd dk_G_turn 14 rfl) ?_
    refine x_iconst hc (v := (-1)) (xd dk_G_turn 15 rfl) (by decide) ?_
    refine x_ixor hc (xd dk_G_turn 16 rfl) ?_
    refine x_iand hc (xd dk_G_turn 17 rfl) ?_
    exact s_G_turn_26 hc hR hb ((M.1 b 2) &&& ((1 <<< (p1 &&& 31)) ^^^ (-1))) M hf
  · rw [if_neg q1] at hf
    refine x_aload_n hc (xd dk_G_turn 3 rfl) rfl rfl ?_
    refine x_get hc (ci := 2) (k := 2) fi_G (c_G hb _) rfl (by decide) rfl xw59 rfl (xd dk_G_turn 4 rfl) ?_
    refine x_iconst hc (v := 1) (xd dk_G_turn 5 rfl) (by decide) ?_
    refine x_iload_n hc (xd dk_G_turn 6 rfl) rfl rfl ?_
    refine x_ishl hc (xd dk_G_turn 7 rfl) ?_
    refine x_ior hc (xd dk_G_turn 8 rfl) ?_
    refine x_goto hc (tgt := 26) (xd dk_G_turn 9 rfl) rfl ?_
    exact s_G_turn_26 hc hR hb ((M.1 b 2) ||| (1 <<< (p1 &&& 31))) M hf
def f_D_firstOctets (p0 : Int64) (p2 : Int32) (M : xMem) : Option (Int64 × xMem) :=
  (if 8 ≤ p2 then (some (p0, M)) else (some ((p0 &&& ((1 <<< ((8 * p2).toInt64 &&& 63)) - 1)), M)))
set_option maxRecDepth 100000 in
set_option maxHeartbeats 400000 in
theorem s_D_firstOctets {l : Launch} {G : xG} {Y : xY} {sz : Nat} {p0 : Int64} {p2 : Int32}   {M M' : xMem} {r : Int64} (hf : f_D_firstOctets p0 p2 M = some (r, M')) : xM l G y_D_firstOctets c_D_firstOctets 3 (some .long) 0 0 0 [.long (p0), .int p2] (xo G Y M) sz (some (.long r)) (xo G Y M') sz := by
  unfold f_D_firstOctets at hf
  refine xM.of (k := 0) (L0 := [some (.long (p0)), none, some (.int p2)]) (by decide) (Nat.le_of_ble_eq_true rfl) rfl ?_
  intro p e s m args below meth c hc hnm
  have hR : xRm { frames := 0, cells := 0, slots := 0, locals := 48 * 0 } 0 := ⟨Nat.le_refl _, Nat.le_refl _⟩
  refine x_iload_n hc (xd dk_D_firstOctets 0 rfl) rfl rfl ?_
  refine x_bipush hc (v := 8) (xd dk_D_firstOctets 1 rfl) (by decide) ?_
  refine x_icmp_ge hc (tgt := 19) (xd dk_D_firstOctets 2 rfl) rfl (fun q1 => ?_) (fun q1 => ?_)
  · rw [if_pos q1] at hf
    refine x_lload_n hc (xd dk_D_firstOctets 13 rfl) rfl rfl ?_
    cases hf
    exact x_lreturn hc (xd dk_D_firstOctets 14 rfl)
  · rw [if_neg q1] at hf
    refine x_lload_n hc (xd dk_D_firstOctets 3 rfl) rfl rfl ?_
    refine x_lconst hc (v := 1) (xd dk_D_firstOctets 4 rfl) (by decide) ?_
    refine x_bipush hc (v := 8) (xd dk_D_firstOctets 5 rfl) (by decide) ?_
    refine x_iload_n hc (xd dk_D_firstOctets 6 rfl) rfl rfl ?_
    refine x_imul hc (xd dk_D_firstOctets 7 rfl) ?_
    refine x_lshl hc (xd dk_D_firstOctets 8 rfl) rfl ?_
    refine x_lconst hc (v := 1) (xd dk_D_firstOctets 9 rfl) (by decide) ?_
    refine x_lsub hc (xd dk_D_firstOctets 10 rfl) ?_
    refine x_land hc (xd dk_D_firstOctets 11 rfl) ?_
    refine x_goto hc (tgt := 20) (xd dk_D_firstOctets 12 rfl) rfl ?_
    cases hf
    exact x_lreturn hc (xd dk_D_firstOctets 14 rfl)
def f_D_isWord_44 (p0 : Int64) (p2 : Int32) (k15 : Int32 → xMem → Option (Int32 × xMem)) (v3 : Int32) (M : xMem) : Option (Int32 × xMem) :=
  (k15 (v3 + Int32.ofInt 1) M)
def f_D_isWord_15 (p0 : Int64) (p2 : Int32) : Nat → Int32 → xMem → Option (Int32 × xMem)
  | 0, _, _ => none
  | n + 1, v3, M =>
    (if p2 ≤ v3 then (some (1, M)) else (xbind (f_D_octet p0 v3 M) fun r17 M => xbind (f_D_isSmall r17 M) fun r19 M => if r19 = 0 then (xbind (f_D_octet p0 v3 M) fun r22 M => xbind (f_D_isDigit r22 M) fun r24 M => if r24 = 0 then (some (0, M)) else (f_D_isWord_44 p0 p2 (f_D_isWord_15 p0 p2 n) v3 M)) else (f_D_isWord_44 p0 p2 (f_D_isWord_15 p0 p2 n) v3 M)))
def f_D_isWord (p0 : Int64) (p2 : Int32) (M : xMem) : Option (Int32 × xMem) :=
  (xbind (f_D_octet p0 0 M) fun r27 M => xbind (f_D_isSmall r27 M) fun r29 M => if r29 = 0 then (some (0, M)) else (f_D_isWord_15 p0 p2 xFuel 1 M))
set_option maxRecDepth 100000 in
set_option maxHeartbeats 400000 in
theorem s_D_isWord_44 {p : Program} {l : Launch} {e : Env} {R : Room} {s : State} {m : MethodId} {args : Array Value} {below : List Frame} {meth : Method} {c : Code} {G : xG} {Y : xY} {sz : Nat} {p0 : Int64} {p2 : Int32}  (hc : xC p s m args meth c G 4 c_D_isWord y_D_isWord.cls (some .boolean)) (hR : xRm R 1)  {k15 : Int32 → xMem → Option (Int32 × xMem)} {M' : xMem} {r : Int32} (hk15 : ∀ (v3 : Int32) (M : xMem), k15 v3 M = some (r, M') → xW p l e R s m args below meth c G 4 (MQ below (xQc G (some (.int r)) (xo G Y M') sz) args s 0 0 (xA G)) (xo G Y M) sz 0 0 15 [some (.long (p0)), none, some (.int p2), some (.int v3)] []) (v3 : Int32) (M : xMem) (hf : f_D_isWord_44 p0 p2 k15 v3 M = some (r, M')) : xW p l e R s m args below meth c G 4 (MQ below (xQc G (some (.int r)) (xo G Y M') sz) args s 0 0 (xA G)) (xo G Y M) sz 0 0 44 [some (.long (p0)), none, some (.int p2), some (.int v3)] [] := by
  unfold f_D_isWord_44 at hf
  refine x_iinc hc (xd dk_D_isWord 24 rfl) rfl (by decide) rfl ?_
  refine x_goto hc (tgt := 15) (xd dk_D_isWord 25 rfl) rfl ?_
  exact hk15 (v3 + Int32.ofInt 1) M hf
set_option maxRecDepth 100000 in
set_option maxHeartbeats 400000 in
theorem s_D_isWord_15 {p : Program} {l : Launch} {e : Env} {R : Room} {s : State} {m : MethodId} {args : Array Value} {below : List Frame} {meth : Method} {c : Code} {G : xG} {Y : xY} {sz : Nat} {p0 : Int64} {p2 : Int32}  (hc : xC p s m args meth c G 4 c_D_isWord y_D_isWord.cls (some .boolean)) (hR : xRm R 1)  {M' : xMem} {r : Int32} : ∀ (n : Nat) (v3 : Int32) (M : xMem), f_D_isWord_15 p0 p2 n v3 M = some (r, M') → xW p l e R s m args below meth c G 4 (MQ below (xQc G (some (.int r)) (xo G Y M') sz) args s 0 0 (xA G)) (xo G Y M) sz 0 0 15 [some (.long (p0)), none, some (.int p2), some (.int v3)] [] := by
  intro n
  induction n with
  | zero => intro v3 M hf; simp only [f_D_isWord_15] at hf; cases hf
  | succ n ih =>
    intro v3 M hf
    simp only [f_D_isWord_15] at hf
    refine x_iload_n hc (xd dk_D_isWord 9 rfl) rfl rfl ?_
    refine x_iload_n hc (xd dk_D_isWord 10 rfl) rfl rfl ?_
    refine x_icmp_ge hc (tgt := 50) (xd dk_D_isWord 11 rfl) rfl (fun q16 => ?_) (fun q16 => ?_)
    · rw [if_pos q16] at hf
      refine x_iconst hc (v := 1) (xd dk_D_isWord 26 rfl) (by decide) ?_
      cases hf
      exact x_zreturn hc rfl (xd dk_D_isWord 27 rfl)
    · rw [if_neg q16] at hf
      refine x_lload_n hc (xd dk_D_isWord 12 rfl) rfl rfl ?_
      refine x_iload_n hc (xd dk_D_isWord 13 rfl) rfl rfl ?_
      obtain ⟨r17, M, e18, hf⟩ := xbind_some hf
      refine x_callS hc (As := [.long (p0), .int v3]) (n := 2) (s_D_octet e18) (hR.call (by decide) (by decide)) ⟨by decide, by decide, by decide⟩ rfl rfl xw812 xw1 xw810 xw811 (Nat.le_of_ble_eq_true rfl) ⟨Nat.zero_le _, Nat.zero_le _⟩ (xd dk_D_isWord 14 rfl) ?_
      obtain ⟨r19, M, e20, hf⟩ := xbind_some hf
      refine x_callS hc (As := [.int r17]) (n := 1) (s_D_isSmall e20) (hR.call (by decide) (by decide)) ⟨by decide, by decide, by decide⟩ rfl rfl xw318 xw1 xw948 xw317 (Nat.le_of_ble_eq_true rfl) ⟨Nat.zero_le _, Nat.zero_le _⟩ (xd dk_D_isWord 15 rfl) ?_
      refine x_if_ne hc (tgt := 44) (xd dk_D_isWord 16 rfl) rfl (fun q21 => ?_) (fun q21 => ?_)
      · rw [if_neg q21] at hf
        exact s_D_isWord_44 hc hR ih v3 M hf
      · rw [if_pos q21] at hf
        refine x_lload_n hc (xd dk_D_isWord 17 rfl) rfl rfl ?_
        refine x_iload_n hc (xd dk_D_isWord 18 rfl) rfl rfl ?_
        obtain ⟨r22, M, e23, hf⟩ := xbind_some hf
        refine x_callS hc (As := [.long (p0), .int v3]) (n := 2) (s_D_octet e23) (hR.call (by decide) (by decide)) ⟨by decide, by decide, by decide⟩ rfl rfl xw812 xw1 xw810 xw811 (Nat.le_of_ble_eq_true rfl) ⟨Nat.zero_le _, Nat.zero_le _⟩ (xd dk_D_isWord 19 rfl) ?_
        obtain ⟨r24, M, e25, hf⟩ := xbind_some hf
        refine x_callS hc (As := [.int r22]) (n := 1) (s_D_isDigit e25) (hR.call (by decide) (by decide)) ⟨by decide, by decide, by decide⟩ rfl rfl xw326 xw1 xw949 xw325 (Nat.le_of_ble_eq_true rfl) ⟨Nat.zero_le _, Nat.zero_le _⟩ (xd dk_D_isWord 20 rfl) ?_
        refine x_if_ne hc (tgt := 44) (xd dk_D_isWord 21 rfl) rfl (fun q26 => ?_) (fun q26 => ?_)
        · rw [if_neg q26] at hf
          exact s_D_isWord_44 hc hR ih v3 M hf
        · rw [if_pos q26] at hf
          refine x_iconst hc (v := 0) (xd dk_D_isWord 22 rfl) (by decide) ?_
          cases hf
          exact x_zreturn hc rfl (xd dk_D_isWord 23 rfl)
set_option maxRecDepth 100000 in
set_option maxHeartbeats 400000 in
theorem s_D_isWord {l : Launch} {G : xG} {Y : xY} {sz : Nat} {p0 : Int64} {p2 : Int32}   {M M' : xMem} {r : Int32} (hf : f_D_isWord p0 p2 M = some (r, M')) : xM l G y_D_isWord c_D_isWord 4 (some .boolean) 1 0 0 [.long (p0), .int p2] (xo G Y M) sz (some (.int r)) (xo G Y M') sz := by
  unfold f_D_isWord at hf
  refine xM.of (k := 1) (L0 := [some (.long (p0)), none, some (.int p2), none]) (by decide) (Nat.le_of_ble_eq_true rfl) rfl ?_
  intro p e s m args below meth c hc hnm
  have hR : xRm { frames := 1, cells := 0, slots := 0, locals := 48 * 1 } 1 := ⟨Nat.le_refl _, Nat.le_refl _⟩
  refine x_lload_n hc (xd dk_D_isWord 0 rfl) rfl rfl ?_
  refine x_iconst hc (v := 0) (xd dk_D_isWord 1 rfl) (by decide) ?_
  obtain ⟨r27, M, e28, hf⟩ := xbind_some hf
  refine x_callS hc (As := [.long (p0), .int 0]) (n := 2) (s_D_octet e28) (hR.call (by decide) (by decide)) ⟨by decide, by decide, by decide⟩ rfl rfl xw812 xw1 xw810 xw811 (Nat.le_of_ble_eq_true rfl) ⟨Nat.zero_le _, Nat.zero_le _⟩ (xd dk_D_isWord 2 rfl) ?_
  obtain ⟨r29, M, e30, hf⟩ := xbind_some hf
  refine x_callS hc (As := [.int r27]) (n := 1) (s_D_isSmall e30) (hR.call (by decide) (by decide)) ⟨by decide, by decide, by decide⟩ rfl rfl xw318 xw1 xw948 xw317 (Nat.le_of_ble_eq_true rfl) ⟨Nat.zero_le _, Nat.zero_le _⟩ (xd dk_D_isWord 3 rfl) ?_
  refine x_if_ne hc (tgt := 13) (xd dk_D_isWord 4 rfl) rfl (fun q31 => ?_) (fun q31 => ?_)
  · rw [if_neg q31] at hf
    refine x_iconst hc (v := 1) (xd dk_D_isWord 7 rfl) (by decide) ?_
    refine x_istore_n hc (xd dk_D_isWord 8 rfl) (by decide) rfl ?_
    exact s_D_isWord_15 hc hR xFuel 1 M hf
  · rw [if_pos q31] at hf
    refine x_iconst hc (v := 0) (xd dk_D_isWord 5 rfl) (by decide) ?_
    cases hf
    exact x_zreturn hc rfl (xd dk_D_isWord 6 rfl)
def f_G_addGiven (b : Nat) (p1 : Int64) (M : xMem) : Option (Unit × xMem) :=
  (if 8 ≤ M.1 b 1 then (some ((), M)) else (xval (M.1 b 1) fun x3 => if xin x3 8 = true then xlet (wJ M (b + 1) x3.toNatClampNeg p1) fun M => xval ((M.1 b 1) + 1) fun x5 => xlet (wI M b 1 x5) fun M => some ((), M) else none))
set_option maxRecDepth 100000 in
set_option maxHeartbeats 400000 in
theorem s_G_addGiven {l : Launch} {G : xG} {Y : xY} {sz : Nat} {b : Nat} {p1 : Int64}  (hb : xSg Y b) {M M' : xMem} {r : Unit} (hf : f_G_addGiven b p1 M = some (r, M')) : xM l G y_G_addGiven c_G_addGiven 3 none 0 0 0 [.ref b, .long (p1)] (xo G Y M) sz none (xo G Y M') sz := by
  unfold f_G_addGiven at hf
  refine xM.of (k := 0) (L0 := [some (.ref b), some (.long (p1)), none]) (by decide) (Nat.le_of_ble_eq_true rfl) rfl ?_
  intro p e s m args below meth c hc hnm
  have hR : xRm { frames := 0, cells := 0, slots := 0, locals := 48 * 0 } 0 := ⟨Nat.le_refl _, Nat.le_refl _⟩
  refine x_aload_n hc (xd dk_G_addGiven 0 rfl) rfl rfl ?_
  refine x_get hc (ci := 2) (k := 1) fi_G (c_G hb _) rfl (by decide) rfl xw57 rfl (xd dk_G_addGiven 1 rfl) ?_
  refine x_bipush hc (v := 8) (xd dk_G_addGiven 2 rfl) (by decide) ?_
  refine x_icmp_ge hc (tgt := 29) (xd dk_G_addGiven 3 rfl) rfl (fun q2 => ?_) (fun q2 => ?_)
  · rw [if_pos q2] at hf
    cases hf
    exact x_return hc (xd dk_G_addGiven 16 rfl)
  · rw [if_neg q2] at hf
    refine x_aload_n hc (xd dk_G_addGiven 4 rfl) rfl rfl ?_
    refine x_get hc (ci := 2) (k := 0) fi_G (c_G hb _) rfl (by decide) rfl xw56 rfl (xd dk_G_addGiven 5 rfl) ?_
    refine x_aload_n hc (xd dk_G_addGiven 6 rfl) rfl rfl ?_
    refine x_get hc (ci := 2) (k := 1) fi_G (c_G hb _) rfl (by decide) rfl xw57 rfl (xd dk_G_addGiven 7 rfl) ?_
    refine x_lload_n hc (xd dk_G_addGiven 8 rfl) rfl rfl ?_
    obtain ⟨x3, hx3, hf⟩ := xval_ex hf
    rw [← hx3]
    by_cases q4 : xin x3 8 = true
    case neg => rw [if_neg q4] at hf; cases hf
    rw [if_pos q4] at hf
    refine x_last hc (cJ (xSg.ar hb).1 (xSg.ar hb).2) (xin_in q4) (xd dk_G_addGiven 9 rfl) ?_
    rw [wAJ (xSg.ar hb).1 (xSg.ar hb).2]
    replace hf := xlet_some hf
    generalize wJ M (b + 1) x3.toNatClampNeg p1 = M at hf ⊢
    refine x_aload_n hc (xd dk_G_addGiven 10 rfl) rfl rfl ?_
    refine x_dup hc (xd dk_G_addGiven 11 rfl) rfl ?_
    refine x_get hc (ci := 2) (k := 1) fi_G (c_G hb _) rfl (by decide) rfl xw57 rfl (xd dk_G_addGiven 12 rfl) ?_
    refine x_iconst hc (v := 1) (xd dk_G_addGiven 13 rfl) (by decide) ?_
    refine x_iadd hc (xd dk_G_addGiven 14 rfl) ?_
    obtain ⟨x5, hx5, hf⟩ := xval_ex hf
    rw [← hx5]
    refine x_put hc (ci := 2) (k := 1) fi_G ft_G ft_G_ok fn_G (c_G hb _) rfl (by decide) rfl xw57 rfl rfl rfl (Nat.le_of_ble_eq_true rfl) (xd dk_G_addGiven 15 rfl) ?_
    rw [w_G_1 hb]
    replace hf := xlet_some hf
    generalize wI M b 1 x5 = M at hf ⊢
    cases hf
    exact x_return hc (xd dk_G_addGiven 16 rfl)
def f_L_behindBlanks_2 (b : Nat) (p1 : Int32) : Nat → Int32 → xMem → Option (Int32 × xMem)
  | 0, _, _ => none
  | n + 1, v2, M =>
    (if M.1 b 1 ≤ v2 then (some (v2, M)) else (xbind (f_L_at b v2 M) fun r10 M => xbind (f_D_isBlank r10 M) fun r12 M => if r12 = 0 then (some (v2, M)) else (f_L_behindBlanks_2 b p1 n (v2 + Int32.ofInt 1) M)))
def f_L_behindBlanks (b : Nat) (p1 : Int32) (M : xMem) : Option (Int32 × xMem) :=
  (f_L_behindBlanks_2 b p1 xFuel p1 M)
set_option maxRecDepth 100000 in
set_option maxHeartbeats 400000 in
theorem s_L_behindBlanks_2 {p : Program} {l : Launch} {e : Env} {R : Room} {s : State} {m : MethodId} {args : Array Value} {below : List Frame} {meth : Method} {c : Code} {G : xG} {Y : xY} {sz : Nat} {b : Nat} {p1 : Int32}  (hc : xC p s m args meth c G 3 c_L_behindBlanks y_L_behindBlanks.cls (some .int)) (hR : xRm R 1) (hb : xLt Y b) {M' : xMem} {r : Int32} : ∀ (n : Nat) (v2 : Int32) (M : xMem), f_L_behindBlanks_2 b p1 n v2 M = some (r, M') → xW p l e R s m args below meth c G 3 (MQ below (xQc G (some (.int r)) (xo G Y M') sz) args s 0 0 (xA G)) (xo G Y M) sz 0 0 2 [some (.ref b), some (.int p1), some (.int v2)] [] := by
  intro n
  induction n with
  | zero => intro v2 M hf; simp only [f_L_behindBlanks_2] at hf; cases hf
  | succ n ih =>
    intro v2 M hf
    simp only [f_L_behindBlanks_2] at hf
    refine x_iload_n hc (xd dk_L_behindBlanks 2 rfl) rfl rfl ?_
    refine x_aload_n hc (xd dk_L_behindBlanks 3 rfl) rfl rfl ?_
    refine x_get hc (ci := 1) (k := 1) fi_L (c_L hb _) rfl (by decide) rfl xw41 rfl (xd dk_L_behindBlanks 4 rfl) ?_
    refine x_icmp_ge hc (tgt := 27) (xd dk_L_behindBlanks 5 rfl) rfl (fun q9 => ?_) (fun q9 => ?_)
    · rw [if_pos q9] at hf
      refine x_iload_n hc (xd dk_L_behindBlanks 13 rfl) rfl rfl ?_
      cases hf
      exact x_ireturn hc (xd dk_L_behindBlanks 14 rfl)
    · rw [if_neg q9] at hf
      refine x_aload_n hc (xd dk_L_behindBlanks 6 rfl) rfl rfl ?_
      refine x_iload_n hc (xd dk_L_behindBlanks 7 rfl) rfl rfl ?_
      obtain ⟨r10, M, e11, hf⟩ := xbind_some hf
      refine x_callV hc (As := [.int v2]) (n := 1) (s_L_at hb e11) (c_L hb _) rfl (hR.call (by decide) (by decide)) ⟨by decide, by decide, by decide⟩ rfl rfl xw301 xw2 xw298 xw299 xw300 (Nat.le_of_ble_eq_true rfl) ⟨Nat.zero_le _, Nat.zero_le _⟩ (xd dk_L_behindBlanks 8 rfl) ?_
      obtain ⟨r12, M, e13, hf⟩ := xbind_some hf
      refine x_callSN hc (As := [.int r10]) (n := 1) (s_D_isBlank e13) (hR.call (by decide) (by decide)) ⟨by decide, by decide, by decide⟩ rfl rfl xw304 xw1 xn302 xw303 (Nat.le_of_ble_eq_true rfl) ⟨Nat.zero_le _, Nat.zero_le _⟩ (xd dk_L_behindBlanks 9 rfl) ?_
      refine x_if_eq hc (tgt := 27) (xd dk_L_behindBlanks 10 rfl) rfl (fun q14 => ?_) (fun q14 => ?_)
      · rw [if_pos q14] at hf
        refine x_iload_n hc (xd dk_L_behindBlanks 13 rfl) rfl rfl ?_
        cases hf
        exact x_ireturn hc (xd dk_L_behindBlanks 14 rfl)
      · rw [if_neg q14] at hf
        refine x_iinc hc (xd dk_L_behindBlanks 11 rfl) rfl (by decide) rfl ?_
        refine x_goto hc (tgt := 2) (xd dk_L_behindBlanks 12 rfl) rfl ?_
        exact ih (v2 + Int32.ofInt 1) M hf
set_option maxRecDepth 100000 in
set_option maxHeartbeats 400000 in
theorem s_L_behindBlanks {l : Launch} {G : xG} {Y : xY} {sz : Nat} {b : Nat} {p1 : Int32}  (hb : xLt Y b) {M M' : xMem} {r : Int32} (hf : f_L_behindBlanks b p1 M = some (r, M')) : xM l G y_L_behindBlanks c_L_behindBlanks 3 (some .int) 1 0 0 [.ref b, .int p1] (xo G Y M) sz (some (.int r)) (xo G Y M') sz := by
  unfold f_L_behindBlanks at hf
  refine xM.of (k := 1) (L0 := [some (.ref b), some (.int p1), none]) (by decide) (Nat.le_of_ble_eq_true rfl) rfl ?_
  intro p e s m args below meth c hc hnm
  have hR : xRm { frames := 1, cells := 0, slots := 0, locals := 48 * 1 } 1 := ⟨Nat.le_refl _, Nat.le_refl _⟩
  refine x_iload_n hc (xd dk_L_behindBlanks 0 rfl) rfl rfl ?_
  refine x_istore_n hc (xd dk_L_behindBlanks 1 rfl) (by decide) rfl ?_
  exact s_L_behindBlanks_2 hc hR hb xFuel p1 M hf
def f_L_behindWord_32 (b : Nat) (p1 : Int32) (k2 : Int32 → xMem → Option (Int32 × xMem)) (v2 : Int32) (M : xMem) : Option (Int32 × xMem) :=
  (k2 (v2 + Int32.ofInt 1) M)
def f_L_behindWord_2 (b : Nat) (p1 : Int32) : Nat → Int32 → xMem → Option (Int32 × xMem)
  | 0, _, _ => none
  | n + 1, v2, M =>
    (if M.1 b 1 ≤ v2 then (some (v2, M)) else (xbind (f_L_at b v2 M) fun r18 M => xbind (f_D_isSmall r18 M) fun r20 M => if r20 = 0 then (xbind (f_L_at b v2 M) fun r23 M => xbind (f_D_isDigit r23 M) fun r25 M => if r25 = 0 then (some (v2, M)) else (f_L_behindWord_32 b p1 (f_L_behindWord_2 b p1 n) v2 M)) else (f_L_behindWord_32 b p1 (f_L_behindWord_2 b p1 n) v2 M)))
def f_L_behindWord (b : Nat) (p1 : Int32) (M : xMem) : Option (Int32 × xMem) :=
  (f_L_behindWord_2 b p1 xFuel p1 M)
set_option maxRecDepth 100000 in
set_option maxHeartbeats 400000 in
theorem s_L_behindWord_32 {p : Program} {l : Launch} {e : Env} {R : Room} {s : State} {m : MethodId} {args : Array Value} {below : List Frame} {meth : Method} {c : Code} {G : xG} {Y : xY} {sz : Nat} {b : Nat} {p1 : Int32}  (hc : xC p s m args meth c G 3 c_L_behindWord y_L_behindWord.cls (some .int)) (hR : xRm R 1) (hb : xLt Y b) {k2 : Int32 → xMem → Option (Int32 × xMem)} {M' : xMem} {r : Int32} (hk2 : ∀ (v2 : Int32) (M : xMem), k2 v2 M = some (r, M') → xW p l e R s m args below meth c G 3 (MQ below (xQc G (some (.int r)) (xo G Y M') sz) args s 0 0 (xA G)) (xo G Y M) sz 0 0 2 [some (.ref b), some (.int p1), some (.int v2)] []) (v2 : Int32) (M : xMem) (hf : f_L_behindWord_32 b p1 k2 v2 M = some (r, M')) : xW p l e R s m args below meth c G 3 (MQ below (xQc G (some (.int r)) (xo G Y M') sz) args s 0 0 (xA G)) (xo G Y M) sz 0 0 32 [some (.ref b), some (.int p1), some (.int v2)] [] := by
  unfold f_L_behindWord_32 at hf
  refine x_iinc hc (xd dk_L_behindWord 16 rfl) rfl (by decide) rfl ?_
  refine x_goto hc (tgt := 2) (xd dk_L_behindWord 17 rfl) rfl ?_
  exact hk2 (v2 + Int32.ofInt 1) M hf
set_option maxRecDepth 100000 in
set_option maxHeartbeats 400000 in
theorem s_L_behindWord_2 {p : Program} {l : Launch} {e : Env} {R : Room} {s : State} {m : MethodId} {args : Array Value} {below : List Frame} {meth : Method} {c : Code} {G : xG} {Y : xY} {sz : Nat} {b : Nat} {p1 : Int32}  (hc : xC p s m args meth c G 3 c_L_behindWord y_L_behindWord.cls (some .int)) (hR : xRm R 1) (hb : xLt Y b) {M' : xMem} {r : Int32} : ∀ (n : Nat) (v2 : Int32) (M : xMem), f_L_behindWord_2 b p1 n v2 M = some (r, M') → xW p l e R s m args below meth c G 3 (MQ below (xQc G (some (.int r)) (xo G Y M') sz) args s 0 0 (xA G)) (xo G Y M) sz 0 0 2 [some (.ref b), some (.int p1), some (.int v2)] [] := by
  intro n
  induction n with
  | zero => intro v2 M hf; simp only [f_L_behindWord_2] at hf; cases hf
  | succ n ih =>
    intro v2 M hf
    simp only [f_L_behindWord_2] at hf
    refine x_iload_n hc (xd dk_L_behindWord 2 rfl) rfl rfl ?_
    refine x_aload_n hc (xd dk_L_behindWord 3 rfl) rfl rfl ?_
    refine x_get hc (ci := 1) (k := 1) fi_L (c_L hb _) rfl (by decide) rfl xw41 rfl (xd dk_L_behindWord 4 rfl) ?_
    refine x_icmp_ge hc (tgt := 38) (xd dk_L_behindWord 5 rfl) rfl (fun q17 => ?_) (fun q17 => ?_)
    · rw [if_pos q17] at hf
      refine x_iload_n hc (xd dk_L_behindWord 18 rfl) rfl rfl ?_
      cases hf
      exact x_ireturn hc (xd dk_L_behindWord 19 rfl)
    · rw [if_neg q17] at hf
      refine x_aload_n hc (xd dk_L_behindWord 6 rfl) rfl rfl ?_
      refine x_iload_n hc (xd dk_L_behindWord 7 rfl) rfl rfl ?_
      obtain ⟨r18, M, e19, hf⟩ := xbind_some hf
      refine x_callV hc (As := [.int v2]) (n := 1) (s_L_at hb e19) (c_L hb _) rfl (hR.call (by decide) (by decide)) ⟨by decide, by decide, by decide⟩ rfl rfl xw301 xw2 xw298 xw299 xw300 (Nat.le_of_ble_eq_true rfl) ⟨Nat.zero_le _, Nat.zero_le _⟩ (xd dk_L_behindWord 8 rfl) ?_
      obtain ⟨r20, M, e21, hf⟩ := xbind_some hf
      refine x_callSN hc (As := [.int r18]) (n := 1) (s_D_isSmall e21) (hR.call (by decide) (by decide)) ⟨by decide, by decide, by decide⟩ rfl rfl xw318 xw1 xn323 xw317 (Nat.le_of_ble_eq_true rfl) ⟨Nat.zero_le _, Nat.zero_le _⟩ (xd dk_L_behindWord 9 rfl) ?_
      refine x_if_ne hc (tgt := 32) (xd dk_L_behindWord 10 rfl) rfl (fun q22 => ?_) (fun q22 => ?_)
      · rw [if_neg q22] at hf
        exact s_L_behindWord_32 hc hR hb ih v2 M hf
      · rw [if_pos q22] at hf
        refine x_aload_n hc (xd dk_L_behindWord 11 rfl) rfl rfl ?_
        refine x_iload_n hc (xd dk_L_behindWord 12 rfl) rfl rfl ?_
        obtain ⟨r23, M, e24, hf⟩ := xbind_some hf
        refine x_callV hc (As := [.int v2]) (n := 1) (s_L_at hb e24) (c_L hb _) rfl (hR.call (by decide) (by decide)) ⟨by decide, by decide, by decide⟩ rfl rfl xw301 xw2 xw298 xw299 xw300 (Nat.le_of_ble_eq_true rfl) ⟨Nat.zero_le _, Nat.zero_le _⟩ (xd dk_L_behindWord 13 rfl) ?_
        obtain ⟨r25, M, e26, hf⟩ := xbind_some hf
        refine x_callSN hc (As := [.int r23]) (n := 1) (s_D_isDigit e26) (hR.call (by decide) (by decide)) ⟨by decide, by decide, by decide⟩ rfl rfl xw326 xw1 xn324 xw325 (Nat.le_of_ble_eq_true rfl) ⟨Nat.zero_le _, Nat.zero_le _⟩ (xd dk_L_behindWord 14 rfl) ?_
        refine x_if_eq hc (tgt := 38) (xd dk_L_behindWord 15 rfl) rfl (fun q27 => ?_) (fun q27 => ?_)
        · rw [if_pos q27] at hf
          refine x_iload_n hc (xd dk_L_behindWord 18 rfl) rfl rfl ?_
          cases hf
          exact x_ireturn hc (xd dk_L_behindWord 19 rfl)
        · rw [if_neg q27] at hf
          exact s_L_behindWord_32 hc hR hb ih v2 M hf
set_option maxRecDepth 100000 in
set_option maxHeartbeats 400000 in
theorem s_L_behindWord {l : Launch} {G : xG} {Y : xY} {sz : Nat} {b : Nat} {p1 : Int32}  (hb : xLt Y b) {M M' : xMem} {r : Int32} (hf : f_L_behindWord b p1 M = some (r, M')) : xM l G y_L_behindWord c_L_behindWord 3 (some .int) 1 0 0 [.ref b, .int p1] (xo G Y M) sz (some (.int r)) (xo G Y M') sz := by
  unfold f_L_behindWord at hf
  refine xM.of (k := 1) (L0 := [some (.ref b), some (.int p1), none]) (by decide) (Nat.le_of_ble_eq_true rfl) rfl ?_
  intro p e s m args below meth c hc hnm
  have hR : xRm { frames := 1, cells := 0, slots := 0, locals := 48 * 1 } 1 := ⟨Nat.le_refl _, Nat.le_refl _⟩
  refine x_iload_n hc (xd dk_L_behindWord 0 rfl) rfl rfl ?_
  refine x_istore_n hc (xd dk_L_behindWord 1 rfl) (by decide) rfl ?_
  exact s_L_behindWord_2 hc hR hb xFuel p1 M hf
def f_T_noteWord_118 (b : Nat) (k56 : Int32 → Int32 → xMem → Option (Unit × xMem)) (v1 : Int32) (v2 : Int32) (M : xMem) : Option (Unit × xMem) :=
  (k56 v1 (v2 + Int32.ofInt 1) M)
def f_T_noteWord_56 (b : Nat) : Nat → Int32 → Int32 → xMem → Option (Unit × xMem)
  | 0, _, _, _ => none
  | n + 1, v1, v2, M =>
    (if M.1 (b + 2) 6 ≤ v2 then (some ((), M)) else (if xin v2 61 = true then if xin v2 61 = true then if ((M.1 (b + 5) v2.toNatClampNeg) - (M.1 (b + 4) v2.toNatClampNeg)) = v1 then (if xin v2 61 = true then if xin (M.1 (b + 2) 6) 61 = true then xval (M.1 (b + 4) (M.1 (b + 2) 6).toNatClampNeg) fun x21 => xval (M.1 (b + 4) v2.toNatClampNeg) fun x22 => xbind (f_L_samePart b x22 x21 v1 M) fun r23 M => if r23 = 0 then (f_T_noteWord_118 b (f_T_noteWord_56 b n) v1 v2 M) else (xval (M.1 (b + 2) 6) fun x26 => if xin x26 61 = true then xlet (wI M (b + 7) x26.toNatClampNeg v2) fun M => some ((), M) else none) else none else none) else (f_T_noteWord_118 b (f_T_noteWord_56 b n) v1 v2 M) else none else none))
def f_T_noteWord (b : Nat) (M : xMem) : Option (Unit × xMem) :=
  (if xin (M.1 (b + 2) 6) 61 = true then if xin (M.1 (b + 2) 6) 61 = true then if xin (M.1 (b + 2) 6) 61 = true then if xin (M.1 (b + 2) 6) 61 = true then xval ((M.1 (b + 5) (M.1 (b + 2) 6).toNatClampNeg) - (M.1 (b + 4) (M.1 (b + 2) 6).toNatClampNeg)) fun x32 => xval (M.1 (b + 5) (M.1 (b + 2) 6).toNatClampNeg) fun x33 => xval (M.1 (b + 4) (M.1 (b + 2) 6).toNatClampNeg) fun x34 => xval (M.1 (b + 2) 6) fun x35 => xbind (f_L_octets b x34 x33 M) fun r36 M => if xin x35 61 = true then xlet (wJ M (b + 6) x35.toNatClampNeg r36) fun M => f_T_noteWord_56 b xFuel x32 0 M else none else none else none else none else none)
set_option maxRecDepth 100000 in
set_option maxHeartbeats 400000 in
theorem s_T_noteWord_118 {p : Program} {l : Launch} {e : Env} {R : Room} {s : State} {m : MethodId} {args : Array Value} {below : List Frame} {meth : Method} {c : Code} {G : xG} {Y : xY} {sz : Nat} {b : Nat}  (hc : xC p s m args meth c G 3 c_T_noteWord y_T_noteWord.cls none) (hR : xRm R 2) (hb : xRd Y b) {k56 : Int32 → Int32 → xMem → Option (Unit × xMem)} {M' : xMem} {r : Unit} (hk56 : ∀ (v1 : Int32) (v2 : Int32) (M : xMem), k56 v1 v2 M = some (r, M') → xW p l e R s m args below meth c G 3 (MQ below (xQc G none (xo G Y M') sz) args s 0 0 (xA G)) (xo G Y M) sz 0 0 56 [some (.ref (b + 2)), some (.int v1), some (.int v2)] []) (v1 : Int32) (v2 : Int32) (M : xMem) (hf : f_T_noteWord_118 b k56 v1 v2 M = some (r, M')) : xW p l e R s m args below meth c G 3 (MQ below (xQc G none (xo G Y M') sz) args s 0 0 (xA G)) (xo G Y M) sz 0 0 118 [some (.ref (b + 2)), some (.int v1), some (.int v2)] [] := by
  unfold f_T_noteWord_118 at hf
  refine x_iinc hc (xd dk_T_noteWord 68 rfl) rfl (by decide) rfl ?_
  refine x_goto hc (tgt := 56) (xd dk_T_noteWord 69 rfl) rfl ?_
  exact hk56 v1 (v2 + Int32.ofInt 1) M hf
set_option maxRecDepth 100000 in
set_option maxHeartbeats 400000 in
theorem s_T_noteWord_56 {p : Program} {l : Launch} {e : Env} {R : Room} {s : State} {m : MethodId} {args : Array Value} {below : List Frame} {meth : Method} {c : Code} {G : xG} {Y : xY} {sz : Nat} {b : Nat}  (hc : xC p s m args meth c G 3 c_T_noteWord y_T_noteWord.cls none) (hR : xRm R 2) (hb : xRd Y b) {M' : xMem} {r : Unit} : ∀ (n : Nat) (v1 : Int32) (v2 : Int32) (M : xMem), f_T_noteWord_56 b n v1 v2 M = some (r, M') → xW p l e R s m args below meth c G 3 (MQ below (xQc G none (xo G Y M') sz) args s 0 0 (xA G)) (xo G Y M) sz 0 0 56 [some (.ref (b + 2)), some (.int v1), some (.int v2)] [] := by
  intro n
  induction n with
  | zero => intro v1 v2 M hf; simp only [f_T_noteWord_56] at hf; cases hf
  | succ n ih =>
    intro v1 v2 M hf
    simp only [f_T_noteWord_56] at hf
    refine x_iload_n hc (xd dk_T_noteWord 32 rfl) rfl rfl ?_
    refine x_aload_n hc (xd dk_T_noteWord 33 rfl) rfl rfl ?_
    refine x_get hc (ci := 3) (k := 6) fi_T (c_T hb _) rfl (by decide) rfl xw85 rfl (xd dk_T_noteWord 34 rfl) ?_
    refine x_icmp_ge hc (tgt := 124) (xd dk_T_noteWord 35 rfl) rfl (fun q15 => ?_) (fun q15 => ?_)
    · rw [if_pos q15] at hf
      cases hf
      exact x_return hc (xd dk_T_noteWord 70 rfl)
    · rw [if_neg q15] at hf
      refine x_aload_n hc (xd dk_T_noteWord 36 rfl) rfl rfl ?_
      refine x_get hc (ci := 3) (k := 3) fi_T (c_T hb _) rfl (by decide) rfl xw82 rfl (xd dk_T_noteWord 37 rfl) ?_
      refine x_iload_n hc (xd dk_T_noteWord 38 rfl) rfl rfl ?_
      by_cases q16 : xin v2 61 = true
      case neg => rw [if_neg q16] at hf; cases hf
      rw [if_pos q16] at hf
      refine x_iald hc (cA (xRd.ar hb 5 (by decide) rfl)) (xin_in q16) (xd dk_T_noteWord 39 rfl) ?_
      refine x_aload_n hc (xd dk_T_noteWord 40 rfl) rfl rfl ?_
      refine x_get hc (ci := 3) (k := 2) fi_T (c_T hb _) rfl (by decide) rfl xw81 rfl (xd dk_T_noteWord 41 rfl) ?_
      refine x_iload_n hc (xd dk_T_noteWord 42 rfl) rfl rfl ?_
      by_cases q17 : xin v2 61 = true
      case neg => rw [if_neg q17] at hf; cases hf
      rw [if_pos q17] at hf
      refine x_iald hc (cA (xRd.ar hb 4 (by decide) rfl)) (xin_in q17) (xd dk_T_noteWord 43 rfl) ?_
      refine x_isub hc (xd dk_T_noteWord 44 rfl) ?_
      refine x_iload_n hc (xd dk_T_noteWord 45 rfl) rfl rfl ?_
      refine x_icmp_ne hc (tgt := 118) (xd dk_T_noteWord 46 rfl) rfl (fun q18 => ?_) (fun q18 => ?_)
      · rw [if_neg q18] at hf
        exact s_T_noteWord_118 hc hR hb ih v1 v2 M hf
      · rw [if_pos q18] at hf
        refine x_aload_n hc (xd dk_T_noteWord 47 rfl) rfl rfl ?_
        refine x_get hc (ci := 3) (k := 0) fi_T (c_T hb _) rfl (by decide) rfl xw79 rfl (xd dk_T_noteWord 48 rfl) ?_
        refine x_aload_n hc (xd dk_T_noteWord 49 rfl) rfl rfl ?_
        refine x_get hc (ci := 3) (k := 2) fi_T (c_T hb _) rfl (by decide) rfl xw81 rfl (xd dk_T_noteWord 50 rfl) ?_
        refine x_iload_n hc (xd dk_T_noteWord 51 rfl) rfl rfl ?_
        by_cases q19 : xin v2 61 = true
        case neg => rw [if_neg q19] at hf; cases hf
        rw [if_pos q19] at hf
        refine x_iald hc (cA (xRd.ar hb 4 (by decide) rfl)) (xin_in q19) (xd dk_T_noteWord 52 rfl) ?_
        refine x_aload_n hc (xd dk_T_noteWord 53 rfl) rfl rfl ?_
        refine x_get hc (ci := 3) (k := 2) fi_T (c_T hb _) rfl (by decide) rfl xw81 rfl (xd dk_T_noteWord 54 rfl) ?_
        refine x_aload_n hc (xd dk_T_noteWord 55 rfl) rfl rfl ?_
        refine x_get hc (ci := 3) (k := 6) fi_T (c_T hb _) rfl (by decide) rfl xw85 rfl (xd dk_T_noteWord 56 rfl) ?_
        by_cases q20 : xin (M.1 (b + 2) 6) 61 = true
        case neg => rw [if_neg q20] at hf; cases hf
        rw [if_pos q20] at hf
        refine x_iald hc (cA (xRd.ar hb 4 (by decide) rfl)) (xin_in q20) (xd dk_T_noteWord 57 rfl) ?_
        refine x_iload_n hc (xd dk_T_noteWord 58 rfl) rfl rfl ?_
        obtain ⟨x21, hx21, hf⟩ := xval_ex hf
        rw [← hx21]
        obtain ⟨x22, hx22, hf⟩ := xval_ex hf
        rw [← hx22]
        obtain ⟨r23, M, e24, hf⟩ := xbind_some hf
        refine x_callV hc (As := [.int x22, .int x21, .int v1]) (n := 3) (s_L_samePart hb.L e24) (c_L hb.L _) rfl (hR.call (by decide) (by decide)) ⟨by decide, by decide, by decide⟩ rfl rfl xw345 xw2 xw342 xw343 xw344 (Nat.le_of_ble_eq_true rfl) ⟨Nat.zero_le _, Nat.zero_le _⟩ (xd dk_T_noteWord 59 rfl) ?_
        refine x_if_eq hc (tgt := 118) (xd dk_T_noteWord 60 rfl) rfl (fun q25 => ?_) (fun q25 => ?_)
        · rw [if_pos q25] at hf
          exact s_T_noteWord_118 hc hR hb ih v1 v2 M hf
        · rw [if_neg q25] at hf
          refine x_aload_n hc (xd dk_T_noteWord 61 rfl) rfl rfl ?_
          refine x_get hc (ci := 3) (k := 5) fi_T (c_T hb _) rfl (by decide) rfl xw84 rfl (xd dk_T_noteWord 62 rfl) ?_
          refine x_aload_n hc (xd dk_T_noteWord 63 rfl) rfl rfl ?_
          refine x_get hc (ci := 3) (k := 6) fi_T (c_T hb _) rfl (by decide) rfl xw85 rfl (xd dk_T_noteWord 64 rfl) ?_
          refine x_iload_n hc (xd dk_T_noteWord 65 rfl) rfl rfl ?_
          obtain ⟨x26, hx26, hf⟩ := xval_ex hf
          rw [← hx26]
          by_cases q27 : xin x26 61 = true
          case neg => rw [if_neg q27] at hf; cases hf
          rw [if_pos q27] at hf
          refine x_iast hc (cA (xRd.ar hb 7 (by decide) rfl)) (xin_in q27) (xd dk_T_noteWord 66 rfl) ?_
          rw [wA (xRd.ar hb 7 (by decide) rfl)]
          replace hf := xlet_some hf
          generalize wI M (b + 7) x26.toNatClampNeg v2 = M at hf ⊢
          cases hf
          exact x_return hc (xd dk_T_noteWord 67 rfl)
set_option maxRecDepth 100000 in
set_option maxHeartbeats 400000 in
theorem s_T_noteWord {l : Launch} {G : xG} {Y : xY} {sz : Nat} {b : Nat}  (hb : xRd Y b) {M M' : xMem} {r : Unit} (hf : f_T_noteWord b M = some (r, M')) : xM l G y_T_noteWord c_T_noteWord 3 none 2 0 0 [.ref (b + 2)] (xo G Y M) sz none (xo G Y M') sz := by
  unfold f_T_noteWord at hf
  refine xM.of (k := 2) (L0 := [some (.ref (b + 2)), none, none]) (by decide) (Nat.le_of_ble_eq_true rfl) rfl ?_
  intro p e s m args below meth c hc hnm
  have hR : xRm { frames := 2, cells := 0, slots := 0, locals := 48 * 2 } 2 := ⟨Nat.le_refl _, Nat.le_refl _⟩
  refine x_aload_n hc (xd dk_T_noteWord 0 rfl) rfl rfl ?_
  refine x_get hc (ci := 3) (k := 3) fi_T (c_T hb _) rfl (by decide) rfl xw82 rfl (xd dk_T_noteWord 1 rfl) ?_
  refine x_aload_n hc (xd dk_T_noteWord 2 rfl) rfl rfl ?_
  refine x_get hc (ci := 3) (k := 6) fi_T (c_T hb _) rfl (by decide) rfl xw85 rfl (xd dk_T_noteWord 3 rfl) ?_
  by_cases q28 : xin (M.1 (b + 2) 6) 61 = true
  case neg => rw [if_neg q28] at hf; cases hf
  rw [if_pos q28] at hf
  refine x_iald hc (cA (xRd.ar hb 5 (by decide) rfl)) (xin_in q28) (xd dk_T_noteWord 4 rfl) ?_
  refine x_aload_n hc (xd dk_T_noteWord 5 rfl) rfl rfl ?_
  refine x_get hc (ci := 3) (k := 2) fi_T (c_T hb _) rfl (by decide) rfl xw81 rfl (xd dk_T_noteWord 6 rfl) ?_
  refine x_aload_n hc (xd dk_T_noteWord 7 rfl) rfl rfl ?_
  refine x_get hc (ci := 3) (k := 6) fi_T (c_T hb _) rfl (by decide) rfl xw85 rfl (xd dk_T_noteWord 8 rfl) ?_
  by_cases q29 : xin (M.1 (b + 2) 6) 61 = true
  case neg => rw [if_neg q29] at hf; cases hf
  rw [if_pos q29] at hf
  refine x_iald hc (cA (xRd.ar hb 4 (by decide) rfl)) (xin_in q29) (xd dk_T_noteWord 9 rfl) ?_
  refine x_isub hc (xd dk_T_noteWord 10 rfl) ?_
  refine x_istore_n hc (xd dk_T_noteWord 11 rfl) (by decide) rfl ?_
  refine x_aload_n hc (xd dk_T_noteWord 12 rfl) rfl rfl ?_
  refine x_get hc (ci := 3) (k := 4) fi_T (c_T hb _) rfl (by decide) rfl xw83 rfl (xd dk_T_noteWord 13 rfl) ?_
  refine x_aload_n hc (xd dk_T_noteWord 14 rfl) rfl rfl ?_
  refine x_get hc (ci := 3) (k := 6) fi_T (c_T hb _) rfl (by decide) rfl xw85 rfl (xd dk_T_noteWord 15 rfl) ?_
  refine x_aload_n hc (xd dk_T_noteWord 16 rfl) rfl rfl ?_
  refine x_get hc (ci := 3) (k := 0) fi_T (c_T hb _) rfl (by decide) rfl xw79 rfl (xd dk_T_noteWord 17 rfl) ?_
  refine x_aload_n hc (xd dk_T_noteWord 18 rfl) rfl rfl ?_
  refine x_get hc (ci := 3) (k := 2) fi_T (c_T hb _) rfl (by decide) rfl xw81 rfl (xd dk_T_noteWord 19 rfl) ?_
  refine x_aload_n hc (xd dk_T_noteWord 20 rfl) rfl rfl ?_
  refine x_get hc (ci := 3) (k := 6) fi_T (c_T hb _) rfl (by decide) rfl xw85 rfl (xd dk_T_noteWord 21 rfl) ?_
  by_cases q30 : xin (M.1 (b + 2) 6) 61 = true
  case neg => rw [if_neg q30] at hf; cases hf
  rw [if_pos q30] at hf
  refine x_iald hc (cA (xRd.ar hb 4 (by decide) rfl)) (xin_in q30) (xd dk_T_noteWord 22 rfl) ?_
  refine x_aload_n hc (xd dk_T_noteWord 23 rfl) rfl rfl ?_
  refine x_get hc (ci := 3) (k := 3) fi_T (c_T hb _) rfl (by decide) rfl xw82 rfl (xd dk_T_noteWord 24 rfl) ?_
  refine x_aload_n hc (xd dk_T_noteWord 25 rfl) rfl rfl ?_
  refine x_get hc (ci := 3) (k := 6) fi_T (c_T hb _) rfl (by decide) rfl xw85 rfl (xd dk_T_noteWord 26 rfl) ?_
  by_cases q31 : xin (M.1 (b + 2) 6) 61 = true
  case neg => rw [if_neg q31] at hf; cases hf
  rw [if_pos q31] at hf
  refine x_iald hc (cA (xRd.ar hb 5 (by decide) rfl)) (xin_in q31) (xd dk_T_noteWord 27 rfl) ?_
  obtain ⟨x32, hx32, hf⟩ := xval_ex hf
  rw [← hx32]
  obtain ⟨x33, hx33, hf⟩ := xval_ex hf
  rw [← hx33]
  obtain ⟨x34, hx34, hf⟩ := xval_ex hf
  rw [← hx34]
  obtain ⟨x35, hx35, hf⟩ := xval_ex hf
  rw [← hx35]
  obtain ⟨r36, M, e37, hf⟩ := xbind_some hf
  refine x_callV hc (As := [.int x34, .int x33]) (n := 2) (s_L_octets hb.L e37) (c_L hb.L _) rfl (hR.call (by decide) (by decide)) ⟨by decide, by decide, by decide⟩ rfl rfl xw330 xw2 xw327 xw328 xw329 (Nat.le_of_ble_eq_true rfl) ⟨Nat.zero_le _, Nat.zero_le _⟩ (xd dk_T_noteWord 28 rfl) ?_
  by_cases q38 : xin x35 61 = true
  case neg => rw [if_neg q38] at hf; cases hf
  rw [if_pos q38] at hf
  refine x_last hc (cJ (xRd.al hb 6 (by decide) rfl rfl).1 (xRd.al hb 6 (by decide) rfl rfl).2) (xin_in q38) (xd dk_T_noteWord 29 rfl) ?_
  rw [wAJ (xRd.al hb 6 (by decide) rfl rfl).1 (xRd.al hb 6 (by decide) rfl rfl).2]
  replace hf := xlet_some hf
  generalize wJ M (b + 6) x35.toNatClampNeg r36 = M at hf ⊢
  refine x_iconst hc (v := 0) (xd dk_T_noteWord 30 rfl) (by decide) ?_
  refine x_istore_n hc (xd dk_T_noteWord 31 rfl) (by decide) rfl ?_
  exact s_T_noteWord_56 hc hR hb xFuel x32 0 M hf
def f_B_clear (b : Nat) (M : xMem) : Option (Unit × xMem) :=
  (xbind (f_H_clear b M) fun r3 M => xlet (wI M (b + 25) 7 0) fun M => xlet (wI M (b + 25) 8 0) fun M => some ((), M))
set_option maxRecDepth 100000 in
set_option maxHeartbeats 400000 in
theorem s_B_clear {l : Launch} {G : xG} {Y : xY} {sz : Nat} {b : Nat}  (hb : xRd Y b) {M M' : xMem} {r : Unit} (hf : f_B_clear b M = some (r, M')) : xM l G y_B_clear c_B_clear 1 none 1 0 0 [.ref (b + 25)] (xo G Y M) sz none (xo G Y M') sz := by
  unfold f_B_clear at hf
  refine xM.of (k := 0) (L0 := [some (.ref (b + 25))]) (by decide) (Nat.le_of_ble_eq_true rfl) rfl ?_
  intro p e s m args below meth c hc hnm
  have hR : xRm { frames := 1, cells := 0, slots := 0, locals := 48 * 1 } 1 := ⟨Nat.le_refl _, Nat.le_refl _⟩
  refine x_aload_n hc (xd dk_B_clear 0 rfl) rfl rfl ?_
  refine x_get hc (ci := 7) (k := 2) fi_B (c_B hb _) rfl (by decide) rfl xw199 rfl (xd dk_B_clear 1 rfl) ?_
  obtain ⟨r3, M, e4, hf⟩ := xbind_some hf
  refine x_callV hc (As := []) (n := 0) (s_H_clear hb e4) (c_H hb _) rfl (hR.call (by decide) (by decide)) ⟨by decide, by decide, by decide⟩ rfl rfl xw441 xw6 xw438 xw439 xw440 (Nat.le_of_ble_eq_true rfl) ⟨Nat.zero_le _, Nat.zero_le _⟩ (xd dk_B_clear 2 rfl) ?_
  refine x_aload_n hc (xd dk_B_clear 3 rfl) rfl rfl ?_
  refine x_iconst hc (v := 0) (xd dk_B_clear 4 rfl) (by decide) ?_
  refine x_put hc (ci := 7) (k := 7) fi_B ft_B ft_B_ok fn_B (c_B hb _) rfl (by decide) rfl xw204 rfl rfl rfl (Nat.le_of_ble_eq_true rfl) (xd dk_B_clear 5 rfl) ?_
  rw [w_B_7 hb]
  replace hf := xlet_some hf
  generalize wI M (b + 25) 7 0 = M at hf ⊢
  refine x_aload_n hc (xd dk_B_clear 6 rfl) rfl rfl ?_
  refine x_iconst hc (v := 0) (xd dk_B_clear 7 rfl) (by decide) ?_
  refine x_put hc (ci := 7) (k := 8) fi_B ft_B ft_B_ok fn_B (c_B hb _) rfl (by decide) rfl xw205 rfl rfl rfl (Nat.le_of_ble_eq_true rfl) (xd dk_B_clear 8 rfl) ?_
  rw [w_B_8 hb]
  replace hf := xlet_some hf
  generalize wI M (b + 25) 8 0 = M at hf ⊢
  cases hf
  exact x_return hc (xd dk_B_clear 9 rfl)
def f_M_add (b : Nat) (p1 : Int32) (p2 : Int32) (M : xMem) : Option (Unit × xMem) :=
  (xbind (f_M_isThere p1 M) fun r5 M => if r5 = 0 then (some ((), M)) else (if xin p1 60 = true then xval ((M.1 (b + 22) p1.toNatClampNeg) ||| (1 <<< (p2 &&& 31))) fun x9 => if xin p1 60 = true then xlet (wI M (b + 22) p1.toNatClampNeg x9) fun M => some ((), M) else none else none))
set_option maxRecDepth 100000 in
set_option maxHeartbeats 400000 in
theorem s_M_add {l : Launch} {G : xG} {Y : xY} {sz : Nat} {b : Nat} {p1 : Int32} {p2 : Int32}  (hb : xRd Y b) {M M' : xMem} {r : Unit} (hf : f_M_add b p1 p2 M = some (r, M')) : xM l G y_M_add c_M_add 3 none 1 0 0 [.ref (b + 21), .int p1, .int p2] (xo G Y M) sz none (xo G Y M') sz := by
  unfold f_M_add at hf
  refine xM.of (k := 0) (L0 := [some (.ref (b + 21)), some (.int p1), some (.int p2)]) (by decide) (Nat.le_of_ble_eq_true rfl) rfl ?_
  intro p e s m args below meth c hc hnm
  have hR : xRm { frames := 1, cells := 0, slots := 0, locals := 48 * 1 } 1 := ⟨Nat.le_refl _, Nat.le_refl _⟩
  refine x_iload_n hc (xd dk_M_add 0 rfl) rfl rfl ?_
  obtain ⟨r5, M, e6, hf⟩ := xbind_some hf
  refine x_callS hc (As := [.int p1]) (n := 1) (s_M_isThere e6) (hR.call (by decide) (by decide)) ⟨by decide, by decide, by decide⟩ rfl rfl xw470 xw7 xw468 xw469 (Nat.le_of_ble_eq_true rfl) ⟨Nat.zero_le _, Nat.zero_le _⟩ (xd dk_M_add 1 rfl) ?_
  refine x_if_eq hc (tgt := 19) (xd dk_M_add 2 rfl) rfl (fun q7 => ?_) (fun q7 => ?_)
  · rw [if_pos q7] at hf
    cases hf
    exact x_return hc (xd dk_M_add 13 rfl)
  · rw [if_neg q7] at hf
    refine x_aload_n hc (xd dk_M_add 3 rfl) rfl rfl ?_
    refine x_get hc (ci := 6) (k := 0) fi_M (c_M hb _) rfl (by decide) rfl xw181 rfl (xd dk_M_add 4 rfl) ?_
    refine x_iload_n hc (xd dk_M_add 5 rfl) rfl rfl ?_
    refine x_dup2_11 hc (xd dk_M_add 6 rfl) rfl rfl ?_
    by_cases q8 : xin p1 60 = true
    case neg => rw [if_neg q8] at hf; cases hf
    rw [if_pos q8] at hf
    refine x_iald hc (cA (xRd.ar hb 22 (by decide) rfl)) (xin_in q8) (xd dk_M_add 7 rfl) ?_
    refine x_iconst hc (v := 1) (xd dk_M_add 8 rfl) (by decide) ?_
    refine x_iload_n hc (xd dk_M_add 9 rfl) rfl rfl ?_
    refine x_ishl hc (xd dk_M_add 10 rfl) ?_
    refine x_ior hc (xd dk_M_add 11 rfl) ?_
    obtain ⟨x9, hx9, hf⟩ := xval_ex hf
    rw [← hx9]
    by_cases q10 : xin p1 60 = true
    case neg => rw [if_neg q10] at hf; cases hf
    rw [if_pos q10] at hf
    refine x_iast hc (cA (xRd.ar hb 22 (by decide) rfl)) (xin_in q10) (xd dk_M_add 12 rfl) ?_
    rw [wA (xRd.ar hb 22 (by decide) rfl)]
    replace hf := xlet_some hf
    generalize wI M (b + 22) p1.toNatClampNeg x9 = M at hf ⊢
    cases hf
    exact x_return hc (xd dk_M_add 13 rfl)
def f_S_homeOf (b : Nat) (p1 : Int32) (M : xMem) : Option (Int32 × xMem) :=
  (xbind (f_S_isThere b p1 M) fun r4 M => if r4 = 0 then (some (0, M)) else (if xin p1 61 = true then some (M.1 (b + 10) p1.toNatClampNeg, M) else none))
set_option maxRecDepth 100000 in
set_option maxHeartbeats 400000 in
theorem s_S_homeOf {l : Launch} {G : xG} {Y : xY} {sz : Nat} {b : Nat} {p1 : Int32}  (hb : xRd Y b) {M M' : xMem} {r : Int32} (hf : f_S_homeOf b p1 M = some (r, M')) : xM l G y_S_homeOf c_S_homeOf 2 (some .int) 1 0 0 [.ref (b + 8), .int p1] (xo G Y M) sz (some (.int r)) (xo G Y M') sz := by
  unfold f_S_homeOf at hf
  refine xM.of (k := 0) (L0 := [some (.ref (b + 8)), some (.int p1)]) (by decide) (Nat.le_of_ble_eq_true rfl) rfl ?_
  intro p e s m args below meth c hc hnm
  have hR : xRm { frames := 1, cells := 0, slots := 0, locals := 48 * 1 } 1 := ⟨Nat.le_refl _, Nat.le_refl _⟩
  refine x_aload_n hc (xd dk_S_homeOf 0 rfl) rfl rfl ?_
  refine x_iload_n hc (xd dk_S_homeOf 1 rfl) rfl rfl ?_
  obtain ⟨r4, M, e5, hf⟩ := xbind_some hf
  refine x_callV hc (As := [.int p1]) (n := 1) (s_S_isThere hb e5) (c_S hb _) rfl (hR.call (by decide) (by decide)) ⟨by decide, by decide, by decide⟩ rfl rfl xw501 xw5 xw498 xw500 xs_S_isThere (Nat.le_of_ble_eq_true rfl) ⟨Nat.zero_le _, Nat.zero_le _⟩ (xd dk_S_homeOf 2 rfl) ?_
  refine x_if_eq hc (tgt := 17) (xd dk_S_homeOf 3 rfl) rfl (fun q6 => ?_) (fun q6 => ?_)
  · rw [if_pos q6] at hf
    refine x_iconst hc (v := 0) (xd dk_S_homeOf 9 rfl) (by decide) ?_
    cases hf
    exact x_ireturn hc (xd dk_S_homeOf 10 rfl)
  · rw [if_neg q6] at hf
    refine x_aload_n hc (xd dk_S_homeOf 4 rfl) rfl rfl ?_
    refine x_get hc (ci := 4) (k := 1) fi_S (c_S hb _) rfl (by decide) rfl xw111 rfl (xd dk_S_homeOf 5 rfl) ?_
    refine x_iload_n hc (xd dk_S_homeOf 6 rfl) rfl rfl ?_
    by_cases q7 : xin p1 61 = true
    case neg => rw [if_neg q7] at hf; cases hf
    rw [if_pos q7] at hf
    refine x_iald hc (cA (xRd.ar hb 10 (by decide) rfl)) (xin_in q7) (xd dk_S_homeOf 7 rfl) ?_
    refine x_goto hc (tgt := 18) (xd dk_S_homeOf 8 rfl) rfl ?_
    cases hf
    exact x_ireturn hc (xd dk_S_homeOf 10 rfl)
def f_T_wordOf (b : Nat) (p1 : Int32) (M : xMem) : Option (Int32 × xMem) :=
  (xbind (f_T_isThere b p1 M) fun r4 M => if r4 = 0 then (some (p1, M)) else (if xin p1 61 = true then some (M.1 (b + 7) p1.toNatClampNeg, M) else none))
set_option maxRecDepth 100000 in
set_option maxHeartbeats 400000 in
theorem s_T_wordOf {l : Launch} {G : xG} {Y : xY} {sz : Nat} {b : Nat} {p1 : Int32}  (hb : xRd Y b) {M M' : xMem} {r : Int32} (hf : f_T_wordOf b p1 M = some (r, M')) : xM l G y_T_wordOf c_T_wordOf 2 (some .int) 1 0 0 [.ref (b + 2), .int p1] (xo G Y M) sz (some (.int r)) (xo G Y M') sz := by
  unfold f_T_wordOf at hf
  refine xM.of (k := 0) (L0 := [some (.ref (b + 2)), some (.int p1)]) (by decide) (Nat.le_of_ble_eq_true rfl) rfl ?_
  intro p e s m args below meth c hc hnm
  have hR : xRm { frames := 1, cells := 0, slots := 0, locals := 48 * 1 } 1 := ⟨Nat.le_refl _, Nat.le_refl _⟩
  refine x_aload_n hc (xd dk_T_wordOf 0 rfl) rfl rfl ?_
  refine x_iload_n hc (xd dk_T_wordOf 1 rfl) rfl rfl ?_
  obtain ⟨r4, M, e5, hf⟩ := xbind_some hf
  refine x_callV hc (As := [.int p1]) (n := 1) (s_T_isThere hb e5) (c_T hb _) rfl (hR.call (by decide) (by decide)) ⟨by decide, by decide, by decide⟩ rfl rfl xw513 xw4 xw510 xw512 xs_T_isThere (Nat.le_of_ble_eq_true rfl) ⟨Nat.zero_le _, Nat.zero_le _⟩ (xd dk_T_wordOf 2 rfl) ?_
  refine x_if_eq hc (tgt := 17) (xd dk_T_wordOf 3 rfl) rfl (fun q6 => ?_) (fun q6 => ?_)
  · rw [if_pos q6] at hf
    refine x_iload_n hc (xd dk_T_wordOf 9 rfl) rfl rfl ?_
    cases hf
    exact x_ireturn hc (xd dk_T_wordOf 10 rfl)
  · rw [if_neg q6] at hf
    refine x_aload_n hc (xd dk_T_wordOf 4 rfl) rfl rfl ?_
    refine x_get hc (ci := 3) (k := 5) fi_T (c_T hb _) rfl (by decide) rfl xw84 rfl (xd dk_T_wordOf 5 rfl) ?_
    refine x_iload_n hc (xd dk_T_wordOf 6 rfl) rfl rfl ?_
    by_cases q7 : xin p1 61 = true
    case neg => rw [if_neg q7] at hf; cases hf
    rw [if_pos q7] at hf
    refine x_iald hc (cA (xRd.ar hb 7 (by decide) rfl)) (xin_in q7) (xd dk_T_wordOf 7 rfl) ?_
    refine x_goto hc (tgt := 18) (xd dk_T_wordOf 8 rfl) rfl ?_
    cases hf
    exact x_ireturn hc (xd dk_T_wordOf 10 rfl)
def f_B_seenFrom_12 (b : Nat) (p1 : Int32) (p2 : Int32) : Nat → Int32 → Int32 → xMem → Option (Int32 × xMem)
  | 0, _, _, _ => none
  | n + 1, v3, v4, M =>
    (if v4 < 0 then (some ((-1), M)) else (xbind (f_H_inScope b v3 p2 M) fun r12 M => if r12 < 0 then (xbind (f_S_aroundOf b v3 M) fun r15 M => f_B_seenFrom_12 b p1 p2 n r15 (v4 + Int32.ofInt (-1)) M) else (some (r12, M))))
def f_B_seenFrom (b : Nat) (p1 : Int32) (p2 : Int32) (M : xMem) : Option (Int32 × xMem) :=
  (xbind (f_S_levelOf b p1 M) fun r17 M => f_B_seenFrom_12 b p1 p2 xFuel p1 r17 M)
set_option maxRecDepth 100000 in
set_option maxHeartbeats 400000 in
theorem s_B_seenFrom_12 {p : Program} {l : Launch} {e : Env} {R : Room} {s : State} {m : MethodId} {args : Array Value} {below : List Frame} {meth : Method} {c : Code} {G : xG} {Y : xY} {sz : Nat} {b : Nat} {p1 : Int32} {p2 : Int32}  (hc : xC p s m args meth c G 6 c_B_seenFrom y_B_seenFrom.cls (some .int)) (hR : xRm R 2) (hb : xRd Y b) {M' : xMem} {r : Int32} : ∀ (n : Nat) (v3 : Int32) (v4 : Int32) (M : xMem), f_B_seenFrom_12 b p1 p2 n v3 v4 M = some (r, M') → xW p l e R s m args below meth c G 6 (MQ below (xQc G (some (.int r)) (xo G Y M') sz) args s 0 0 (xA G)) (xo G Y M) sz 0 0 12 [some (.ref (b + 25)), some (.int p1), some (.int p2), some (.int v3), some (.int v4), none] [] := by
  intro n
  induction n with
  | zero => intro v3 v4 M hf; simp only [f_B_seenFrom_12] at hf; cases hf
  | succ n ih =>
    intro v3 v4 M hf
    simp only [f_B_seenFrom_12] at hf
    refine x_iload hc (xd dk_B_seenFrom 7 rfl) rfl ?_
    refine x_if_lt hc (tgt := 51) (xd dk_B_seenFrom 8 rfl) rfl (fun q11 => ?_) (fun q11 => ?_)
    · rw [if_pos q11] at hf
      refine x_iconst hc (v := (-1)) (xd dk_B_seenFrom 26 rfl) (by decide) ?_
      cases hf
      exact x_ireturn hc (xd dk_B_seenFrom 27 rfl)
    · rw [if_neg q11] at hf
      refine x_aload_n hc (xd dk_B_seenFrom 9 rfl) rfl rfl ?_
      refine x_get hc (ci := 7) (k := 2) fi_B (c_B hb _) rfl (by decide) rfl xw199 rfl (xd dk_B_seenFrom 10 rfl) ?_
      refine x_iload_n hc (xd dk_B_seenFrom 11 rfl) rfl rfl ?_
      refine x_iload_n hc (xd dk_B_seenFrom 12 rfl) rfl rfl ?_
      obtain ⟨r12, M, e13, hf⟩ := xbind_some hf
      refine x_callV hc (As := [.int v3, .int p2]) (n := 2) (s_H_inScope hb e13) (c_H hb _) rfl (hR.call (by decide) (by decide)) ⟨by decide, by decide, by decide⟩ rfl rfl xw517 xw6 xw514 xw515 xw516 (Nat.le_of_ble_eq_true rfl) ⟨Nat.zero_le _, Nat.zero_le _⟩ (xd dk_B_seenFrom 13 rfl) ?_
      refine x_istore hc (xd dk_B_seenFrom 14 rfl) (by decide) rfl ?_
      refine x_iload hc (xd dk_B_seenFrom 15 rfl) rfl ?_
      refine x_if_lt hc (tgt := 36) (xd dk_B_seenFrom 16 rfl) rfl (fun q14 => ?_) (fun q14 => ?_)
      · rw [if_pos q14] at hf
        refine x_aload_n hc (xd dk_B_seenFrom 19 rfl) rfl rfl ?_
        refine x_get hc (ci := 7) (k := 1) fi_B (c_B hb _) rfl (by decide) rfl xw198 rfl (xd dk_B_seenFrom 20 rfl) ?_
        refine x_iload_n hc (xd dk_B_seenFrom 21 rfl) rfl rfl ?_
        obtain ⟨r15, M, e16, hf⟩ := xbind_some hf
        refine x_callV hc (As := [.int v3]) (n := 1) (s_S_aroundOf hb e16) (c_S hb _) rfl (hR.call (by decide) (by decide)) ⟨by decide, by decide, by decide⟩ rfl rfl xw656 xw5 xw653 xw654 xw655 (Nat.le_of_ble_eq_true rfl) ⟨Nat.zero_le _, Nat.zero_le _⟩ (xd dk_B_seenFrom 22 rfl) ?_
        refine x_istore_n hc (xd dk_B_seenFrom 23 rfl) (by decide) rfl ?_
        refine x_iinc hc (xd dk_B_seenFrom 24 rfl) rfl (by decide) rfl ?_
        refine x_goto hc (tgt := 12) (xd dk_B_seenFrom 25 rfl) rfl ?_
        refine x_drop 5 ?_
        exact ih r15 (v4 + Int32.ofInt (-1)) M hf
      · rw [if_neg q14] at hf
        refine x_iload hc (xd dk_B_seenFrom 17 rfl) rfl ?_
        cases hf
        exact x_ireturn hc (xd dk_B_seenFrom 18 rfl)
set_option maxRecDepth 100000 in
set_option maxHeartbeats 400000 in
theorem s_B_seenFrom {l : Launch} {G : xG} {Y : xY} {sz : Nat} {b : Nat} {p1 : Int32} {p2 : Int32}  (hb : xRd Y b) {M M' : xMem} {r : Int32} (hf : f_B_seenFrom b p1 p2 M = some (r, M')) : xM l G y_B_seenFrom c_B_seenFrom 6 (some .int) 2 0 0 [.ref (b + 25), .int p1, .int p2] (xo G Y M) sz (some (.int r)) (xo G Y M') sz := by
  unfold f_B_seenFrom at hf
  refine xM.of (k := 3) (L0 := [some (.ref (b + 25)), some (.int p1), some (.int p2), none, none, none]) (by decide) (Nat.le_of_ble_eq_true rfl) rfl ?_
  intro p e s m args below meth c hc hnm
  have hR : xRm { frames := 2, cells := 0, slots := 0, locals := 48 * 2 } 2 := ⟨Nat.le_refl _, Nat.le_refl _⟩
  refine x_iload_n hc (xd dk_B_seenFrom 0 rfl) rfl rfl ?_
  refine x_istore_n hc (xd dk_B_seenFrom 1 rfl) (by decide) rfl ?_
  refine x_aload_n hc (xd dk_B_seenFrom 2 rfl) rfl rfl ?_
  refine x_get hc (ci := 7) (k := 1) fi_B (c_B hb _) rfl (by decide) rfl xw198 rfl (xd dk_B_seenFrom 3 rfl) ?_
  refine x_iload_n hc (xd dk_B_seenFrom 4 rfl) rfl rfl ?_
  obtain ⟨r17, M, e18, hf⟩ := xbind_some hf
  refine x_callV hc (As := [.int p1]) (n := 1) (s_S_levelOf hb e18) (c_S hb _) rfl (hR.call (by decide) (by decide)) ⟨by decide, by decide, by decide⟩ rfl rfl xw652 xw5 xw649 xw650 xw651 (Nat.le_of_ble_eq_true rfl) ⟨Nat.zero_le _, Nat.zero_le _⟩ (xd dk_B_seenFrom 5 rfl) ?_
  refine x_istore hc (xd dk_B_seenFrom 6 rfl) (by decide) rfl ?_
  exact s_B_seenFrom_12 hc hR hb xFuel p1 r17 M hf
def f_B_isEarly_30 (b : Nat) (p1 : Int32) (p2 : Int32) (w0 : Int32) (M : xMem) : Option (Int32 × xMem) :=
  (if w0 = 0 then (some (0, M)) else (if xin p1 60 = true then if xin p2 60 = true then if M.1 (b + 13) p2.toNatClampNeg ≤ M.1 (b + 26) p1.toNatClampNeg then (some (0, M)) else (if xin p1 60 = true then xval (M.1 (b + 27) p1.toNatClampNeg) fun x17 => xbind (f_S_homeOf b x17 M) fun r18 M => if xin p2 60 = true then xval (M.1 (b + 16) p2.toNatClampNeg) fun x21 => xbind (f_S_homeOf b x21 M) fun r22 M => if r18 = r22 then (some (1, M)) else (some (0, M)) else none else none) else none else none))
def f_B_isEarly_25 (b : Nat) (p1 : Int32) (p2 : Int32) (M : xMem) : Option (Int32 × xMem) :=
  (f_B_isEarly_30 b p1 p2 1 M)
def f_B_isEarly (b : Nat) (p1 : Int32) (p2 : Int32) (M : xMem) : Option (Int32 × xMem) :=
  (if xin p2 60 = true then if M.1 (b + 15) p2.toNatClampNeg = 0 then (f_B_isEarly_25 b p1 p2 M) else (if xin p2 60 = true then if M.1 (b + 15) p2.toNatClampNeg = 1 then (f_B_isEarly_25 b p1 p2 M) else (f_B_isEarly_30 b p1 p2 0 M) else none) else none)
set_option maxRecDepth 100000 in
set_option maxHeartbeats 400000 in
theorem s_B_isEarly_30 {p : Program} {l : Launch} {e : Env} {R : Room} {s : State} {m : MethodId} {args : Array Value} {below : List Frame} {meth : Method} {c : Code} {G : xG} {Y : xY} {sz : Nat} {b : Nat} {p1 : Int32} {p2 : Int32}  (hc : xC p s m args meth c G 4 c_B_isEarly y_B_isEarly.cls (some .boolean)) (hR : xRm R 2) (hb : xRd Y b) {M' : xMem} {r : Int32} (w0 : Int32) (M : xMem) (hf : f_B_isEarly_30 b p1 p2 w0 M = some (r, M')) : xW p l e R s m args below meth c G 4 (MQ below (xQc G (some (.int r)) (xo G Y M') sz) args s 0 0 (xA G)) (xo G Y M) sz 0 0 30 [some (.ref (b + 25)), some (.int p1), some (.int p2), none] [.int w0] := by
  unfold f_B_isEarly_30 at hf
  refine x_istore_n hc (xd dk_B_isEarly 16 rfl) (by decide) rfl ?_
  refine x_iload_n hc (xd dk_B_isEarly 17 rfl) rfl rfl ?_
  refine x_if_eq hc (tgt := 89) (xd dk_B_isEarly 18 rfl) rfl (fun q12 => ?_) (fun q12 => ?_)
  · rw [if_pos q12] at hf
    refine x_iconst hc (v := 0) (xd dk_B_isEarly 47 rfl) (by decide) ?_
    cases hf
    exact x_zreturn hc rfl (xd dk_B_isEarly 48 rfl)
  · rw [if_neg q12] at hf
    refine x_aload_n hc (xd dk_B_isEarly 19 rfl) rfl rfl ?_
    refine x_get hc (ci := 7) (k := 4) fi_B (c_B hb _) rfl (by decide) rfl xw201 rfl (xd dk_B_isEarly 20 rfl) ?_
    refine x_iload_n hc (xd dk_B_isEarly 21 rfl) rfl rfl ?_
    by_cases q13 : xin p1 60 = true
    case neg => rw [if_neg q13] at hf; cases hf
    rw [if_pos q13] at hf
    refine x_iald hc (cA (xRd.ar hb 26 (by decide) rfl)) (xin_in q13) (xd dk_B_isEarly 22 rfl) ?_
    refine x_aload_n hc (xd dk_B_isEarly 23 rfl) rfl rfl ?_
    refine x_get hc (ci := 7) (k := 2) fi_B (c_B hb _) rfl (by decide) rfl xw199 rfl (xd dk_B_isEarly 24 rfl) ?_
    refine x_getN hc (ci := 5) (k := 0) fi_H (c_H hb _) rfl (by decide) rfl xn131 rfl (xd dk_B_isEarly 25 rfl) ?_
    refine x_iload_n hc (xd dk_B_isEarly 26 rfl) rfl rfl ?_
    by_cases q14 : xin p2 60 = true
    case neg => rw [if_neg q14] at hf; cases hf
    rw [if_pos q14] at hf
    refine x_iald hc (cA (xRd.ar hb 13 (by decide) rfl)) (xin_in q14) (xd dk_B_isEarly 27 rfl) ?_
    refine x_icmp_ge hc (tgt := 89) (xd dk_B_isEarly 28 rfl) rfl (fun q15 => ?_) (fun q15 => ?_)
    · rw [if_pos q15] at hf
      refine x_iconst hc (v := 0) (xd dk_B_isEarly 47 rfl) (by decide) ?_
      cases hf
      exact x_zreturn hc rfl (xd dk_B_isEarly 48 rfl)
    · rw [if_neg q15] at hf
      refine x_aload_n hc (xd dk_B_isEarly 29 rfl) rfl rfl ?_
      refine x_get hc (ci := 7) (k := 1) fi_B (c_B hb _) rfl (by decide) rfl xw198 rfl (xd dk_B_isEarly 30 rfl) ?_
      refine x_aload_n hc (xd dk_B_isEarly 31 rfl) rfl rfl ?_
      refine x_get hc (ci := 7) (k := 5) fi_B (c_B hb _) rfl (by decide) rfl xw202 rfl (xd dk_B_isEarly 32 rfl) ?_
      refine x_iload_n hc (xd dk_B_isEarly 33 rfl) rfl rfl ?_
      by_cases q16 : xin p1 60 = true
      case neg => rw [if_neg q16] at hf; cases hf
      rw [if_pos q16] at hf
      refine x_iald hc (cA (xRd.ar hb 27 (by decide) rfl)) (xin_in q16) (xd dk_B_isEarly 34 rfl) ?_
      obtain ⟨x17, hx17, hf⟩ := xval_ex hf
      rw [← hx17]
      obtain ⟨r18, M, e19, hf⟩ := xbind_some hf
      refine x_callV hc (As := [.int x17]) (n := 1) (s_S_homeOf hb e19) (c_S hb _) rfl (hR.call (by decide) (by decide)) ⟨by decide, by decide, by decide⟩ rfl rfl xw497 xw5 xw661 xw495 xw496 (Nat.le_of_ble_eq_true rfl) ⟨Nat.zero_le _, Nat.zero_le _⟩ (xd dk_B_isEarly 35 rfl) ?_
      refine x_aload_n hc (xd dk_B_isEarly 36 rfl) rfl rfl ?_
      refine x_get hc (ci := 7) (k := 1) fi_B (c_B hb _) rfl (by decide) rfl xw198 rfl (xd dk_B_isEarly 37 rfl) ?_
      refine x_aload_n hc (xd dk_B_isEarly 38 rfl) rfl rfl ?_
      refine x_get hc (ci := 7) (k := 2) fi_B (c_B hb _) rfl (by decide) rfl xw199 rfl (xd dk_B_isEarly 39 rfl) ?_
      refine x_getN hc (ci := 5) (k := 3) fi_H (c_H hb _) rfl (by decide) rfl xn139 rfl (xd dk_B_isEarly 40 rfl) ?_
      refine x_iload_n hc (xd dk_B_isEarly 41 rfl) rfl rfl ?_
      by_cases q20 : xin p2 60 = true
      case neg => rw [if_neg q20] at hf; cases hf
      rw [if_pos q20] at hf
      refine x_iald hc (cA (xRd.ar hb 16 (by decide) rfl)) (xin_in q20) (xd dk_B_isEarly 42 rfl) ?_
      obtain ⟨x21, hx21, hf⟩ := xval_ex hf
      rw [← hx21]
      obtain ⟨r22, M, e23, hf⟩ := xbind_some hf
      refine x_callV hc (As := [.int x21]) (n := 1) (s_S_homeOf hb e23) (c_S hb _) rfl (hR.call (by decide) (by decide)) ⟨by decide, by decide, by decide⟩ rfl rfl xw497 xw5 xw661 xw495 xw496 (Nat.le_of_ble_eq_true rfl) ⟨Nat.zero_le _, Nat.zero_le _⟩ (xd dk_B_isEarly 43 rfl) ?_
      refine x_icmp_ne hc (tgt := 89) (xd dk_B_isEarly 44 rfl) rfl (fun q24 => ?_) (fun q24 => ?_)
      · rw [if_neg q24] at hf
        refine x_iconst hc (v := 0) (xd dk_B_isEarly 47 rfl) (by decide) ?_
        cases hf
        exact x_zreturn hc rfl (xd dk_B_isEarly 48 rfl)
      · rw [if_pos q24] at hf
        refine x_iconst hc (v := 1) (xd dk_B_isEarly 45 rfl) (by decide) ?_
        refine x_goto hc (tgt := 90) (xd dk_B_isEarly 46 rfl) rfl ?_
        cases hf
        exact x_zreturn hc rfl (xd dk_B_isEarly 48 rfl)
set_option maxRecDepth 100000 in
set_option maxHeartbeats 400000 in
theorem s_B_isEarly_25 {p : Program} {l : Launch} {e : Env} {R : Room} {s : State} {m : MethodId} {args : Array Value} {below : List Frame} {meth : Method} {c : Code} {G : xG} {Y : xY} {sz : Nat} {b : Nat} {p1 : Int32} {p2 : Int32}  (hc : xC p s m args meth c G 4 c_B_isEarly y_B_isEarly.cls (some .boolean)) (hR : xRm R 2) (hb : xRd Y b) {M' : xMem} {r : Int32} (M : xMem) (hf : f_B_isEarly_25 b p1 p2 M = some (r, M')) : xW p l e R s m args below meth c G 4 (MQ below (xQc G (some (.int r)) (xo G Y M') sz) args s 0 0 (xA G)) (xo G Y M) sz 0 0 25 [some (.ref (b + 25)), some (.int p1), some (.int p2), none] [] := by
  unfold f_B_isEarly_25 at hf
  refine x_iconst hc (v := 1) (xd dk_B_isEarly 13 rfl) (by decide) ?_
  refine x_goto hc (tgt := 30) (xd dk_B_isEarly 14 rfl) rfl ?_
  exact s_B_isEarly_30 hc hR hb 1 M hf
set_option maxRecDepth 100000 in
set_option maxHeartbeats 400000 in
theorem s_B_isEarly {l : Launch} {G : xG} {Y : xY} {sz : Nat} {b : Nat} {p1 : Int32} {p2 : Int32}  (hb : xRd Y b) {M M' : xMem} {r : Int32} (hf : f_B_isEarly b p1 p2 M = some (r, M')) : xM l G y_B_isEarly c_B_isEarly 4 (some .boolean) 2 0 0 [.ref (b + 25), .int p1, .int p2] (xo G Y M) sz (some (.int r)) (xo G Y M') sz := by
  unfold f_B_isEarly at hf
  refine xM.of (k := 1) (L0 := [some (.ref (b + 25)), some (.int p1), some (.int p2), none]) (by decide) (Nat.le_of_ble_eq_true rfl) rfl ?_
  intro p e s m args below meth c hc hnm
  have hR : xRm { frames := 2, cells := 0, slots := 0, locals := 48 * 2 } 2 := ⟨Nat.le_refl _, Nat.le_refl _⟩
  refine x_aload_n hc (xd dk_B_isEarly 0 rfl) rfl rfl ?_
  refine x_get hc (ci := 7) (k := 2) fi_B (c_B hb _) rfl (by decide) rfl xw199 rfl (xd dk_B_isEarly 1 rfl) ?_
  refine x_getN hc (ci := 5) (k := 2) fi_H (c_H hb _) rfl (by decide) rfl xn136 rfl (xd dk_B_isEarly 2 rfl) ?_
  refine x_iload_n hc (xd dk_B_isEarly 3 rfl) rfl rfl ?_
  by_cases q25 : xin p2 60 = true
  case neg => rw [if_neg q25] at hf; cases hf
  rw [if_pos q25] at hf
  refine x_iald hc (cA (xRd.ar hb 15 (by decide) rfl)) (xin_in q25) (xd dk_B_isEarly 4 rfl) ?_
  refine x_if_eq hc (tgt := 25) (xd dk_B_isEarly 5 rfl) rfl (fun q26 => ?_) (fun q26 => ?_)
  · rw [if_pos q26] at hf
    exact s_B_isEarly_25 hc hR hb M hf
  · rw [if_neg q26] at hf
    refine x_aload_n hc (xd dk_B_isEarly 6 rfl) rfl rfl ?_
    refine x_get hc (ci := 7) (k := 2) fi_B (c_B hb _) rfl (by decide) rfl xw199 rfl (xd dk_B_isEarly 7 rfl) ?_
    refine x_getN hc (ci := 5) (k := 2) fi_H (c_H hb _) rfl (by decide) rfl xn136 rfl (xd dk_B_isEarly 8 rfl) ?_
    refine x_iload_n hc (xd dk_B_isEarly 9 rfl) rfl rfl ?_
    by_cases q27 : xin p2 60 = true
    case neg => rw [if_neg q27] at hf; cases hf
    rw [if_pos q27] at hf
    refine x_iald hc (cA (xRd.ar hb 15 (by decide) rfl)) (xin_in q27) (xd dk_B_isEarly 10 rfl) ?_
    refine x_iconst hc (v := 1) (xd dk_B_isEarly 11 rfl) (by decide) ?_
    refine x_icmp_ne hc (tgt := 29) (xd dk_B_isEarly 12 rfl) rfl (fun q28 => ?_) (fun q28 => ?_)
    · rw [if_neg q28] at hf
      refine x_iconst hc (v := 0) (xd dk_B_isEarly 15 rfl) (by decide) ?_
      exact s_B_isEarly_30 hc hR hb 0 M hf
    · rw [if_pos q28] at hf
      exact s_B_isEarly_25 hc hR hb M hf
def f_H_isHeldByLater_45 (b : Nat) (p1 : Int32) (k4 : Int32 → xMem → Option (Int32 × xMem)) (v2 : Int32) (M : xMem) : Option (Int32 × xMem) :=
  (k4 (v2 + Int32.ofInt 1) M)
def f_H_isHeldByLater_4 (b : Nat) (p1 : Int32) : Nat → Int32 → xMem → Option (Int32 × xMem)
  | 0, _, _ => none
  | n + 1, v2, M =>
    (if M.1 (b + 12) 8 ≤ v2 then (some (0, M)) else (xbind (f_H_isParameter b v2 M) fun r10 M => if r10 = 0 then (f_H_isHeldByLater_45 b p1 (f_H_isHeldByLater_4 b p1 n) v2 M) else (if xin v2 60 = true then if xin p1 60 = true then if M.1 (b + 16) v2.toNatClampNeg = M.1 (b + 16) p1.toNatClampNeg then (xbind (f_H_isRead b v2 M) fun r16 M => if r16 = 0 then (f_H_isHeldByLater_45 b p1 (f_H_isHeldByLater_4 b p1 n) v2 M) else (some (1, M))) else (f_H_isHeldByLater_45 b p1 (f_H_isHeldByLater_4 b p1 n) v2 M) else none else none)))
def f_H_isHeldByLater (b : Nat) (p1 : Int32) (M : xMem) : Option (Int32 × xMem) :=
  (f_H_isHeldByLater_4 b p1 xFuel (p1 + 1) M)
set_option maxRecDepth 100000 in
set_option maxHeartbeats 400000 in
theorem s_H_isHeldByLater_45 {p : Program} {l : Launch} {e : Env} {R : Room} {s : State} {m : MethodId} {args : Array Value} {below : List Frame} {meth : Method} {c : Code} {G : xG} {Y : xY} {sz : Nat} {b : Nat} {p1 : Int32}  (hc : xC p s m args meth c G 3 c_H_isHeldByLater y_H_isHeldByLater.cls (some .boolean)) (hR : xRm R 1) (hb : xRd Y b) {k4 : Int32 → xMem → Option (Int32 × xMem)} {M' : xMem} {r : Int32} (hk4 : ∀ (v2 : Int32) (M : xMem), k4 v2 M = some (r, M') → xW p l e R s m args below meth c G 3 (MQ below (xQc G (some (.int r)) (xo G Y M') sz) args s 0 0 (xA G)) (xo G Y M) sz 0 0 4 [some (.ref (b + 12)), some (.int p1), some (.int v2)] []) (v2 : Int32) (M : xMem) (hf : f_H_isHeldByLater_45 b p1 k4 v2 M = some (r, M')) : xW p l e R s m args below meth c G 3 (MQ below (xQc G (some (.int r)) (xo G Y M') sz) args s 0 0 (xA G)) (xo G Y M) sz 0 0 45 [some (.ref (b + 12)), some (.int p1), some (.int v2)] [] := by
  unfold f_H_isHeldByLater_45 at hf
  refine x_iinc hc (xd dk_H_isHeldByLater 27 rfl) rfl (by decide) rfl ?_
  refine x_goto hc (tgt := 4) (xd dk_H_isHeldByLater 28 rfl) rfl ?_
  exact hk4 (v2 + Int32.ofInt 1) M hf
set_option maxRecDepth 100000 in
set_option maxHeartbeats 400000 in
theorem s_H_isHeldByLater_4 {p : Program} {l : Launch} {e : Env} {R : Room} {s : State} {m : MethodId} {args : Array Value} {below : List Frame} {meth : Method} {c : Code} {G : xG} {Y : xY} {sz : Nat} {b : Nat} {p1 : Int32}  (hc : xC p s m args meth c G 3 c_H_isHeldByLater y_H_isHeldByLater.cls (some .boolean)) (hR : xRm R 1) (hb : xRd Y b) {M' : xMem} {r : Int32} : ∀ (n : Nat) (v2 : Int32) (M : xMem), f_H_isHeldByLater_4 b p1 n v2 M = some (r, M') → xW p l e R s m args below meth c G 3 (MQ below (xQc G (some (.int r)) (xo G Y M') sz) args s 0 0 (xA G)) (xo G Y M) sz 0 0 4 [some (.ref (b + 12)), some (.int p1), some (.int v2)] [] := by
  intro n
  induction n with
  | zero => intro v2 M hf; simp only [f_H_isHeldByLater_4] at hf; cases hf
  | succ n ih =>
    intro v2 M hf
    simp only [f_H_isHeldByLater_4] at hf
    refine x_iload_n hc (xd dk_H_isHeldByLater 4 rfl) rfl rfl ?_
    refine x_aload_n hc (xd dk_H_isHeldByLater 5 rfl) rfl rfl ?_
    refine x_get hc (ci := 5) (k := 8) fi_H (c_H hb _) rfl (by decide) rfl xw152 rfl (xd dk_H_isHeldByLater 6 rfl) ?_
    refine x_icmp_ge hc (tgt := 51) (xd dk_H_isHeldByLater 7 rfl) rfl (fun q9 => ?_) (fun q9 => ?_)
    · rw [if_pos q9] at hf
      refine x_iconst hc (v := 0) (xd dk_H_isHeldByLater 29 rfl) (by decide) ?_
      cases hf
      exact x_zreturn hc rfl (xd dk_H_isHeldByLater 30 rfl)
    · rw [if_neg q9] at hf
      refine x_aload_n hc (xd dk_H_isHeldByLater 8 rfl) rfl rfl ?_
      refine x_iload_n hc (xd dk_H_isHeldByLater 9 rfl) rfl rfl ?_
      obtain ⟨r10, M, e11, hf⟩ := xbind_some hf
      refine x_callV hc (As := [.int v2]) (n := 1) (s_H_isParameter hb e11) (c_H hb _) rfl (hR.call (by decide) (by decide)) ⟨by decide, by decide, by decide⟩ rfl rfl xw669 xw6 xw674 xw667 xw668 (Nat.le_of_ble_eq_true rfl) ⟨Nat.zero_le _, Nat.zero_le _⟩ (xd dk_H_isHeldByLater 10 rfl) ?_
      refine x_if_eq hc (tgt := 45) (xd dk_H_isHeldByLater 11 rfl) rfl (fun q12 => ?_) (fun q12 => ?_)
      · rw [if_pos q12] at hf
        exact s_H_isHeldByLater_45 hc hR hb ih v2 M hf
      · rw [if_neg q12] at hf
        refine x_aload_n hc (xd dk_H_isHeldByLater 12 rfl) rfl rfl ?_
        refine x_get hc (ci := 5) (k := 3) fi_H (c_H hb _) rfl (by decide) rfl xw138 rfl (xd dk_H_isHeldByLater 13 rfl) ?_
        refine x_iload_n hc (xd dk_H_isHeldByLater 14 rfl) rfl rfl ?_
        by_cases q13 : xin v2 60 = true
        case neg => rw [if_neg q13] at hf; cases hf
        rw [if_pos q13] at hf
        refine x_iald hc (cA (xRd.ar hb 16 (by decide) rfl)) (xin_in q13) (xd dk_H_isHeldByLater 15 rfl) ?_
        refine x_aload_n hc (xd dk_H_isHeldByLater 16 rfl) rfl rfl ?_
        refine x_get hc (ci := 5) (k := 3) fi_H (c_H hb _) rfl (by decide) rfl xw138 rfl (xd dk_H_isHeldByLater 17 rfl) ?_
        refine x_iload_n hc (xd dk_H_isHeldByLater 18 rfl) rfl rfl ?_
        by_cases q14 : xin p1 60 = true
        case neg => rw [if_neg q14] at hf; cases hf
        rw [if_pos q14] at hf
        refine x_iald hc (cA (xRd.ar hb 16 (by decide) rfl)) (xin_in q14) (xd dk_H_isHeldByLater 19 rfl) ?_
        refine x_icmp_ne hc (tgt := 45) (xd dk_H_isHeldByLater 20 rfl) rfl (fun q15 => ?_) (fun q15 => ?_)
        · rw [if_neg q15] at hf
          exact s_H_isHeldByLater_45 hc hR hb ih v2 M hf
        · rw [if_pos q15] at hf
          refine x_aload_n hc (xd dk_H_isHeldByLater 21 rfl) rfl rfl ?_
          refine x_iload_n hc (xd dk_H_isHeldByLater 22 rfl) rfl rfl ?_
          obtain ⟨r16, M, e17, hf⟩ := xbind_some hf
          refine x_callV hc (As := [.int v2]) (n := 1) (s_H_isRead hb e17) (c_H hb _) rfl (hR.call (by decide) (by decide)) ⟨by decide, by decide, by decide⟩ rfl rfl xw678 xw6 xw675 xw676 xw677 (Nat.le_of_ble_eq_true rfl) ⟨Nat.zero_le _, Nat.zero_le _⟩ (xd dk_H_isHeldByLater 23 rfl) ?_
          refine x_if_eq hc (tgt := 45) (xd dk_H_isHeldByLater 24 rfl) rfl (fun q18 => ?_) (fun q18 => ?_)
          · rw [if_pos q18] at hf
            exact s_H_isHeldByLater_45 hc hR hb ih v2 M hf
          · rw [if_neg q18] at hf
            refine x_iconst hc (v := 1) (xd dk_H_isHeldByLater 25 rfl) (by decide) ?_
            cases hf
            exact x_zreturn hc rfl (xd dk_H_isHeldByLater 26 rfl)
set_option maxRecDepth 100000 in
set_option maxHeartbeats 400000 in
theorem s_H_isHeldByLater {l : Launch} {G : xG} {Y : xY} {sz : Nat} {b : Nat} {p1 : Int32}  (hb : xRd Y b) {M M' : xMem} {r : Int32} (hf : f_H_isHeldByLater b p1 M = some (r, M')) : xM l G y_H_isHeldByLater c_H_isHeldByLater 3 (some .boolean) 1 0 0 [.ref (b + 12), .int p1] (xo G Y M) sz (some (.int r)) (xo G Y M') sz := by
  unfold f_H_isHeldByLater at hf
  refine xM.of (k := 1) (L0 := [some (.ref (b + 12)), some (.int p1), none]) (by decide) (Nat.le_of_ble_eq_true rfl) rfl ?_
  intro p e s m args below meth c hc hnm
  have hR : xRm { frames := 1, cells := 0, slots := 0, locals := 48 * 1 } 1 := ⟨Nat.le_refl _, Nat.le_refl _⟩
  refine x_iload_n hc (xd dk_H_isHeldByLater 0 rfl) rfl rfl ?_
  refine x_iconst hc (v := 1) (xd dk_H_isHeldByLater 1 rfl) (by decide) ?_
  refine x_iadd hc (xd dk_H_isHeldByLater 2 rfl) ?_
  refine x_istore_n hc (xd dk_H_isHeldByLater 3 rfl) (by decide) rfl ?_
  exact s_H_isHeldByLater_4 hc hR hb xFuel (p1 + 1) M hf
def f_B_isShadow (b : Nat) (p1 : Int32) (M : xMem) : Option (Int32 × xMem) :=
  (if xin p1 60 = true then xval (M.1 (b + 16) p1.toNatClampNeg) fun x11 => xbind (f_S_levelOf b x11 M) fun r12 M => if r12 ≤ 0 then (some (0, M)) else (xbind (f_S_aroundOf b x11 M) fun r15 M => if xin p1 60 = true then xval (M.1 (b + 14) p1.toNatClampNeg) fun x18 => xbind (f_B_seenFrom b r15 x18 M) fun r19 M => if r19 < 0 then (some (0, M)) else (some (1, M)) else none) else none)
set_option maxRecDepth 100000 in
set_option maxHeartbeats 400000 in
theorem s_B_isShadow {l : Launch} {G : xG} {Y : xY} {sz : Nat} {b : Nat} {p1 : Int32}  (hb : xRd Y b) {M M' : xMem} {r : Int32} (hf : f_B_isShadow b p1 M = some (r, M')) : xM l G y_B_isShadow c_B_isShadow 3 (some .boolean) 3 0 0 [.ref (b + 25), .int p1] (xo G Y M) sz (some (.int r)) (xo G Y M') sz := by
  unfold f_B_isShadow at hf
  refine xM.of (k := 1) (L0 := [some (.ref (b + 25)), some (.int p1), none]) (by decide) (Nat.le_of_ble_eq_true rfl) rfl ?_
  intro p e s m args below meth c hc hnm
  have hR : xRm { frames := 3, cells := 0, slots := 0, locals := 48 * 3 } 3 := ⟨Nat.le_refl _, Nat.le_refl _⟩
  refine x_aload_n hc (xd dk_B_isShadow 0 rfl) rfl rfl ?_
  refine x_get hc (ci := 7) (k := 2) fi_B (c_B hb _) rfl (by decide) rfl xw199 rfl (xd dk_B_isShadow 1 rfl) ?_
  refine x_getN hc (ci := 5) (k := 3) fi_H (c_H hb _) rfl (by decide) rfl xn139 rfl (xd dk_B_isShadow 2 rfl) ?_
  refine x_iload_n hc (xd dk_B_isShadow 3 rfl) rfl rfl ?_
  by_cases q10 : xin p1 60 = true
  case neg => rw [if_neg q10] at hf; cases hf
  rw [if_pos q10] at hf
  refine x_iald hc (cA (xRd.ar hb 16 (by decide) rfl)) (xin_in q10) (xd dk_B_isShadow 4 rfl) ?_
  refine x_istore_n hc (xd dk_B_isShadow 5 rfl) (by decide) rfl ?_
  refine x_aload_n hc (xd dk_B_isShadow 6 rfl) rfl rfl ?_
  refine x_get hc (ci := 7) (k := 1) fi_B (c_B hb _) rfl (by decide) rfl xw198 rfl (xd dk_B_isShadow 7 rfl) ?_
  refine x_iload_n hc (xd dk_B_isShadow 8 rfl) rfl rfl ?_
  obtain ⟨x11, hx11, hf⟩ := xval_ex hf
  rw [← hx11]
  obtain ⟨r12, M, e13, hf⟩ := xbind_some hf
  refine x_callV hc (As := [.int x11]) (n := 1) (s_S_levelOf hb e13) (c_S hb _) rfl (hR.call (by decide) (by decide)) ⟨by decide, by decide, by decide⟩ rfl rfl xw652 xw5 xw649 xw650 xw651 (Nat.le_of_ble_eq_true rfl) ⟨Nat.zero_le _, Nat.zero_le _⟩ (xd dk_B_isShadow 9 rfl) ?_
  refine x_if_le hc (tgt := 49) (xd dk_B_isShadow 10 rfl) rfl (fun q14 => ?_) (fun q14 => ?_)
  · rw [if_pos q14] at hf
    refine x_iconst hc (v := 0) (xd dk_B_isShadow 25 rfl) (by decide) ?_
    cases hf
    exact x_zreturn hc rfl (xd dk_B_isShadow 26 rfl)
  · rw [if_neg q14] at hf
    refine x_aload_n hc (xd dk_B_isShadow 11 rfl) rfl rfl ?_
    refine x_aload_n hc (xd dk_B_isShadow 12 rfl) rfl rfl ?_
    refine x_get hc (ci := 7) (k := 1) fi_B (c_B hb _) rfl (by decide) rfl xw198 rfl (xd dk_B_isShadow 13 rfl) ?_
    refine x_iload_n hc (xd dk_B_isShadow 14 rfl) rfl rfl ?_
    obtain ⟨r15, M, e16, hf⟩ := xbind_some hf
    refine x_callV hc (As := [.int x11]) (n := 1) (s_S_aroundOf hb e16) (c_S hb _) rfl (hR.call (by decide) (by decide)) ⟨by decide, by decide, by decide⟩ rfl rfl xw656 xw5 xw653 xw654 xw655 (Nat.le_of_ble_eq_true rfl) ⟨Nat.zero_le _, Nat.zero_le _⟩ (xd dk_B_isShadow 15 rfl) ?_
    refine x_aload_n hc (xd dk_B_isShadow 16 rfl) rfl rfl ?_
    refine x_get hc (ci := 7) (k := 2) fi_B (c_B hb _) rfl (by decide) rfl xw199 rfl (xd dk_B_isShadow 17 rfl) ?_
    refine x_getN hc (ci := 5) (k := 1) fi_H (c_H hb _) rfl (by decide) rfl xn134 rfl (xd dk_B_isShadow 18 rfl) ?_
    refine x_iload_n hc (xd dk_B_isShadow 19 rfl) rfl rfl ?_
    by_cases q17 : xin p1 60 = true
    case neg => rw [if_neg q17] at hf; cases hf
    rw [if_pos q17] at hf
    refine x_iald hc (cA (xRd.ar hb 14 (by decide) rfl)) (xin_in q17) (xd dk_B_isShadow 20 rfl) ?_
    obtain ⟨x18, hx18, hf⟩ := xval_ex hf
    rw [← hx18]
    obtain ⟨r19, M, e20, hf⟩ := xbind_some hf
    refine x_callV hc (As := [.int r15, .int x18]) (n := 2) (s_B_seenFrom hb e20) (c_B hb _) rfl (hR.call (by decide) (by decide)) ⟨by decide, by decide, by decide⟩ rfl rfl xw648 xw8 xw645 xw647 xs_B_seenFrom (Nat.le_of_ble_eq_true rfl) ⟨Nat.zero_le _, Nat.zero_le _⟩ (xd dk_B_isShadow 21 rfl) ?_
    refine x_if_lt hc (tgt := 49) (xd dk_B_isShadow 22 rfl) rfl (fun q21 => ?_) (fun q21 => ?_)
    · rw [if_pos q21] at hf
      refine x_iconst hc (v := 0) (xd dk_B_isShadow 25 rfl) (by decide) ?_
      cases hf
      exact x_zreturn hc rfl (xd dk_B_isShadow 26 rfl)
    · rw [if_neg q21] at hf
      refine x_iconst hc (v := 1) (xd dk_B_isShadow 23 rfl) (by decide) ?_
      refine x_goto hc (tgt := 50) (xd dk_B_isShadow 24 rfl) rfl ?_
      cases hf
      exact x_zreturn hc rfl (xd dk_B_isShadow 26 rfl)
def f_G_rulesAt_25 (b : Nat) (p1 : Nat) (p2 : Int32) (v3 : Int32) (w0 : Int32) (M : xMem) : Option (Int32 × xMem) :=
  (if w0 = 0 then (some (v3, M)) else (xbind (f_T_octetsOf p1 p2 M) fun r8 M => xbind (f_G_isGiven b r8 M) fun r10 M => if r10 = 0 then (some (v3, M)) else (some ((v3 &&& (-2)), M))))
def f_G_rulesAt (b : Nat) (p1 : Nat) (p2 : Int32) (M : xMem) : Option (Int32 × xMem) :=
  (xbind (f_M_rulesAt p1 p2 M) fun r13 M => if ((r13 &&& (M.1 b 2)) &&& 1) = 0 then (f_G_rulesAt_25 b p1 p2 (r13 &&& (M.1 b 2)) 0 M) else (f_G_rulesAt_25 b p1 p2 (r13 &&& (M.1 b 2)) 1 M))
set_option maxRecDepth 100000 in
set_option maxHeartbeats 400000 in
theorem s_G_rulesAt_25 {p : Program} {l : Launch} {e : Env} {R : Room} {s : State} {m : MethodId} {args : Array Value} {below : List Frame} {meth : Method} {c : Code} {G : xG} {Y : xY} {sz : Nat} {b : Nat} {p1 : Nat} {p2 : Int32}  (hc : xC p s m args meth c G 5 c_G_rulesAt y_G_rulesAt.cls (some .int)) (hR : xRm R 2) (hb : xSg Y b) (hp1 : xRd Y p1) {M' : xMem} {r : Int32} (v3 : Int32) (w0 : Int32) (M : xMem) (hf : f_G_rulesAt_25 b p1 p2 v3 w0 M = some (r, M')) : xW p l e R s m args below meth c G 5 (MQ below (xQc G (some (.int r)) (xo G Y M') sz) args s 0 0 (xA G)) (xo G Y M) sz 0 0 25 [some (.ref b), some (.ref (p1 + 30)), some (.int p2), some (.int v3), none] [.int w0] := by
  unfold f_G_rulesAt_25 at hf
  refine x_istore hc (xd dk_G_rulesAt 15 rfl) (by decide) rfl ?_
  refine x_iload hc (xd dk_G_rulesAt 16 rfl) rfl ?_
  refine x_if_eq hc (tgt := 54) (xd dk_G_rulesAt 17 rfl) rfl (fun q7 => ?_) (fun q7 => ?_)
  · rw [if_pos q7] at hf
    refine x_iload_n hc (xd dk_G_rulesAt 29 rfl) rfl rfl ?_
    cases hf
    exact x_ireturn hc (xd dk_G_rulesAt 30 rfl)
  · rw [if_neg q7] at hf
    refine x_aload_n hc (xd dk_G_rulesAt 18 rfl) rfl rfl ?_
    refine x_aload_n hc (xd dk_G_rulesAt 19 rfl) rfl rfl ?_
    refine x_getN hc (ci := 9) (k := 1) fi_R (c_R hp1 _) rfl (by decide) rfl xn260 rfl (xd dk_G_rulesAt 20 rfl) ?_
    refine x_iload_n hc (xd dk_G_rulesAt 21 rfl) rfl rfl ?_
    obtain ⟨r8, M, e9, hf⟩ := xbind_some hf
    refine x_callV hc (As := [.int p2]) (n := 1) (s_T_octetsOf hp1 e9) (c_T hp1 _) rfl (hR.call (by decide) (by decide)) ⟨by decide, by decide, by decide⟩ rfl rfl xw738 xw4 xw735 xw736 xw737 (Nat.le_of_ble_eq_true rfl) ⟨Nat.zero_le _, Nat.zero_le _⟩ (xd dk_G_rulesAt 22 rfl) ?_
    obtain ⟨r10, M, e11, hf⟩ := xbind_some hf
    refine x_callV hc (As := [.long (r8)]) (n := 1) (s_G_isGiven hb e11) (c_G hb _) rfl (hR.call (by decide) (by decide)) ⟨by decide, by decide, by decide⟩ rfl rfl xw742 xw3 xw739 xw740 xw741 (Nat.le_of_ble_eq_true rfl) ⟨Nat.zero_le _, Nat.zero_le _⟩ (xd dk_G_rulesAt 23 rfl) ?_
    refine x_if_eq hc (tgt := 54) (xd dk_G_rulesAt 24 rfl) rfl (fun q12 => ?_) (fun q12 => ?_)
    · rw [if_pos q12] at hf
      refine x_iload_n hc (xd dk_G_rulesAt 29 rfl) rfl rfl ?_
      cases hf
      exact x_ireturn hc (xd dk_G_rulesAt 30 rfl)
    · rw [if_neg q12] at hf
      refine x_iload_n hc (xd dk_G_rulesAt 25 rfl) rfl rfl ?_
      refine x_bipush hc (v := (-2)) (xd dk_G_rulesAt 26 rfl) (by decide) ?_
      refine x_iand hc (xd dk_G_rulesAt 27 rfl) ?_
      refine x_goto hc (tgt := 55) (xd dk_G_rulesAt 28 rfl) rfl ?_
      cases hf
      exact x_ireturn hc (xd dk_G_rulesAt 30 rfl)
set_option maxRecDepth 100000 in
set_option maxHeartbeats 400000 in
theorem s_G_rulesAt {l : Launch} {G : xG} {Y : xY} {sz : Nat} {b : Nat} {p1 : Nat} {p2 : Int32}  (hb : xSg Y b) (hp1 : xRd Y p1) {M M' : xMem} {r : Int32} (hf : f_G_rulesAt b p1 p2 M = some (r, M')) : xM l G y_G_rulesAt c_G_rulesAt 5 (some .int) 2 0 0 [.ref b, .ref (p1 + 30), .int p2] (xo G Y M) sz (some (.int r)) (xo G Y M') sz := by
  unfold f_G_rulesAt at hf
  refine xM.of (k := 2) (L0 := [some (.ref b), some (.ref (p1 + 30)), some (.int p2), none, none]) (by decide) (Nat.le_of_ble_eq_true rfl) rfl ?_
  intro p e s m args below meth c hc hnm
  have hR : xRm { frames := 2, cells := 0, slots := 0, locals := 48 * 2 } 2 := ⟨Nat.le_refl _, Nat.le_refl _⟩
  refine x_aload_n hc (xd dk_G_rulesAt 0 rfl) rfl rfl ?_
  refine x_getN hc (ci := 9) (k := 4) fi_R (c_R hp1 _) rfl (by decide) rfl xn267 rfl (xd dk_G_rulesAt 1 rfl) ?_
  refine x_iload_n hc (xd dk_G_rulesAt 2 rfl) rfl rfl ?_
  obtain ⟨r13, M, e14, hf⟩ := xbind_some hf
  refine x_callV hc (As := [.int p2]) (n := 1) (s_M_rulesAt hp1 e14) (c_M hp1 _) rfl (hR.call (by decide) (by decide)) ⟨by decide, by decide, by decide⟩ rfl rfl xw734 xw7 xw731 xw732 xw733 (Nat.le_of_ble_eq_true rfl) ⟨Nat.zero_le _, Nat.zero_le _⟩ (xd dk_G_rulesAt 3 rfl) ?_
  refine x_aload_n hc (xd dk_G_rulesAt 4 rfl) rfl rfl ?_
  refine x_get hc (ci := 2) (k := 2) fi_G (c_G hb _) rfl (by decide) rfl xw59 rfl (xd dk_G_rulesAt 5 rfl) ?_
  refine x_iand hc (xd dk_G_rulesAt 6 rfl) ?_
  refine x_istore_n hc (xd dk_G_rulesAt 7 rfl) (by decide) rfl ?_
  refine x_iload_n hc (xd dk_G_rulesAt 8 rfl) rfl rfl ?_
  refine x_iconst hc (v := 1) (xd dk_G_rulesAt 9 rfl) (by decide) ?_
  refine x_iand hc (xd dk_G_rulesAt 10 rfl) ?_
  refine x_if_eq hc (tgt := 24) (xd dk_G_rulesAt 11 rfl) rfl (fun q15 => ?_) (fun q15 => ?_)
  · rw [if_pos q15] at hf
    refine x_iconst hc (v := 0) (xd dk_G_rulesAt 14 rfl) (by decide) ?_
    exact s_G_rulesAt_25 hc hR hb hp1 (r13 &&& (M.1 b 2)) 0 M hf
  · rw [if_neg q15] at hf
    refine x_iconst hc (v := 1) (xd dk_G_rulesAt 12 rfl) (by decide) ?_
    refine x_goto hc (tgt := 25) (xd dk_G_rulesAt 13 rfl) rfl ?_
    exact s_G_rulesAt_25 hc hR hb hp1 (r13 &&& (M.1 b 2)) 1 M hf
def f_L_addPart_3 (b : Nat) (p1 : Nat) (p2 : Int32) (p3 : Int32) : Nat → Int32 → xMem → Option (Unit × xMem)
  | 0, _, _ => none
  | n + 1, v4, M =>
    (if p3 ≤ v4 then (some ((), M)) else (xbind (f_L_at p1 v4 M) fun r10 M => xbind (f_L_add b r10 M) fun r12 M => f_L_addPart_3 b p1 p2 p3 n (v4 + Int32.ofInt 1) M))
def f_L_addPart (b : Nat) (p1 : Nat) (p2 : Int32) (p3 : Int32) (M : xMem) : Option (Unit × xMem) :=
  (f_L_addPart_3 b p1 p2 p3 xFuel p2 M)
set_option maxRecDepth 100000 in
set_option maxHeartbeats 400000 in
theorem s_L_addPart_3 {p : Program} {l : Launch} {e : Env} {R : Room} {s : State} {m : MethodId} {args : Array Value} {below : List Frame} {meth : Method} {c : Code} {G : xG} {Y : xY} {sz : Nat} {b : Nat} {p1 : Nat} {p2 : Int32} {p3 : Int32}  (hc : xC p s m args meth c G 5 c_L_addPart y_L_addPart.cls none) (hR : xRm R 1) (hb : xLt Y b) (hp1 : xLt Y p1) {M' : xMem} {r : Unit} : ∀ (n : Nat) (v4 : Int32) (M : xMem), f_L_addPart_3 b p1 p2 p3 n v4 M = some (r, M') → xW p l e R s m args below meth c G 5 (MQ below (xQc G none (xo G Y M') sz) args s 0 0 (xA G)) (xo G Y M) sz 0 0 3 [some (.ref b), some (.ref p1), some (.int p2), some (.int p3), some (.int v4)] [] := by
  intro n
  induction n with
  | zero => intro v4 M hf; simp only [f_L_addPart_3] at hf; cases hf
  | succ n ih =>
    intro v4 M hf
    simp only [f_L_addPart_3] at hf
    refine x_iload hc (xd dk_L_addPart 2 rfl) rfl ?_
    refine x_iload_n hc (xd dk_L_addPart 3 rfl) rfl rfl ?_
    refine x_icmp_ge hc (tgt := 25) (xd dk_L_addPart 4 rfl) rfl (fun q9 => ?_) (fun q9 => ?_)
    · rw [if_pos q9] at hf
      cases hf
      exact x_return hc (xd dk_L_addPart 12 rfl)
    · rw [if_neg q9] at hf
      refine x_aload_n hc (xd dk_L_addPart 5 rfl) rfl rfl ?_
      refine x_aload_n hc (xd dk_L_addPart 6 rfl) rfl rfl ?_
      refine x_iload hc (xd dk_L_addPart 7 rfl) rfl ?_
      obtain ⟨r10, M, e11, hf⟩ := xbind_some hf
      refine x_callV hc (As := [.int v4]) (n := 1) (s_L_at hp1 e11) (c_L hp1 _) rfl (hR.call (by decide) (by decide)) ⟨by decide, by decide, by decide⟩ rfl rfl xw301 xw2 xw298 xw299 xw300 (Nat.le_of_ble_eq_true rfl) ⟨Nat.zero_le _, Nat.zero_le _⟩ (xd dk_L_addPart 8 rfl) ?_
      obtain ⟨r12, M, e13, hf⟩ := xbind_some hf
      refine x_callV hc (As := [.int r10]) (n := 1) (s_L_add hb e13) (c_L hb _) rfl (hR.call (by decide) (by decide)) ⟨by decide, by decide, by decide⟩ rfl rfl xw788 xw2 xw785 xw786 xw787 (Nat.le_of_ble_eq_true rfl) ⟨Nat.zero_le _, Nat.zero_le _⟩ (xd dk_L_addPart 9 rfl) ?_
      refine x_iinc hc (xd dk_L_addPart 10 rfl) rfl (by decide) rfl ?_
      refine x_goto hc (tgt := 3) (xd dk_L_addPart 11 rfl) rfl ?_
      exact ih (v4 + Int32.ofInt 1) M hf
set_option maxRecDepth 100000 in
set_option maxHeartbeats 400000 in
theorem s_L_addPart {l : Launch} {G : xG} {Y : xY} {sz : Nat} {b : Nat} {p1 : Nat} {p2 : Int32} {p3 : Int32}  (hb : xLt Y b) (hp1 : xLt Y p1) {M M' : xMem} {r : Unit} (hf : f_L_addPart b p1 p2 p3 M = some (r, M')) : xM l G y_L_addPart c_L_addPart 5 none 1 0 0 [.ref b, .ref p1, .int p2, .int p3] (xo G Y M) sz none (xo G Y M') sz := by
  unfold f_L_addPart at hf
  refine xM.of (k := 1) (L0 := [some (.ref b), some (.ref p1), some (.int p2), some (.int p3), none]) (by decide) (Nat.le_of_ble_eq_true rfl) rfl ?_
  intro p e s m args below meth c hc hnm
  have hR : xRm { frames := 1, cells := 0, slots := 0, locals := 48 * 1 } 1 := ⟨Nat.le_refl _, Nat.le_refl _⟩
  refine x_iload_n hc (xd dk_L_addPart 0 rfl) rfl rfl ?_
  refine x_istore hc (xd dk_L_addPart 1 rfl) (by decide) rfl ?_
  exact s_L_addPart_3 hc hR hb hp1 xFuel p2 M hf
def f_D_octetsIn_2 (p0 : Int64) : Nat → Int32 → xMem → Option (Int32 × xMem)
  | 0, _, _ => none
  | n + 1, v2, M =>
    (if 8 ≤ v2 then (some (v2, M)) else (xbind (f_D_octet p0 v2 M) fun r4 M => if r4 = 0 then (some (v2, M)) else (f_D_octetsIn_2 p0 n (v2 + Int32.ofInt 1) M)))
def f_D_octetsIn (p0 : Int64) (M : xMem) : Option (Int32 × xMem) :=
  (f_D_octetsIn_2 p0 xFuel 0 M)
set_option maxRecDepth 100000 in
set_option maxHeartbeats 400000 in
theorem s_D_octetsIn_2 {p : Program} {l : Launch} {e : Env} {R : Room} {s : State} {m : MethodId} {args : Array Value} {below : List Frame} {meth : Method} {c : Code} {G : xG} {Y : xY} {sz : Nat} {p0 : Int64}  (hc : xC p s m args meth c G 3 c_D_octetsIn y_D_octetsIn.cls (some .int)) (hR : xRm R 1)  {M' : xMem} {r : Int32} : ∀ (n : Nat) (v2 : Int32) (M : xMem), f_D_octetsIn_2 p0 n v2 M = some (r, M') → xW p l e R s m args below meth c G 3 (MQ below (xQc G (some (.int r)) (xo G Y M') sz) args s 0 0 (xA G)) (xo G Y M) sz 0 0 2 [some (.long (p0)), none, some (.int v2)] [] := by
  intro n
  induction n with
  | zero => intro v2 M hf; simp only [f_D_octetsIn_2] at hf; cases hf
  | succ n ih =>
    intro v2 M hf
    simp only [f_D_octetsIn_2] at hf
    refine x_iload_n hc (xd dk_D_octetsIn 2 rfl) rfl rfl ?_
    refine x_bipush hc (v := 8) (xd dk_D_octetsIn 3 rfl) (by decide) ?_
    refine x_icmp_ge hc (tgt := 22) (xd dk_D_octetsIn 4 rfl) rfl (fun q3 => ?_) (fun q3 => ?_)
    · rw [if_pos q3] at hf
      refine x_iload_n hc (xd dk_D_octetsIn 11 rfl) rfl rfl ?_
      cases hf
      exact x_ireturn hc (xd dk_D_octetsIn 12 rfl)
    · rw [if_neg q3] at hf
      refine x_lload_n hc (xd dk_D_octetsIn 5 rfl) rfl rfl ?_
      refine x_iload_n hc (xd dk_D_octetsIn 6 rfl) rfl rfl ?_
      obtain ⟨r4, M, e5, hf⟩ := xbind_some hf
      refine x_callS hc (As := [.long (p0), .int v2]) (n := 2) (s_D_octet e5) (hR.call (by decide) (by decide)) ⟨by decide, by decide, by decide⟩ rfl rfl xw812 xw1 xw810 xw811 (Nat.le_of_ble_eq_true rfl) ⟨Nat.zero_le _, Nat.zero_le _⟩ (xd dk_D_octetsIn 7 rfl) ?_
      refine x_if_eq hc (tgt := 22) (xd dk_D_octetsIn 8 rfl) rfl (fun q6 => ?_) (fun q6 => ?_)
      · rw [if_pos q6] at hf
        refine x_iload_n hc (xd dk_D_octetsIn 11 rfl) rfl rfl ?_
        cases hf
        exact x_ireturn hc (xd dk_D_octetsIn 12 rfl)
      · rw [if_neg q6] at hf
        refine x_iinc hc (xd dk_D_octetsIn 9 rfl) rfl (by decide) rfl ?_
        refine x_goto hc (tgt := 2) (xd dk_D_octetsIn 10 rfl) rfl ?_
        exact ih (v2 + Int32.ofInt 1) M hf
set_option maxRecDepth 100000 in
set_option maxHeartbeats 400000 in
theorem s_D_octetsIn {l : Launch} {G : xG} {Y : xY} {sz : Nat} {p0 : Int64}   {M M' : xMem} {r : Int32} (hf : f_D_octetsIn p0 M = some (r, M')) : xM l G y_D_octetsIn c_D_octetsIn 3 (some .int) 1 0 0 [.long (p0)] (xo G Y M) sz (some (.int r)) (xo G Y M') sz := by
  unfold f_D_octetsIn at hf
  refine xM.of (k := 1) (L0 := [some (.long (p0)), none, none]) (by decide) (Nat.le_of_ble_eq_true rfl) rfl ?_
  intro p e s m args below meth c hc hnm
  have hR : xRm { frames := 1, cells := 0, slots := 0, locals := 48 * 1 } 1 := ⟨Nat.le_refl _, Nat.le_refl _⟩
  refine x_iconst hc (v := 0) (xd dk_D_octetsIn 0 rfl) (by decide) ?_
  refine x_istore_n hc (xd dk_D_octetsIn 1 rfl) (by decide) rfl ?_
  exact s_D_octetsIn_2 hc hR xFuel 0 M hf
def f_B_declare_93 (b : Nat) (p1 : Int32) (p2 : Int32) (p3 : Int32) (p4 : Int32) (v5 : Int32) (v6 : Int32) (M : xMem) : Option (Unit × xMem) :=
  (if p4 = 0 then (some ((), M)) else (if M.1 (b + 12) 8 ≤ v6 then (some ((), M)) else (if xin v6 60 = true then xval ((M.1 (b + 18) v6.toNatClampNeg) + 1) fun x18 => if xin v6 60 = true then xlet (wI M (b + 18) v6.toNatClampNeg x18) fun M => if xin v6 60 = true then xlet (wI M (b + 20) v6.toNatClampNeg (vp_nar .boolean 1)) fun M => some ((), M) else none else none else none)))
def f_B_declare_84 (b : Nat) (p1 : Int32) (p2 : Int32) (p3 : Int32) (p4 : Int32) (v5 : Int32) (v6 : Int32) (M : xMem) : Option (Unit × xMem) :=
  (xbind (f_M_add b p1 4 M) fun r21 M => f_B_declare_93 b p1 p2 p3 p4 v5 v6 M)
def f_B_declare (b : Nat) (p1 : Int32) (p2 : Int32) (p3 : Int32) (p4 : Int32) (M : xMem) : Option (Unit × xMem) :=
  (xbind (f_T_wordOf b p1 M) fun r23 M => xbind (f_H_inScope b p3 r23 M) fun r25 M => if 0 ≤ r25 then (if xin r25 60 = true then xval ((M.1 (b + 19) r25.toNatClampNeg) + 1) fun x29 => if xin r25 60 = true then xlet (wI M (b + 19) r25.toNatClampNeg x29) fun M => if p2 = 2 then (if xin r25 60 = true then if M.1 (b + 15) r25.toNatClampNeg = 2 then (f_B_declare_93 b p1 p2 p3 p4 r23 r25 M) else (f_B_declare_84 b p1 p2 p3 p4 r23 r25 M) else none) else (f_B_declare_84 b p1 p2 p3 p4 r23 r25 M) else none else none) else (xval (M.1 (b + 12) 8) fun x34 => xbind (f_H_add b p1 r23 p2 p3 M) fun r35 M => f_B_declare_93 b p1 p2 p3 p4 r23 x34 M))
set_option maxRecDepth 100000 in
set_option maxHeartbeats 400000 in
theorem s_B_declare_93 {p : Program} {l : Launch} {e : Env} {R : Room} {s : State} {m : MethodId} {args : Array Value} {below : List Frame} {meth : Method} {c : Code} {G : xG} {Y : xY} {sz : Nat} {b : Nat} {p1 : Int32} {p2 : Int32} {p3 : Int32} {p4 : Int32}  (hc : xC p s m args meth c G 7 c_B_declare y_B_declare.cls none) (hR : xRm R 2) (hb : xRd Y b) {M' : xMem} {r : Unit} (v5 : Int32) (v6 : Int32) (M : xMem) (hf : f_B_declare_93 b p1 p2 p3 p4 v5 v6 M = some (r, M')) : xW p l e R s m args below meth c G 7 (MQ below (xQc G none (xo G Y M') sz) args s 0 0 (xA G)) (xo G Y M) sz 0 0 93 [some (.ref (b + 25)), some (.int p1), some (.int p2), some (.int p3), some (.int p4), some (.int v5), some (.int v6)] [] := by
  unfold f_B_declare_93 at hf
  refine x_iload hc (xd dk_B_declare 49 rfl) rfl ?_
  refine x_if_eq hc (tgt := 135) (xd dk_B_declare 50 rfl) rfl (fun q15 => ?_) (fun q15 => ?_)
  · rw [if_pos q15] at hf
    cases hf
    exact x_return hc (xd dk_B_declare 71 rfl)
  · rw [if_neg q15] at hf
    refine x_iload hc (xd dk_B_declare 51 rfl) rfl ?_
    refine x_aload_n hc (xd dk_B_declare 52 rfl) rfl rfl ?_
    refine x_get hc (ci := 7) (k := 2) fi_B (c_B hb _) rfl (by decide) rfl xw199 rfl (xd dk_B_declare 53 rfl) ?_
    refine x_getN hc (ci := 5) (k := 8) fi_H (c_H hb _) rfl (by decide) rfl xn153 rfl (xd dk_B_declare 54 rfl) ?_
    refine x_icmp_ge hc (tgt := 135) (xd dk_B_declare 55 rfl) rfl (fun q16 => ?_) (fun q16 => ?_)
    · rw [if_pos q16] at hf
      cases hf
      exact x_return hc (xd dk_B_declare 71 rfl)
    · rw [if_neg q16] at hf
      refine x_aload_n hc (xd dk_B_declare 56 rfl) rfl rfl ?_
      refine x_get hc (ci := 7) (k := 2) fi_B (c_B hb _) rfl (by decide) rfl xw199 rfl (xd dk_B_declare 57 rfl) ?_
      refine x_getN hc (ci := 5) (k := 5) fi_H (c_H hb _) rfl (by decide) rfl xn145 rfl (xd dk_B_declare 58 rfl) ?_
      refine x_iload hc (xd dk_B_declare 59 rfl) rfl ?_
      refine x_dup2_11 hc (xd dk_B_declare 60 rfl) rfl rfl ?_
      by_cases q17 : xin v6 60 = true
      case neg => rw [if_neg q17] at hf; cases hf
      rw [if_pos q17] at hf
      refine x_iald hc (cA (xRd.ar hb 18 (by decide) rfl)) (xin_in q17) (xd dk_B_declare 61 rfl) ?_
      refine x_iconst hc (v := 1) (xd dk_B_declare 62 rfl) (by decide) ?_
      refine x_iadd hc (xd dk_B_declare 63 rfl) ?_
      obtain ⟨x18, hx18, hf⟩ := xval_ex hf
      rw [← hx18]
      by_cases q19 : xin v6 60 = true
      case neg => rw [if_neg q19] at hf; cases hf
      rw [if_pos q19] at hf
      refine x_iast hc (cA (xRd.ar hb 18 (by decide) rfl)) (xin_in q19) (xd dk_B_declare 64 rfl) ?_
      rw [wA (xRd.ar hb 18 (by decide) rfl)]
      replace hf := xlet_some hf
      generalize wI M (b + 18) v6.toNatClampNeg x18 = M at hf ⊢
      refine x_aload_n hc (xd dk_B_declare 65 rfl) rfl rfl ?_
      refine x_get hc (ci := 7) (k := 2) fi_B (c_B hb _) rfl (by decide) rfl xw199 rfl (xd dk_B_declare 66 rfl) ?_
      refine x_getN hc (ci := 5) (k := 7) fi_H (c_H hb _) rfl (by decide) rfl xn151 rfl (xd dk_B_declare 67 rfl) ?_
      refine x_iload hc (xd dk_B_declare 68 rfl) rfl ?_
      refine x_iconst hc (v := 1) (xd dk_B_declare 69 rfl) (by decide) ?_
      by_cases q20 : xin v6 60 = true
      case neg => rw [if_neg q20] at hf; cases hf
      rw [if_pos q20] at hf
      refine x_zast hc (cA (xRd.ar hb 20 (by decide) rfl)) (xin_in q20) (xd dk_B_declare 70 rfl) ?_
      rw [wA (xRd.ar hb 20 (by decide) rfl)]
      replace hf := xlet_some hf
      generalize wI M (b + 20) v6.toNatClampNeg (vp_nar .boolean 1) = M at hf ⊢
      cases hf
      exact x_return hc (xd dk_B_declare 71 rfl)
set_option maxRecDepth 100000 in
set_option maxHeartbeats 400000 in
theorem s_B_declare_84 {p : Program} {l : Launch} {e : Env} {R : Room} {s : State} {m : MethodId} {args : Array Value} {below : List Frame} {meth : Method} {c : Code} {G : xG} {Y : xY} {sz : Nat} {b : Nat} {p1 : Int32} {p2 : Int32} {p3 : Int32} {p4 : Int32}  (hc : xC p s m args meth c G 7 c_B_declare y_B_declare.cls none) (hR : xRm R 2) (hb : xRd Y b) {M' : xMem} {r : Unit} (v5 : Int32) (v6 : Int32) (M : xMem) (hf : f_B_declare_84 b p1 p2 p3 p4 v5 v6 M = some (r, M')) : xW p l e R s m args below meth c G 7 (MQ below (xQc G none (xo G Y M') sz) args s 0 0 (xA G)) (xo G Y M) sz 0 0 84 [some (.ref (b + 25)), some (.int p1), some (.int p2), some (.int p3), some (.int p4), some (.int v5), some (.int v6)] [] := by
  unfold f_B_declare_84 at hf
  refine x_aload_n hc (xd dk_B_declare 44 rfl) rfl rfl ?_
  refine x_get hc (ci := 7) (k := 3) fi_B (c_B hb _) rfl (by decide) rfl xw200 rfl (xd dk_B_declare 45 rfl) ?_
  refine x_iload_n hc (xd dk_B_declare 46 rfl) rfl rfl ?_
  refine x_iconst hc (v := 4) (xd dk_B_declare 47 rfl) (by decide) ?_
  obtain ⟨r21, M, e22, hf⟩ := xbind_some hf
  refine x_callV hc (As := [.int p1, .int 4]) (n := 2) (s_M_add hb e22) (c_M hb _) rfl (hR.call (by decide) (by decide)) ⟨by decide, by decide, by decide⟩ rfl rfl xw467 xw7 xw522 xw465 xw466 (Nat.le_of_ble_eq_true rfl) ⟨Nat.zero_le _, Nat.zero_le _⟩ (xd dk_B_declare 48 rfl) ?_
  exact s_B_declare_93 hc hR hb v5 v6 M hf
set_option maxRecDepth 100000 in
set_option maxHeartbeats 400000 in
theorem s_B_declare {l : Launch} {G : xG} {Y : xY} {sz : Nat} {b : Nat} {p1 : Int32} {p2 : Int32} {p3 : Int32} {p4 : Int32}  (hb : xRd Y b) {M M' : xMem} {r : Unit} (hf : f_B_declare b p1 p2 p3 p4 M = some (r, M')) : xM l G y_B_declare c_B_declare 7 none 2 0 0 [.ref (b + 25), .int p1, .int p2, .int p3, .int p4] (xo G Y M) sz none (xo G Y M') sz := by
  unfold f_B_declare at hf
  refine xM.of (k := 2) (L0 := [some (.ref (b + 25)), some (.int p1), some (.int p2), some (.int p3), some (.int p4), none, none]) (by decide) (Nat.le_of_ble_eq_true rfl) rfl ?_
  intro p e s m args below meth c hc hnm
  have hR : xRm { frames := 2, cells := 0, slots := 0, locals := 48 * 2 } 2 := ⟨Nat.le_refl _, Nat.le_refl _⟩
  refine x_aload_n hc (xd dk_B_declare 0 rfl) rfl rfl ?_
  refine x_get hc (ci := 7) (k := 0) fi_B (c_B hb _) rfl (by decide) rfl xw197 rfl (xd dk_B_declare 1 rfl) ?_
  refine x_iload_n hc (xd dk_B_declare 2 rfl) rfl rfl ?_
  obtain ⟨r23, M, e24, hf⟩ := xbind_some hf
  refine x_callV hc (As := [.int p1]) (n := 1) (s_T_wordOf hb e24) (c_T hb _) rfl (hR.call (by decide) (by decide)) ⟨by decide, by decide, by decide⟩ rfl rfl xw509 xw4 xw506 xw507 xw508 (Nat.le_of_ble_eq_true rfl) ⟨Nat.zero_le _, Nat.zero_le _⟩ (xd dk_B_declare 3 rfl) ?_
  refine x_istore hc (xd dk_B_declare 4 rfl) (by decide) rfl ?_
  refine x_aload_n hc (xd dk_B_declare 5 rfl) rfl rfl ?_
  refine x_get hc (ci := 7) (k := 2) fi_B (c_B hb _) rfl (by decide) rfl xw199 rfl (xd dk_B_declare 6 rfl) ?_
  refine x_iload_n hc (xd dk_B_declare 7 rfl) rfl rfl ?_
  refine x_iload hc (xd dk_B_declare 8 rfl) rfl ?_
  obtain ⟨r25, M, e26, hf⟩ := xbind_some hf
  refine x_callV hc (As := [.int p3, .int r23]) (n := 2) (s_H_inScope hb e26) (c_H hb _) rfl (hR.call (by decide) (by decide)) ⟨by decide, by decide, by decide⟩ rfl rfl xw517 xw6 xw514 xw515 xw516 (Nat.le_of_ble_eq_true rfl) ⟨Nat.zero_le _, Nat.zero_le _⟩ (xd dk_B_declare 9 rfl) ?_
  refine x_istore hc (xd dk_B_declare 10 rfl) (by decide) rfl ?_
  refine x_iload hc (xd dk_B_declare 11 rfl) rfl ?_
  refine x_if_ge hc (tgt := 51) (xd dk_B_declare 12 rfl) rfl (fun q27 => ?_) (fun q27 => ?_)
  · rw [if_pos q27] at hf
    refine x_aload_n hc (xd dk_B_declare 25 rfl) rfl rfl ?_
    refine x_get hc (ci := 7) (k := 2) fi_B (c_B hb _) rfl (by decide) rfl xw199 rfl (xd dk_B_declare 26 rfl) ?_
    refine x_getN hc (ci := 5) (k := 6) fi_H (c_H hb _) rfl (by decide) rfl xn148 rfl (xd dk_B_declare 27 rfl) ?_
    refine x_iload hc (xd dk_B_declare 28 rfl) rfl ?_
    refine x_dup2_11 hc (xd dk_B_declare 29 rfl) rfl rfl ?_
    by_cases q28 : xin r25 60 = true
    case neg => rw [if_neg q28] at hf; cases hf
    rw [if_pos q28] at hf
    refine x_iald hc (cA (xRd.ar hb 19 (by decide) rfl)) (xin_in q28) (xd dk_B_declare 30 rfl) ?_
    refine x_iconst hc (v := 1) (xd dk_B_declare 31 rfl) (by decide) ?_
    refine x_iadd hc (xd dk_B_declare 32 rfl) ?_
    obtain ⟨x29, hx29, hf⟩ := xval_ex hf
    rw [← hx29]
    by_cases q30 : xin r25 60 = true
    case neg => rw [if_neg q30] at hf; cases hf
    rw [if_pos q30] at hf
    refine x_iast hc (cA (xRd.ar hb 19 (by decide) rfl)) (xin_in q30) (xd dk_B_declare 33 rfl) ?_
    rw [wA (xRd.ar hb 19 (by decide) rfl)]
    replace hf := xlet_some hf
    generalize wI M (b + 19) r25.toNatClampNeg x29 = M at hf ⊢
    refine x_iload_n hc (xd dk_B_declare 34 rfl) rfl rfl ?_
    refine x_iconst hc (v := 2) (xd dk_B_declare 35 rfl) (by decide) ?_
    refine x_icmp_ne hc (tgt := 84) (xd dk_B_declare 36 rfl) rfl (fun q31 => ?_) (fun q31 => ?_)
    · rw [if_neg q31] at hf
      exact s_B_declare_84 hc hR hb r23 r25 M hf
    · rw [if_pos q31] at hf
      refine x_aload_n hc (xd dk_B_declare 37 rfl) rfl rfl ?_
      refine x_get hc (ci := 7) (k := 2) fi_B (c_B hb _) rfl (by decide) rfl xw199 rfl (xd dk_B_declare 38 rfl) ?_
      refine x_getN hc (ci := 5) (k := 2) fi_H (c_H hb _) rfl (by decide) rfl xn136 rfl (xd dk_B_declare 39 rfl) ?_
      refine x_iload hc (xd dk_B_declare 40 rfl) rfl ?_
      by_cases q32 : xin r25 60 = true
      case neg => rw [if_neg q32] at hf; cases hf
      rw [if_pos q32] at hf
      refine x_iald hc (cA (xRd.ar hb 15 (by decide) rfl)) (xin_in q32) (xd dk_B_declare 41 rfl) ?_
      refine x_iconst hc (v := 2) (xd dk_B_declare 42 rfl) (by decide) ?_
      refine x_icmp_eq hc (tgt := 93) (xd dk_B_declare 43 rfl) rfl (fun q33 => ?_) (fun q33 => ?_)
      · rw [if_pos q33] at hf
        exact s_B_declare_93 hc hR hb r23 r25 M hf
      · rw [if_neg q33] at hf
        exact s_B_declare_84 hc hR hb r23 r25 M hf
  · rw [if_neg q27] at hf
    refine x_aload_n hc (xd dk_B_declare 13 rfl) rfl rfl ?_
    refine x_get hc (ci := 7) (k := 2) fi_B (c_B hb _) rfl (by decide) rfl xw199 rfl (xd dk_B_declare 14 rfl) ?_
    refine x_getN hc (ci := 5) (k := 8) fi_H (c_H hb _) rfl (by decide) rfl xn153 rfl (xd dk_B_declare 15 rfl) ?_
    refine x_istore hc (xd dk_B_declare 16 rfl) (by decide) rfl ?_
    refine x_aload_n hc (xd dk_B_declare 17 rfl) rfl rfl ?_
    refine x_get hc (ci := 7) (k := 2) fi_B (c_B hb _) rfl (by decide) rfl xw199 rfl (xd dk_B_declare 18 rfl) ?_
    refine x_iload_n hc (xd dk_B_declare 19 rfl) rfl rfl ?_
    refine x_iload hc (xd dk_B_declare 20 rfl) rfl ?_
    refine x_iload_n hc (xd dk_B_declare 21 rfl) rfl rfl ?_
    refine x_iload_n hc (xd dk_B_declare 22 rfl) rfl rfl ?_
    obtain ⟨x34, hx34, hf⟩ := xval_ex hf
    rw [← hx34]
    obtain ⟨r35, M, e36, hf⟩ := xbind_some hf
    refine x_callV hc (As := [.int p1, .int r23, .int p2, .int p3]) (n := 4) (s_H_add hb e36) (c_H hb _) rfl (hR.call (by decide) (by decide)) ⟨by decide, by decide, by decide⟩ rfl rfl xw521 xw6 xw518 xw519 xw520 (Nat.le_of_ble_eq_true rfl) ⟨Nat.zero_le _, Nat.zero_le _⟩ (xd dk_B_declare 23 rfl) ?_
    refine x_goto hc (tgt := 93) (xd dk_B_declare 24 rfl) rfl ?_
    exact s_B_declare_93 hc hR hb r23 x34 M hf
def f_B_bind_127 (b : Nat) (p1 : Int32) (v2 : Int32) (M : xMem) : Option (Unit × xMem) :=
  (xbind (f_B_isEarly b p1 v2 M) fun r25 M => if r25 = 0 then (some ((), M)) else (if xin p1 60 = true then xval (M.1 (b + 26) p1.toNatClampNeg) fun x29 => xbind (f_M_add b x29 3 M) fun r30 M => some ((), M) else none))
def f_B_bind_91 (b : Nat) (p1 : Int32) (v2 : Int32) (M : xMem) : Option (Unit × xMem) :=
  (if xin p1 60 = true then if M.1 (b + 28) p1.toNatClampNeg = 0 then (f_B_bind_127 b p1 v2 M) else (if xin v2 60 = true then if M.1 (b + 15) v2.toNatClampNeg = 1 then (if xin p1 60 = true then xval (M.1 (b + 26) p1.toNatClampNeg) fun x37 => xbind (f_M_add b x37 2 M) fun r38 M => f_B_bind_127 b p1 v2 M else none) else (f_B_bind_127 b p1 v2 M) else none) else none)
def f_B_bind (b : Nat) (p1 : Int32) (M : xMem) : Option (Unit × xMem) :=
  (if xin p1 60 = true then if xin p1 60 = true then xval (M.1 (b + 27) p1.toNatClampNeg) fun x42 => xval (M.1 (b + 26) p1.toNatClampNeg) fun x43 => xbind (f_T_wordOf b x43 M) fun r44 M => xbind (f_B_seenFrom b x42 r44 M) fun r46 M => if 0 ≤ r46 then (if xin p1 60 = true then if M.1 (b + 28) p1.toNatClampNeg = 0 then (if xin r46 60 = true then xval ((M.1 (b + 17) r46.toNatClampNeg) + 1) fun x52 => if xin r46 60 = true then xlet (wI M (b + 17) r46.toNatClampNeg x52) fun M => f_B_bind_91 b p1 r46 M else none else none) else (if xin r46 60 = true then xval ((M.1 (b + 18) r46.toNatClampNeg) + 1) fun x55 => if xin r46 60 = true then xlet (wI M (b + 18) r46.toNatClampNeg x55) fun M => f_B_bind_91 b p1 r46 M else none else none) else none) else (xval ((M.1 (b + 25) 8) + 1) fun x57 => xlet (wI M (b + 25) 8 x57) fun M => if xin p1 60 = true then xval (M.1 (b + 26) p1.toNatClampNeg) fun x59 => xbind (f_M_add b x59 0 M) fun r60 M => some ((), M) else none) else none else none)
set_option maxRecDepth 100000 in
set_option maxHeartbeats 400000 in
theorem s_B_bind_127 {p : Program} {l : Launch} {e : Env} {R : Room} {s : State} {m : MethodId} {args : Array Value} {below : List Frame} {meth : Method} {c : Code} {G : xG} {Y : xY} {sz : Nat} {b : Nat} {p1 : Int32}  (hc : xC p s m args meth c G 3 c_B_bind y_B_bind.cls none) (hR : xRm R 3) (hb : xRd Y b) {M' : xMem} {r : Unit} (v2 : Int32) (M : xMem) (hf : f_B_bind_127 b p1 v2 M = some (r, M')) : xW p l e R s m args below meth c G 3 (MQ below (xQc G none (xo G Y M') sz) args s 0 0 (xA G)) (xo G Y M) sz 0 0 127 [some (.ref (b + 25)), some (.int p1), some (.int v2)] [] := by
  unfold f_B_bind_127 at hf
  refine x_aload_n hc (xd dk_B_bind 75 rfl) rfl rfl ?_
  refine x_iload_n hc (xd dk_B_bind 76 rfl) rfl rfl ?_
  refine x_iload_n hc (xd dk_B_bind 77 rfl) rfl rfl ?_
  obtain ⟨r25, M, e26, hf⟩ := xbind_some hf
  refine x_callV hc (As := [.int p1, .int v2]) (n := 2) (s_B_isEarly hb e26) (c_B hb _) rfl (hR.call (by decide) (by decide)) ⟨by decide, by decide, by decide⟩ rfl rfl xw660 xw8 xw657 xw659 xs_B_isEarly (Nat.le_of_ble_eq_true rfl) ⟨Nat.zero_le _, Nat.zero_le _⟩ (xd dk_B_bind 78 rfl) ?_
  refine x_if_eq hc (tgt := 150) (xd dk_B_bind 79 rfl) rfl (fun q27 => ?_) (fun q27 => ?_)
  · rw [if_pos q27] at hf
    cases hf
    exact x_return hc (xd dk_B_bind 88 rfl)
  · rw [if_neg q27] at hf
    refine x_aload_n hc (xd dk_B_bind 80 rfl) rfl rfl ?_
    refine x_get hc (ci := 7) (k := 3) fi_B (c_B hb _) rfl (by decide) rfl xw200 rfl (xd dk_B_bind 81 rfl) ?_
    refine x_aload_n hc (xd dk_B_bind 82 rfl) rfl rfl ?_
    refine x_get hc (ci := 7) (k := 4) fi_B (c_B hb _) rfl (by decide) rfl xw201 rfl (xd dk_B_bind 83 rfl) ?_
    refine x_iload_n hc (xd dk_B_bind 84 rfl) rfl rfl ?_
    by_cases q28 : xin p1 60 = true
    case neg => rw [if_neg q28] at hf; cases hf
    rw [if_pos q28] at hf
    refine x_iald hc (cA (xRd.ar hb 26 (by decide) rfl)) (xin_in q28) (xd dk_B_bind 85 rfl) ?_
    refine x_iconst hc (v := 3) (xd dk_B_bind 86 rfl) (by decide) ?_
    obtain ⟨x29, hx29, hf⟩ := xval_ex hf
    rw [← hx29]
    obtain ⟨r30, M, e31, hf⟩ := xbind_some hf
    refine x_callV hc (As := [.int x29, .int 3]) (n := 2) (s_M_add hb e31) (c_M hb _) rfl (hR.call (by decide) (by decide)) ⟨by decide, by decide, by decide⟩ rfl rfl xw467 xw7 xw522 xw465 xw466 (Nat.le_of_ble_eq_true rfl) ⟨Nat.zero_le _, Nat.zero_le _⟩ (xd dk_B_bind 87 rfl) ?_
    cases hf
    exact x_return hc (xd dk_B_bind 88 rfl)
set_option maxRecDepth 100000 in
set_option maxHeartbeats 400000 in
theorem s_B_bind_91 {p : Program} {l : Launch} {e : Env} {R : Room} {s : State} {m : MethodId} {args : Array Value} {below : List Frame} {meth : Method} {c : Code} {G : xG} {Y : xY} {sz : Nat} {b : Nat} {p1 : Int32}  (hc : xC p s m args meth c G 3 c_B_bind y_B_bind.cls none) (hR : xRm R 3) (hb : xRd Y b) {M' : xMem} {r : Unit} (v2 : Int32) (M : xMem) (hf : f_B_bind_91 b p1 v2 M = some (r, M')) : xW p l e R s m args below meth c G 3 (MQ below (xQc G none (xo G Y M') sz) args s 0 0 (xA G)) (xo G Y M) sz 0 0 91 [some (.ref (b + 25)), some (.int p1), some (.int v2)] [] := by
  unfold f_B_bind_91 at hf
  refine x_aload_n hc (xd dk_B_bind 55 rfl) rfl rfl ?_
  refine x_get hc (ci := 7) (k := 6) fi_B (c_B hb _) rfl (by decide) rfl xw203 rfl (xd dk_B_bind 56 rfl) ?_
  refine x_iload_n hc (xd dk_B_bind 57 rfl) rfl rfl ?_
  by_cases q32 : xin p1 60 = true
  case neg => rw [if_neg q32] at hf; cases hf
  rw [if_pos q32] at hf
  refine x_zald hc (cA (xRd.ar hb 28 (by decide) rfl)) (xin_in q32) (xd dk_B_bind 58 rfl) ?_
  refine x_if_eq hc (tgt := 127) (xd dk_B_bind 59 rfl) rfl (fun q33 => ?_) (fun q33 => ?_)
  · rw [if_pos q33] at hf
    exact s_B_bind_127 hc hR hb v2 M hf
  · rw [if_neg q33] at hf
    refine x_aload_n hc (xd dk_B_bind 60 rfl) rfl rfl ?_
    refine x_get hc (ci := 7) (k := 2) fi_B (c_B hb _) rfl (by decide) rfl xw199 rfl (xd dk_B_bind 61 rfl) ?_
    refine x_getN hc (ci := 5) (k := 2) fi_H (c_H hb _) rfl (by decide) rfl xn136 rfl (xd dk_B_bind 62 rfl) ?_
    refine x_iload_n hc (xd dk_B_bind 63 rfl) rfl rfl ?_
    by_cases q34 : xin v2 60 = true
    case neg => rw [if_neg q34] at hf; cases hf
    rw [if_pos q34] at hf
    refine x_iald hc (cA (xRd.ar hb 15 (by decide) rfl)) (xin_in q34) (xd dk_B_bind 64 rfl) ?_
    refine x_iconst hc (v := 1) (xd dk_B_bind 65 rfl) (by decide) ?_
    refine x_icmp_ne hc (tgt := 127) (xd dk_B_bind 66 rfl) rfl (fun q35 => ?_) (fun q35 => ?_)
    · rw [if_neg q35] at hf
      exact s_B_bind_127 hc hR hb v2 M hf
    · rw [if_pos q35] at hf
      refine x_aload_n hc (xd dk_B_bind 67 rfl) rfl rfl ?_
      refine x_get hc (ci := 7) (k := 3) fi_B (c_B hb _) rfl (by decide) rfl xw200 rfl (xd dk_B_bind 68 rfl) ?_
      refine x_aload_n hc (xd dk_B_bind 69 rfl) rfl rfl ?_
      refine x_get hc (ci := 7) (k := 4) fi_B (c_B hb _) rfl (by decide) rfl xw201 rfl (xd dk_B_bind 70 rfl) ?_
      refine x_iload_n hc (xd dk_B_bind 71 rfl) rfl rfl ?_
      by_cases q36 : xin p1 60 = true
      case neg => rw [if_neg q36] at hf; cases hf
      rw [if_pos q36] at hf
      refine x_iald hc (cA (xRd.ar hb 26 (by decide) rfl)) (xin_in q36) (xd dk_B_bind 72 rfl) ?_
      refine x_iconst hc (v := 2) (xd dk_B_bind 73 rfl) (by decide) ?_
      obtain ⟨x37, hx37, hf⟩ := xval_ex hf
      rw [← hx37]
      obtain ⟨r38, M, e39, hf⟩ := xbind_some hf
      refine x_callV hc (As := [.int x37, .int 2]) (n := 2) (s_M_add hb e39) (c_M hb _) rfl (hR.call (by decide) (by decide)) ⟨by decide, by decide, by decide⟩ rfl rfl xw467 xw7 xw522 xw465 xw466 (Nat.le_of_ble_eq_true rfl) ⟨Nat.zero_le _, Nat.zero_le _⟩ (xd dk_B_bind 74 rfl) ?_
      exact s_B_bind_127 hc hR hb v2 M hf
set_option maxRecDepth 100000 in
set_option maxHeartbeats 400000 in
theorem s_B_bind {l : Launch} {G : xG} {Y : xY} {sz : Nat} {b : Nat} {p1 : Int32}  (hb : xRd Y b) {M M' : xMem} {r : Unit} (hf : f_B_bind b p1 M = some (r, M')) : xM l G y_B_bind c_B_bind 3 none 3 0 0 [.ref (b + 25), .int p1] (xo G Y M) sz none (xo G Y M') sz := by
  unfold f_B_bind at hf
  refine xM.of (k := 1) (L0 := [some (.ref (b + 25)), some (.int p1), none]) (by decide) (Nat.le_of_ble_eq_true rfl) rfl ?_
  intro p e s m args below meth c hc hnm
  have hR : xRm { frames := 3, cells := 0, slots := 0, locals := 48 * 3 } 3 := ⟨Nat.le_refl _, Nat.le_refl _⟩
  refine x_aload_n hc (xd dk_B_bind 0 rfl) rfl rfl ?_
  refine x_aload_n hc (xd dk_B_bind 1 rfl) rfl rfl ?_
  refine x_get hc (ci := 7) (k := 5) fi_B (c_B hb _) rfl (by decide) rfl xw202 rfl (xd dk_B_bind 2 rfl) ?_
  refine x_iload_n hc (xd dk_B_bind 3 rfl) rfl rfl ?_
  by_cases q40 : xin p1 60 = true
  case neg => rw [if_neg q40] at hf; cases hf
  rw [if_pos q40] at hf
  refine x_iald hc (cA (xRd.ar hb 27 (by decide) rfl)) (xin_in q40) (xd dk_B_bind 4 rfl) ?_
  refine x_aload_n hc (xd dk_B_bind 5 rfl) rfl rfl ?_
  refine x_get hc (ci := 7) (k := 0) fi_B (c_B hb _) rfl (by decide) rfl xw197 rfl (xd dk_B_bind 6 rfl) ?_
  refine x_aload_n hc (xd dk_B_bind 7 rfl) rfl rfl ?_
  refine x_get hc (ci := 7) (k := 4) fi_B (c_B hb _) rfl (by decide) rfl xw201 rfl (xd dk_B_bind 8 rfl) ?_
  refine x_iload_n hc (xd dk_B_bind 9 rfl) rfl rfl ?_
  by_cases q41 : xin p1 60 = true
  case neg => rw [if_neg q41] at hf; cases hf
  rw [if_pos q41] at hf
  refine x_iald hc (cA (xRd.ar hb 26 (by decide) rfl)) (xin_in q41) (xd dk_B_bind 10 rfl) ?_
  obtain ⟨x42, hx42, hf⟩ := xval_ex hf
  rw [← hx42]
  obtain ⟨x43, hx43, hf⟩ := xval_ex hf
  rw [← hx43]
  obtain ⟨r44, M, e45, hf⟩ := xbind_some hf
  refine x_callV hc (As := [.int x43]) (n := 1) (s_T_wordOf hb e45) (c_T hb _) rfl (hR.call (by decide) (by decide)) ⟨by decide, by decide, by decide⟩ rfl rfl xw509 xw4 xw506 xw507 xw508 (Nat.le_of_ble_eq_true rfl) ⟨Nat.zero_le _, Nat.zero_le _⟩ (xd dk_B_bind 11 rfl) ?_
  obtain ⟨r46, M, e47, hf⟩ := xbind_some hf
  refine x_callV hc (As := [.int x42, .int r44]) (n := 2) (s_B_seenFrom hb e47) (c_B hb _) rfl (hR.call (by decide) (by decide)) ⟨by decide, by decide, by decide⟩ rfl rfl xw648 xw8 xw645 xw647 xs_B_seenFrom (Nat.le_of_ble_eq_true rfl) ⟨Nat.zero_le _, Nat.zero_le _⟩ (xd dk_B_bind 12 rfl) ?_
  refine x_istore_n hc (xd dk_B_bind 13 rfl) (by decide) rfl ?_
  refine x_iload_n hc (xd dk_B_bind 14 rfl) rfl rfl ?_
  refine x_if_ge hc (tgt := 53) (xd dk_B_bind 15 rfl) rfl (fun q48 => ?_) (fun q48 => ?_)
  · rw [if_pos q48] at hf
    refine x_aload_n hc (xd dk_B_bind 31 rfl) rfl rfl ?_
    refine x_get hc (ci := 7) (k := 6) fi_B (c_B hb _) rfl (by decide) rfl xw203 rfl (xd dk_B_bind 32 rfl) ?_
    refine x_iload_n hc (xd dk_B_bind 33 rfl) rfl rfl ?_
    by_cases q49 : xin p1 60 = true
    case neg => rw [if_neg q49] at hf; cases hf
    rw [if_pos q49] at hf
    refine x_zald hc (cA (xRd.ar hb 28 (by decide) rfl)) (xin_in q49) (xd dk_B_bind 34 rfl) ?_
    refine x_if_eq hc (tgt := 78) (xd dk_B_bind 35 rfl) rfl (fun q50 => ?_) (fun q50 => ?_)
    · rw [if_pos q50] at hf
      refine x_aload_n hc (xd dk_B_bind 46 rfl) rfl rfl ?_
      refine x_get hc (ci := 7) (k := 2) fi_B (c_B hb _) rfl (by decide) rfl xw199 rfl (xd dk_B_bind 47 rfl) ?_
      refine x_getN hc (ci := 5) (k := 4) fi_H (c_H hb _) rfl (by decide) rfl xn142 rfl (xd dk_B_bind 48 rfl) ?_
      refine x_iload_n hc (xd dk_B_bind 49 rfl) rfl rfl ?_
      refine x_dup2_11 hc (xd dk_B_bind 50 rfl) rfl rfl ?_
      by_cases q51 : xin r46 60 = true
      case neg => rw [if_neg q51] at hf; cases hf
      rw [if_pos q51] at hf
      refine x_iald hc (cA (xRd.ar hb 17 (by decide) rfl)) (xin_in q51) (xd dk_B_bind 51 rfl) ?_
      refine x_iconst hc (v := 1) (xd dk_B_bind 52 rfl) (by decide) ?_
      refine x_iadd hc (xd dk_B_bind 53 rfl) ?_
      obtain ⟨x52, hx52, hf⟩ := xval_ex hf
      rw [← hx52]
      by_cases q53 : xin r46 60 = true
      case neg => rw [if_neg q53] at hf; cases hf
      rw [if_pos q53] at hf
      refine x_iast hc (cA (xRd.ar hb 17 (by decide) rfl)) (xin_in q53) (xd dk_B_bind 54 rfl) ?_
      rw [wA (xRd.ar hb 17 (by decide) rfl)]
      replace hf := xlet_some hf
      generalize wI M (b + 17) r46.toNatClampNeg x52 = M at hf ⊢
      exact s_B_bind_91 hc hR hb r46 M hf
    · rw [if_neg q50] at hf
      refine x_aload_n hc (xd dk_B_bind 36 rfl) rfl rfl ?_
      refine x_get hc (ci := 7) (k := 2) fi_B (c_B hb _) rfl (by decide) rfl xw199 rfl (xd dk_B_bind 37 rfl) ?_
      refine x_getN hc (ci := 5) (k := 5) fi_H (c_H hb _) rfl (by decide) rfl xn145 rfl (xd dk_B_bind 38 rfl) ?_
      refine x_iload_n hc (xd dk_B_bind 39 rfl) rfl rfl ?_
      refine x_dup2_11 hc (xd dk_B_bind 40 rfl) rfl rfl ?_
      by_cases q54 : xin r46 60 = true
      case neg => rw [if_neg q54] at hf; cases hf
      rw [if_pos q54] at hf
      refine x_iald hc (cA (xRd.ar hb 18 (by decide) rfl)) (xin_in q54) (xd dk_B_bind 41 rfl) ?_
      refine x_iconst hc (v := 1) (xd dk_B_bind 42 rfl) (by decide) ?_
      refine x_iadd hc (xd dk_B_bind 43 rfl) ?_
      obtain ⟨x55, hx55, hf⟩ := xval_ex hf
      rw [← hx55]
      by_cases q56 : xin r46 60 = true
      case neg => rw [if_neg q56] at hf; cases hf
      rw [if_pos q56] at hf
      refine x_iast hc (cA (xRd.ar hb 18 (by decide) rfl)) (xin_in q56) (xd dk_B_bind 44 rfl) ?_
      rw [wA (xRd.ar hb 18 (by decide) rfl)]
      replace hf := xlet_some hf
      generalize wI M (b + 18) r46.toNatClampNeg x55 = M at hf ⊢
      refine x_goto hc (tgt := 91) (xd dk_B_bind 45 rfl) rfl ?_
      exact s_B_bind_91 hc hR hb r46 M hf
  · rw [if_neg q48] at hf
    refine x_aload_n hc (xd dk_B_bind 16 rfl) rfl rfl ?_
    refine x_dup hc (xd dk_B_bind 17 rfl) rfl ?_
    refine x_get hc (ci := 7) (k := 8) fi_B (c_B hb _) rfl (by decide) rfl xw205 rfl (xd dk_B_bind 18 rfl) ?_
    refine x_iconst hc (v := 1) (xd dk_B_bind 19 rfl) (by decide) ?_
    refine x_iadd hc (xd dk_B_bind 20 rfl) ?_
    obtain ⟨x57, hx57, hf⟩ := xval_ex hf
    rw [← hx57]
    refine x_put hc (ci := 7) (k := 8) fi_B ft_B ft_B_ok fn_B (c_B hb _) rfl (by decide) rfl xw205 rfl rfl rfl (Nat.le_of_ble_eq_true rfl) (xd dk_B_bind 21 rfl) ?_
    rw [w_B_8 hb]
    replace hf := xlet_some hf
    generalize wI M (b + 25) 8 x57 = M at hf ⊢
    refine x_aload_n hc (xd dk_B_bind 22 rfl) rfl rfl ?_
    refine x_get hc (ci := 7) (k := 3) fi_B (c_B hb _) rfl (by decide) rfl xw200 rfl (xd dk_B_bind 23 rfl) ?_
    refine x_aload_n hc (xd dk_B_bind 24 rfl) rfl rfl ?_
    refine x_get hc (ci := 7) (k := 4) fi_B (c_B hb _) rfl (by decide) rfl xw201 rfl (xd dk_B_bind 25 rfl) ?_
    refine x_iload_n hc (xd dk_B_bind 26 rfl) rfl rfl ?_
    by_cases q58 : xin p1 60 = true
    case neg => rw [if_neg q58] at hf; cases hf
    rw [if_pos q58] at hf
    refine x_iald hc (cA (xRd.ar hb 26 (by decide) rfl)) (xin_in q58) (xd dk_B_bind 27 rfl) ?_
    refine x_iconst hc (v := 0) (xd dk_B_bind 28 rfl) (by decide) ?_
    obtain ⟨x59, hx59, hf⟩ := xval_ex hf
    rw [← hx59]
    obtain ⟨r60, M, e61, hf⟩ := xbind_some hf
    refine x_callV hc (As := [.int x59, .int 0]) (n := 2) (s_M_add hb e61) (c_M hb _) rfl (hR.call (by decide) (by decide)) ⟨by decide, by decide, by decide⟩ rfl rfl xw467 xw7 xw522 xw465 xw466 (Nat.le_of_ble_eq_true rfl) ⟨Nat.zero_le _, Nat.zero_le _⟩ (xd dk_B_bind 29 rfl) ?_
    cases hf
    exact x_return hc (xd dk_B_bind 30 rfl)
def f_B_judge_79 (b : Nat) (p1 : Int32) (v2 : Int32) (v3 : Int32) (M : xMem) : Option (Unit × xMem) :=
  (xbind (f_H_couldBeConst b p1 M) fun r18 M => if r18 = 0 then (some ((), M)) else (xbind (f_M_add b (v2 - 1) 7 M) fun r21 M => some ((), M)))
def f_B_judge_62 (b : Nat) (p1 : Int32) (v2 : Int32) (v3 : Int32) (M : xMem) : Option (Unit × xMem) :=
  (xbind (f_B_isShadow b p1 M) fun r23 M => if r23 = 0 then (f_B_judge_79 b p1 v2 v3 M) else (xbind (f_M_add b v2 4 M) fun r26 M => f_B_judge_79 b p1 v2 v3 M))
def f_B_judge_37 (b : Nat) (p1 : Int32) (v2 : Int32) (w0 : Int32) (M : xMem) : Option (Unit × xMem) :=
  (xbind (f_H_isRead b p1 M) fun r28 M => if r28 = 0 then (if w0 = 0 then (xbind (f_M_add b v2 1 M) fun r32 M => f_B_judge_62 b p1 v2 w0 M) else (f_B_judge_62 b p1 v2 w0 M)) else (f_B_judge_62 b p1 v2 w0 M))
def f_B_judge_36 (b : Nat) (p1 : Int32) (v2 : Int32) (M : xMem) : Option (Unit × xMem) :=
  (f_B_judge_37 b p1 v2 0 M)
def f_B_judge (b : Nat) (p1 : Int32) (M : xMem) : Option (Unit × xMem) :=
  (if xin p1 60 = true then xval (M.1 (b + 13) p1.toNatClampNeg) fun x35 => xbind (f_H_isParameter b p1 M) fun r36 M => if r36 = 0 then (f_B_judge_36 b p1 x35 M) else (xbind (f_H_isHeldByLater b p1 M) fun r39 M => if r39 = 0 then (f_B_judge_36 b p1 x35 M) else (f_B_judge_37 b p1 x35 1 M)) else none)
set_option maxRecDepth 100000 in
set_option maxHeartbeats 400000 in
theorem s_B_judge_79 {p : Program} {l : Launch} {e : Env} {R : Room} {s : State} {m : MethodId} {args : Array Value} {below : List Frame} {meth : Method} {c : Code} {G : xG} {Y : xY} {sz : Nat} {b : Nat} {p1 : Int32}  (hc : xC p s m args meth c G 4 c_B_judge y_B_judge.cls none) (hR : xRm R 4) (hb : xRd Y b) {M' : xMem} {r : Unit} (v2 : Int32) (v3 : Int32) (M : xMem) (hf : f_B_judge_79 b p1 v2 v3 M = some (r, M')) : xW p l e R s m args below meth c G 4 (MQ below (xQc G none (xo G Y M') sz) args s 0 0 (xA G)) (xo G Y M) sz 0 0 79 [some (.ref (b + 25)), some (.int p1), some (.int v2), some (.int v3)] [] := by
  unfold f_B_judge_79 at hf
  refine x_aload_n hc (xd dk_B_judge 41 rfl) rfl rfl ?_
  refine x_get hc (ci := 7) (k := 2) fi_B (c_B hb _) rfl (by decide) rfl xw199 rfl (xd dk_B_judge 42 rfl) ?_
  refine x_iload_n hc (xd dk_B_judge 43 rfl) rfl rfl ?_
  obtain ⟨r18, M, e19, hf⟩ := xbind_some hf
  refine x_callV hc (As := [.int p1]) (n := 1) (s_H_couldBeConst hb e19) (c_H hb _) rfl (hR.call (by decide) (by decide)) ⟨by decide, by decide, by decide⟩ rfl rfl xw687 xw6 xw684 xw685 xw686 (Nat.le_of_ble_eq_true rfl) ⟨Nat.zero_le _, Nat.zero_le _⟩ (xd dk_B_judge 44 rfl) ?_
  refine x_if_eq hc (tgt := 102) (xd dk_B_judge 45 rfl) rfl (fun q20 => ?_) (fun q20 => ?_)
  · rw [if_pos q20] at hf
    cases hf
    exact x_return hc (xd dk_B_judge 53 rfl)
  · rw [if_neg q20] at hf
    refine x_aload_n hc (xd dk_B_judge 46 rfl) rfl rfl ?_
    refine x_get hc (ci := 7) (k := 3) fi_B (c_B hb _) rfl (by decide) rfl xw200 rfl (xd dk_B_judge 47 rfl) ?_
    refine x_iload_n hc (xd dk_B_judge 48 rfl) rfl rfl ?_
    refine x_iconst hc (v := 1) (xd dk_B_judge 49 rfl) (by decide) ?_
    refine x_isub hc (xd dk_B_judge 50 rfl) ?_
    refine x_bipush hc (v := 7) (xd dk_B_judge 51 rfl) (by decide) ?_
    obtain ⟨r21, M, e22, hf⟩ := xbind_some hf
    refine x_callV hc (As := [.int ((v2 - 1)), .int 7]) (n := 2) (s_M_add hb e22) (c_M hb _) rfl (hR.call (by decide) (by decide)) ⟨by decide, by decide, by decide⟩ rfl rfl xw467 xw7 xw522 xw465 xw466 (Nat.le_of_ble_eq_true rfl) ⟨Nat.zero_le _, Nat.zero_le _⟩ (xd dk_B_judge 52 rfl) ?_
    cases hf
    exact x_return hc (xd dk_B_judge 53 rfl)
set_option maxRecDepth 100000 in
set_option maxHeartbeats 400000 in
theorem s_B_judge_62 {p : Program} {l : Launch} {e : Env} {R : Room} {s : State} {m : MethodId} {args : Array Value} {below : List Frame} {meth : Method} {c : Code} {G : xG} {Y : xY} {sz : Nat} {b : Nat} {p1 : Int32}  (hc : xC p s m args meth c G 4 c_B_judge y_B_judge.cls none) (hR : xRm R 4) (hb : xRd Y b) {M' : xMem} {r : Unit} (v2 : Int32) (v3 : Int32) (M : xMem) (hf : f_B_judge_62 b p1 v2 v3 M = some (r, M')) : xW p l e R s m args below meth c G 4 (MQ below (xQc G none (xo G Y M') sz) args s 0 0 (xA G)) (xo G Y M) sz 0 0 62 [some (.ref (b + 25)), some (.int p1), some (.int v2), some (.int v3)] [] := by
  unfold f_B_judge_62 at hf
  refine x_aload_n hc (xd dk_B_judge 32 rfl) rfl rfl ?_
  refine x_iload_n hc (xd dk_B_judge 33 rfl) rfl rfl ?_
  obtain ⟨r23, M, e24, hf⟩ := xbind_some hf
  refine x_callV hc (As := [.int p1]) (n := 1) (s_B_isShadow hb e24) (c_B hb _) rfl (hR.call (by decide) (by decide)) ⟨by decide, by decide, by decide⟩ rfl rfl xw683 xw8 xw680 xw682 xs_B_isShadow (Nat.le_of_ble_eq_true rfl) ⟨Nat.zero_le _, Nat.zero_le _⟩ (xd dk_B_judge 34 rfl) ?_
  refine x_if_eq hc (tgt := 79) (xd dk_B_judge 35 rfl) rfl (fun q25 => ?_) (fun q25 => ?_)
  · rw [if_pos q25] at hf
    exact s_B_judge_79 hc hR hb v2 v3 M hf
  · rw [if_neg q25] at hf
    refine x_aload_n hc (xd dk_B_judge 36 rfl) rfl rfl ?_
    refine x_get hc (ci := 7) (k := 3) fi_B (c_B hb _) rfl (by decide) rfl xw200 rfl (xd dk_B_judge 37 rfl) ?_
    refine x_iload_n hc (xd dk_B_judge 38 rfl) rfl rfl ?_
    refine x_iconst hc (v := 4) (xd dk_B_judge 39 rfl) (by decide) ?_
    obtain ⟨r26, M, e27, hf⟩ := xbind_some hf
    refine x_callV hc (As := [.int v2, .int 4]) (n := 2) (s_M_add hb e27) (c_M hb _) rfl (hR.call (by decide) (by decide)) ⟨by decide, by decide, by decide⟩ rfl rfl xw467 xw7 xw522 xw465 xw466 (Nat.le_of_ble_eq_true rfl) ⟨Nat.zero_le _, Nat.zero_le _⟩ (xd dk_B_judge 40 rfl) ?_
    exact s_B_judge_79 hc hR hb v2 v3 M hf
set_option maxRecDepth 100000 in
set_option maxHeartbeats 400000 in
theorem s_B_judge_37 {p : Program} {l : Launch} {e : Env} {R : Room} {s : State} {m : MethodId} {args : Array Value} {below : List Frame} {meth : Method} {c : Code} {G : xG} {Y : xY} {sz : Nat} {b : Nat} {p1 : Int32}  (hc : xC p s m args meth c G 4 c_B_judge y_B_judge.cls none) (hR : xRm R 4) (hb : xRd Y b) {M' : xMem} {r : Unit} (v2 : Int32) (w0 : Int32) (M : xMem) (hf : f_B_judge_37 b p1 v2 w0 M = some (r, M')) : xW p l e R s m args below meth c G 4 (MQ below (xQc G none (xo G Y M') sz) args s 0 0 (xA G)) (xo G Y M) sz 0 0 37 [some (.ref (b + 25)), some (.int p1), some (.int v2), none] [.int w0] := by
  unfold f_B_judge_37 at hf
  refine x_istore_n hc (xd dk_B_judge 19 rfl) (by decide) rfl ?_
  refine x_aload_n hc (xd dk_B_judge 20 rfl) rfl rfl ?_
  refine x_get hc (ci := 7) (k := 2) fi_B (c_B hb _) rfl (by decide) rfl xw199 rfl (xd dk_B_judge 21 rfl) ?_
  refine x_iload_n hc (xd dk_B_judge 22 rfl) rfl rfl ?_
  obtain ⟨r28, M, e29, hf⟩ := xbind_some hf
  refine x_callV hc (As := [.int p1]) (n := 1) (s_H_isRead hb e29) (c_H hb _) rfl (hR.call (by decide) (by decide)) ⟨by decide, by decide, by decide⟩ rfl rfl xw678 xw6 xw679 xw676 xw677 (Nat.le_of_ble_eq_true rfl) ⟨Nat.zero_le _, Nat.zero_le _⟩ (xd dk_B_judge 23 rfl) ?_
  refine x_if_ne hc (tgt := 62) (xd dk_B_judge 24 rfl) rfl (fun q30 => ?_) (fun q30 => ?_)
  · rw [if_neg q30] at hf
    exact s_B_judge_62 hc hR hb v2 w0 M hf
  · rw [if_pos q30] at hf
    refine x_iload_n hc (xd dk_B_judge 25 rfl) rfl rfl ?_
    refine x_if_ne hc (tgt := 62) (xd dk_B_judge 26 rfl) rfl (fun q31 => ?_) (fun q31 => ?_)
    · rw [if_neg q31] at hf
      exact s_B_judge_62 hc hR hb v2 w0 M hf
    · rw [if_pos q31] at hf
      refine x_aload_n hc (xd dk_B_judge 27 rfl) rfl rfl ?_
      refine x_get hc (ci := 7) (k := 3) fi_B (c_B hb _) rfl (by decide) rfl xw200 rfl (xd dk_B_judge 28 rfl) ?_
      refine x_iload_n hc (xd dk_B_judge 29 rfl) rfl rfl ?_
      refine x_iconst hc (v := 1) (xd dk_B_judge 30 rfl) (by decide) ?_
      obtain ⟨r32, M, e33, hf⟩ := xbind_some hf
      refine x_callV hc (As := [.int v2, .int 1]) (n := 2) (s_M_add hb e33) (c_M hb _) rfl (hR.call (by decide) (by decide)) ⟨by decide, by decide, by decide⟩ rfl rfl xw467 xw7 xw522 xw465 xw466 (Nat.le_of_ble_eq_true rfl) ⟨Nat.zero_le _, Nat.zero_le _⟩ (xd dk_B_judge 31 rfl) ?_
      exact s_B_judge_62 hc hR hb v2 w0 M hf
set_option maxRecDepth 100000 in
set_option maxHeartbeats 400000 in
theorem s_B_judge_36 {p : Program} {l : Launch} {e : Env} {R : Room} {s : State} {m : MethodId} {args : Array Value} {below : List Frame} {meth : Method} {c : Code} {G : xG} {Y : xY} {sz : Nat} {b : Nat} {p1 : Int32}  (hc : xC p s m args meth c G 4 c_B_judge y_B_judge.cls none) (hR : xRm R 4) (hb : xRd Y b) {M' : xMem} {r : Unit} (v2 : Int32) (M : xMem) (hf : f_B_judge_36 b p1 v2 M = some (r, M')) : xW p l e R s m args below meth c G 4 (MQ below (xQc G none (xo G Y M') sz) args s 0 0 (xA G)) (xo G Y M) sz 0 0 36 [some (.ref (b + 25)), some (.int p1), some (.int v2), none] [] := by
  unfold f_B_judge_36 at hf
  refine x_iconst hc (v := 0) (xd dk_B_judge 18 rfl) (by decide) ?_
  exact s_B_judge_37 hc hR hb v2 0 M hf
set_option maxRecDepth 100000 in
set_option maxHeartbeats 400000 in
theorem s_B_judge {l : Launch} {G : xG} {Y : xY} {sz : Nat} {b : Nat} {p1 : Int32}  (hb : xRd Y b) {M M' : xMem} {r : Unit} (hf : f_B_judge b p1 M = some (r, M')) : xM l G y_B_judge c_B_judge 4 none 4 0 0 [.ref (b + 25), .int p1] (xo G Y M) sz none (xo G Y M') sz := by
  unfold f_B_judge at hf
  refine xM.of (k := 2) (L0 := [some (.ref (b + 25)), some (.int p1), none, none]) (by decide) (Nat.le_of_ble_eq_true rfl) rfl ?_
  intro p e s m args below meth c hc hnm
  have hR : xRm { frames := 4, cells := 0, slots := 0, locals := 48 * 4 } 4 := ⟨Nat.le_refl _, Nat.le_refl _⟩
  refine x_aload_n hc (xd dk_B_judge 0 rfl) rfl rfl ?_
  refine x_get hc (ci := 7) (k := 2) fi_B (c_B hb _) rfl (by decide) rfl xw199 rfl (xd dk_B_judge 1 rfl) ?_
  refine x_getN hc (ci := 5) (k := 0) fi_H (c_H hb _) rfl (by decide) rfl xn131 rfl (xd dk_B_judge 2 rfl) ?_
  refine x_iload_n hc (xd dk_B_judge 3 rfl) rfl rfl ?_
  by_cases q34 : xin p1 60 = true
  case neg => rw [if_neg q34] at hf; cases hf
  rw [if_pos q34] at hf
  refine x_iald hc (cA (xRd.ar hb 13 (by decide) rfl)) (xin_in q34) (xd dk_B_judge 4 rfl) ?_
  refine x_istore_n hc (xd dk_B_judge 5 rfl) (by decide) rfl ?_
  refine x_aload_n hc (xd dk_B_judge 6 rfl) rfl rfl ?_
  refine x_get hc (ci := 7) (k := 2) fi_B (c_B hb _) rfl (by decide) rfl xw199 rfl (xd dk_B_judge 7 rfl) ?_
  refine x_iload_n hc (xd dk_B_judge 8 rfl) rfl rfl ?_
  obtain ⟨x35, hx35, hf⟩ := xval_ex hf
  rw [← hx35]
  obtain ⟨r36, M, e37, hf⟩ := xbind_some hf
  refine x_callV hc (As := [.int p1]) (n := 1) (s_H_isParameter hb e37) (c_H hb _) rfl (hR.call (by decide) (by decide)) ⟨by decide, by decide, by decide⟩ rfl rfl xw669 xw6 xw666 xw667 xw668 (Nat.le_of_ble_eq_true rfl) ⟨Nat.zero_le _, Nat.zero_le _⟩ (xd dk_B_judge 9 rfl) ?_
  refine x_if_eq hc (tgt := 36) (xd dk_B_judge 10 rfl) rfl (fun q38 => ?_) (fun q38 => ?_)
  · rw [if_pos q38] at hf
    exact s_B_judge_36 hc hR hb x35 M hf
  · rw [if_neg q38] at hf
    refine x_aload_n hc (xd dk_B_judge 11 rfl) rfl rfl ?_
    refine x_get hc (ci := 7) (k := 2) fi_B (c_B hb _) rfl (by decide) rfl xw199 rfl (xd dk_B_judge 12 rfl) ?_
    refine x_iload_n hc (xd dk_B_judge 13 rfl) rfl rfl ?_
    obtain ⟨r39, M, e40, hf⟩ := xbind_some hf
    refine x_callV hc (As := [.int p1]) (n := 1) (s_H_isHeldByLater hb e40) (c_H hb _) rfl (hR.call (by decide) (by decide)) ⟨by decide, by decide, by decide⟩ rfl rfl xw673 xw6 xw670 xw671 xw672 (Nat.le_of_ble_eq_true rfl) ⟨Nat.zero_le _, Nat.zero_le _⟩ (xd dk_B_judge 14 rfl) ?_
    refine x_if_eq hc (tgt := 36) (xd dk_B_judge 15 rfl) rfl (fun q41 => ?_) (fun q41 => ?_)
    · rw [if_pos q41] at hf
      exact s_B_judge_36 hc hR hb x35 M hf
    · rw [if_neg q41] at hf
      refine x_iconst hc (v := 1) (xd dk_B_judge 16 rfl) (by decide) ?_
      refine x_goto hc (tgt := 37) (xd dk_B_judge 17 rfl) rfl ?_
      exact s_B_judge_37 hc hR hb x35 1 M hf
def f_G_findingsAt (b : Nat) (p1 : Nat) (p2 : Int32) (M : xMem) : Option (Int32 × xMem) :=
  (xbind (f_G_rulesAt b p1 p2 M) fun r5 M => xbind (f_M_excusedAt p1 p2 M) fun r7 M => some ((r5 &&& (r7 ^^^ (-1))), M))
set_option maxRecDepth 100000 in
set_option maxHeartbeats 400000 in
theorem s_G_findingsAt {l : Launch} {G : xG} {Y : xY} {sz : Nat} {b : Nat} {p1 : Nat} {p2 : Int32}  (hb : xSg Y b) (hp1 : xRd Y p1) {M M' : xMem} {r : Int32} (hf : f_G_findingsAt b p1 p2 M = some (r, M')) : xM l G y_G_findingsAt c_G_findingsAt 3 (some .int) 3 0 0 [.ref b, .ref (p1 + 30), .int p2] (xo G Y M) sz (some (.int r)) (xo G Y M') sz := by
  unfold f_G_findingsAt at hf
  refine xM.of (k := 0) (L0 := [some (.ref b), some (.ref (p1 + 30)), some (.int p2)]) (by decide) (Nat.le_of_ble_eq_true rfl) rfl ?_
  intro p e s m args below meth c hc hnm
  have hR : xRm { frames := 3, cells := 0, slots := 0, locals := 48 * 3 } 3 := ⟨Nat.le_refl _, Nat.le_refl _⟩
  refine x_aload_n hc (xd dk_G_findingsAt 0 rfl) rfl rfl ?_
  refine x_aload_n hc (xd dk_G_findingsAt 1 rfl) rfl rfl ?_
  refine x_iload_n hc (xd dk_G_findingsAt 2 rfl) rfl rfl ?_
  obtain ⟨r5, M, e6, hf⟩ := xbind_some hf
  refine x_callV hc (As := [.ref (p1 + 30), .int p2]) (n := 2) (s_G_rulesAt hb hp1 e6) (c_G hb _) rfl (hR.call (by decide) (by decide)) ⟨by decide, by decide, by decide⟩ rfl rfl xw730 xw3 xw727 xw729 xs_G_rulesAt (Nat.le_of_ble_eq_true rfl) ⟨Nat.zero_le _, Nat.zero_le _⟩ (xd dk_G_findingsAt 3 rfl) ?_
  refine x_aload_n hc (xd dk_G_findingsAt 4 rfl) rfl rfl ?_
  refine x_getN hc (ci := 9) (k := 4) fi_R (c_R hp1 _) rfl (by decide) rfl xn267 rfl (xd dk_G_findingsAt 5 rfl) ?_
  refine x_iload_n hc (xd dk_G_findingsAt 6 rfl) rfl rfl ?_
  obtain ⟨r7, M, e8, hf⟩ := xbind_some hf
  refine x_callV hc (As := [.int p2]) (n := 1) (s_M_excusedAt hp1 e8) (c_M hp1 _) rfl (hR.call (by decide) (by decide)) ⟨by decide, by decide, by decide⟩ rfl rfl xw746 xw7 xw743 xw744 xw745 (Nat.le_of_ble_eq_true rfl) ⟨Nat.zero_le _, Nat.zero_le _⟩ (xd dk_G_findingsAt 7 rfl) ?_
  refine x_iconst hc (v := (-1)) (xd dk_G_findingsAt 8 rfl) (by decide) ?_
  refine x_ixor hc (xd dk_G_findingsAt 9 rfl) ?_
  refine x_iand hc (xd dk_G_findingsAt 10 rfl) ?_
  cases hf
  exact x_ireturn hc (xd dk_G_findingsAt 11 rfl)
def f_G_findingOf_63 (b : Nat) (p1 : Nat) (p2 : Int32) (k5 : Int32 → Int32 → xMem → Option (Int32 × xMem)) (k29 : Int32 → Int32 → Int32 → Int32 → xMem → Option (Int32 × xMem)) (v3 : Int32) (v4 : Int32) (v5 : Int32) (v6 : Int32) (M : xMem) : Option (Int32 × xMem) :=
  (k29 v3 v4 v5 (v6 + Int32.ofInt 1) M)
def f_G_findingOf_29 (b : Nat) (p1 : Nat) (p2 : Int32) (k5 : Int32 → Int32 → xMem → Option (Int32 × xMem)) : Nat → Int32 → Int32 → Int32 → Int32 → xMem → Option (Int32 × xMem)
  | 0, _, _, _, _, _ => none
  | n + 1, v3, v4, v5, v6, M =>
    (if 10 ≤ v6 then (k5 v3 (v4 + Int32.ofInt 1) M) else (if (v5 &&& (1 <<< (v6 &&& 31))) = 0 then (f_G_findingOf_63 b p1 p2 k5 (f_G_findingOf_29 b p1 p2 k5 n) v3 v4 v5 v6 M) else (if v3 = p2 then (some (((v4 * 10) + v6), M)) else (f_G_findingOf_63 b p1 p2 k5 (f_G_findingOf_29 b p1 p2 k5 n) (v3 + Int32.ofInt 1) v4 v5 v6 M))))
def f_G_findingOf_5 (b : Nat) (p1 : Nat) (p2 : Int32) : Nat → Int32 → Int32 → xMem → Option (Int32 × xMem)
  | 0, _, _, _ => none
  | n + 1, v3, v4, M =>
    (if M.1 (p1 + 2) 6 ≤ v4 then (some ((-1), M)) else (xbind (f_G_findingsAt b p1 v4 M) fun r7 M => f_G_findingOf_29 b p1 p2 (f_G_findingOf_5 b p1 p2 n) xFuel v3 v4 r7 0 M))
def f_G_findingOf (b : Nat) (p1 : Nat) (p2 : Int32) (M : xMem) : Option (Int32 × xMem) :=
  (f_G_findingOf_5 b p1 p2 xFuel 0 0 M)
set_option maxRecDepth 100000 in
set_option maxHeartbeats 400000 in
theorem s_G_findingOf_63 {p : Program} {l : Launch} {e : Env} {R : Room} {s : State} {m : MethodId} {args : Array Value} {below : List Frame} {meth : Method} {c : Code} {G : xG} {Y : xY} {sz : Nat} {b : Nat} {p1 : Nat} {p2 : Int32}  (hc : xC p s m args meth c G 7 c_G_findingOf y_G_findingOf.cls (some .int)) (hR : xRm R 4) (hb : xSg Y b) (hp1 : xRd Y p1) {k5 : Int32 → Int32 → xMem → Option (Int32 × xMem)} {k29 : Int32 → Int32 → Int32 → Int32 → xMem → Option (Int32 × xMem)} {M' : xMem} {r : Int32} (hk5 : ∀ (v3 : Int32) (v4 : Int32) (M : xMem), k5 v3 v4 M = some (r, M') → xW p l e R s m args below meth c G 7 (MQ below (xQc G (some (.int r)) (xo G Y M') sz) args s 0 0 (xA G)) (xo G Y M) sz 0 0 5 [some (.ref b), some (.ref (p1 + 30)), some (.int p2), some (.int v3), some (.int v4), none, none] []) (hk29 : ∀ (v3 : Int32) (v4 : Int32) (v5 : Int32) (v6 : Int32) (M : xMem), k29 v3 v4 v5 v6 M = some (r, M') → xW p l e R s m args below meth c G 7 (MQ below (xQc G (some (.int r)) (xo G Y M') sz) args s 0 0 (xA G)) (xo G Y M) sz 0 0 29 [some (.ref b), some (.ref (p1 + 30)), some (.int p2), some (.int v3), some (.int v4), some (.int v5), some (.int v6)] []) (v3 : Int32) (v4 : Int32) (v5 : Int32) (v6 : Int32) (M : xMem) (hf : f_G_findingOf_63 b p1 p2 k5 k29 v3 v4 v5 v6 M = some (r, M')) : xW p l e R s m args below meth c G 7 (MQ below (xQc G (some (.int r)) (xo G Y M') sz) args s 0 0 (xA G)) (xo G Y M) sz 0 0 63 [some (.ref b), some (.ref (p1 + 30)), some (.int p2), some (.int v3), some (.int v4), some (.int v5), some (.int v6)] [] := by
  unfold f_G_findingOf_63 at hf
  refine x_iinc hc (xd dk_G_findingOf 35 rfl) rfl (by decide) rfl ?_
  refine x_goto hc (tgt := 29) (xd dk_G_findingOf 36 rfl) rfl ?_
  exact hk29 v3 v4 v5 (v6 + Int32.ofInt 1) M hf
set_option maxRecDepth 100000 in
set_option maxHeartbeats 400000 in
theorem s_G_findingOf_29 {p : Program} {l : Launch} {e : Env} {R : Room} {s : State} {m : MethodId} {args : Array Value} {below : List Frame} {meth : Method} {c : Code} {G : xG} {Y : xY} {sz : Nat} {b : Nat} {p1 : Nat} {p2 : Int32}  (hc : xC p s m args meth c G 7 c_G_findingOf y_G_findingOf.cls (some .int)) (hR : xRm R 4) (hb : xSg Y b) (hp1 : xRd Y p1) {k5 : Int32 → Int32 → xMem → Option (Int32 × xMem)} {M' : xMem} {r : Int32} (hk5 : ∀ (v3 : Int32) (v4 : Int32) (M : xMem), k5 v3 v4 M = some (r, M') → xW p l e R s m args below meth c G 7 (MQ below (xQc G (some (.int r)) (xo G Y M') sz) args s 0 0 (xA G)) (xo G Y M) sz 0 0 5 [some (.ref b), some (.ref (p1 + 30)), some (.int p2), some (.int v3), some (.int v4), none, none] []) : ∀ (n : Nat) (v3 : Int32) (v4 : Int32) (v5 : Int32) (v6 : Int32) (M : xMem), f_G_findingOf_29 b p1 p2 k5 n v3 v4 v5 v6 M = some (r, M') → xW p l e R s m args below meth c G 7 (MQ below (xQc G (some (.int r)) (xo G Y M') sz) args s 0 0 (xA G)) (xo G Y M) sz 0 0 29 [some (.ref b), some (.ref (p1 + 30)), some (.int p2), some (.int v3), some (.int v4), some (.int v5), some (.int v6)] [] := by
  intro n
  induction n with
  | zero => intro v3 v4 v5 v6 M hf; simp only [f_G_findingOf_29] at hf; cases hf
  | succ n ih =>
    intro v3 v4 v5 v6 M hf
    simp only [f_G_findingOf_29] at hf
    refine x_iload hc (xd dk_G_findingOf 16 rfl) rfl ?_
    refine x_bipush hc (v := 10) (xd dk_G_findingOf 17 rfl) (by decide) ?_
    refine x_icmp_ge hc (tgt := 69) (xd dk_G_findingOf 18 rfl) rfl (fun q3 => ?_) (fun q3 => ?_)
    · rw [if_pos q3] at hf
      refine x_iinc hc (xd dk_G_findingOf 37 rfl) rfl (by decide) rfl ?_
      refine x_goto hc (tgt := 5) (xd dk_G_findingOf 38 rfl) rfl ?_
      refine x_drop 5 ?_
      refine x_drop 6 ?_
      exact hk5 v3 (v4 + Int32.ofInt 1) M hf
    · rw [if_neg q3] at hf
      refine x_iload hc (xd dk_G_findingOf 19 rfl) rfl ?_
      refine x_iconst hc (v := 1) (xd dk_G_findingOf 20 rfl) (by decide) ?_
      refine x_iload hc (xd dk_G_findingOf 21 rfl) rfl ?_
      refine x_ishl hc (xd dk_G_findingOf 22 rfl) ?_
      refine x_iand hc (xd dk_G_findingOf 23 rfl) ?_
      refine x_if_eq hc (tgt := 63) (xd dk_G_findingOf 24 rfl) rfl (fun q4 => ?_) (fun q4 => ?_)
      · rw [if_pos q4] at hf
        exact s_G_findingOf_63 hc hR hb hp1 hk5 ih v3 v4 v5 v6 M hf
      · rw [if_neg q4] at hf
        refine x_iload_n hc (xd dk_G_findingOf 25 rfl) rfl rfl ?_
        refine x_iload_n hc (xd dk_G_findingOf 26 rfl) rfl rfl ?_
        refine x_icmp_ne hc (tgt := 60) (xd dk_G_findingOf 27 rfl) rfl (fun q5 => ?_) (fun q5 => ?_)
        · rw [if_neg q5] at hf
          refine x_iinc hc (xd dk_G_findingOf 34 rfl) rfl (by decide) rfl ?_
          exact s_G_findingOf_63 hc hR hb hp1 hk5 ih (v3 + Int32.ofInt 1) v4 v5 v6 M hf
        · rw [if_pos q5] at hf
          refine x_iload hc (xd dk_G_findingOf 28 rfl) rfl ?_
          refine x_bipush hc (v := 10) (xd dk_G_findingOf 29 rfl) (by decide) ?_
          refine x_imul hc (xd dk_G_findingOf 30 rfl) ?_
          refine x_iload hc (xd dk_G_findingOf 31 rfl) rfl ?_
          refine x_iadd hc (xd dk_G_findingOf 32 rfl) ?_
          cases hf
          exact x_ireturn hc (xd dk_G_findingOf 33 rfl)
set_option maxRecDepth 100000 in
set_option maxHeartbeats 400000 in
theorem s_G_findingOf_5 {p : Program} {l : Launch} {e : Env} {R : Room} {s : State} {m : MethodId} {args : Array Value} {below : List Frame} {meth : Method} {c : Code} {G : xG} {Y : xY} {sz : Nat} {b : Nat} {p1 : Nat} {p2 : Int32}  (hc : xC p s m args meth c G 7 c_G_findingOf y_G_findingOf.cls (some .int)) (hR : xRm R 4) (hb : xSg Y b) (hp1 : xRd Y p1) {M' : xMem} {r : Int32} : ∀ (n : Nat) (v3 : Int32) (v4 : Int32) (M : xMem), f_G_findingOf_5 b p1 p2 n v3 v4 M = some (r, M') → xW p l e R s m args below meth c G 7 (MQ below (xQc G (some (.int r)) (xo G Y M') sz) args s 0 0 (xA G)) (xo G Y M) sz 0 0 5 [some (.ref b), some (.ref (p1 + 30)), some (.int p2), some (.int v3), some (.int v4), none, none] [] := by
  intro n
  induction n with
  | zero => intro v3 v4 M hf; simp only [f_G_findingOf_5] at hf; cases hf
  | succ n ih =>
    intro v3 v4 M hf
    simp only [f_G_findingOf_5] at hf
    refine x_iload hc (xd dk_G_findingOf 4 rfl) rfl ?_
    refine x_aload_n hc (xd dk_G_findingOf 5 rfl) rfl rfl ?_
    refine x_getN hc (ci := 9) (k := 1) fi_R (c_R hp1 _) rfl (by decide) rfl xn260 rfl (xd dk_G_findingOf 6 rfl) ?_
    refine x_getN hc (ci := 3) (k := 6) fi_T (c_T hp1 _) rfl (by decide) rfl xn86 rfl (xd dk_G_findingOf 7 rfl) ?_
    refine x_icmp_ge hc (tgt := 75) (xd dk_G_findingOf 8 rfl) rfl (fun q6 => ?_) (fun q6 => ?_)
    · rw [if_pos q6] at hf
      refine x_iconst hc (v := (-1)) (xd dk_G_findingOf 39 rfl) (by decide) ?_
      cases hf
      exact x_ireturn hc (xd dk_G_findingOf 40 rfl)
    · rw [if_neg q6] at hf
      refine x_aload_n hc (xd dk_G_findingOf 9 rfl) rfl rfl ?_
      refine x_aload_n hc (xd dk_G_findingOf 10 rfl) rfl rfl ?_
      refine x_iload hc (xd dk_G_findingOf 11 rfl) rfl ?_
      obtain ⟨r7, M, e8, hf⟩ := xbind_some hf
      refine x_callV hc (As := [.ref (p1 + 30), .int v4]) (n := 2) (s_G_findingsAt hb hp1 e8) (c_G hb _) rfl (hR.call (by decide) (by decide)) ⟨by decide, by decide, by decide⟩ rfl rfl xw726 xw3 xw723 xw725 xs_G_findingsAt (Nat.le_of_ble_eq_true rfl) ⟨Nat.zero_le _, Nat.zero_le _⟩ (xd dk_G_findingOf 12 rfl) ?_
      refine x_istore hc (xd dk_G_findingOf 13 rfl) (by decide) rfl ?_
      refine x_iconst hc (v := 0) (xd dk_G_findingOf 14 rfl) (by decide) ?_
      refine x_istore hc (xd dk_G_findingOf 15 rfl) (by decide) rfl ?_
      exact s_G_findingOf_29 hc hR hb hp1 ih xFuel v3 v4 r7 0 M hf
set_option maxRecDepth 100000 in
set_option maxHeartbeats 400000 in
theorem s_G_findingOf {l : Launch} {G : xG} {Y : xY} {sz : Nat} {b : Nat} {p1 : Nat} {p2 : Int32}  (hb : xSg Y b) (hp1 : xRd Y p1) {M M' : xMem} {r : Int32} (hf : f_G_findingOf b p1 p2 M = some (r, M')) : xM l G y_G_findingOf c_G_findingOf 7 (some .int) 4 0 0 [.ref b, .ref (p1 + 30), .int p2] (xo G Y M) sz (some (.int r)) (xo G Y M') sz := by
  unfold f_G_findingOf at hf
  refine xM.of (k := 4) (L0 := [some (.ref b), some (.ref (p1 + 30)), some (.int p2), none, none, none, none]) (by decide) (Nat.le_of_ble_eq_true rfl) rfl ?_
  intro p e s m args below meth c hc hnm
  have hR : xRm { frames := 4, cells := 0, slots := 0, locals := 48 * 4 } 4 := ⟨Nat.le_refl _, Nat.le_refl _⟩
  refine x_iconst hc (v := 0) (xd dk_G_findingOf 0 rfl) (by decide) ?_
  refine x_istore_n hc (xd dk_G_findingOf 1 rfl) (by decide) rfl ?_
  refine x_iconst hc (v := 0) (xd dk_G_findingOf 2 rfl) (by decide) ?_
  refine x_istore hc (xd dk_G_findingOf 3 rfl) (by decide) rfl ?_
  exact s_G_findingOf_5 hc hR hb hp1 xFuel 0 0 M hf
def f_B_bindAll_23 (b : Nat) : Nat → Int32 → xMem → Option (Unit × xMem)
  | 0, _, _ => none
  | n + 1, v1, M =>
    (if M.1 (b + 12) 8 ≤ v1 then (some ((), M)) else (xbind (f_B_judge b v1 M) fun r6 M => f_B_bindAll_23 b n (v1 + Int32.ofInt 1) M))
def f_B_bindAll_2 (b : Nat) : Nat → Int32 → xMem → Option (Unit × xMem)
  | 0, _, _ => none
  | n + 1, v1, M =>
    (if M.1 (b + 25) 7 ≤ v1 then (f_B_bindAll_23 b xFuel 0 M) else (xbind (f_B_bind b v1 M) fun r9 M => f_B_bindAll_2 b n (v1 + Int32.ofInt 1) M))
def f_B_bindAll (b : Nat) (M : xMem) : Option (Unit × xMem) :=
  (f_B_bindAll_2 b xFuel 0 M)
set_option maxRecDepth 100000 in
set_option maxHeartbeats 400000 in
theorem s_B_bindAll_23 {p : Program} {l : Launch} {e : Env} {R : Room} {s : State} {m : MethodId} {args : Array Value} {below : List Frame} {meth : Method} {c : Code} {G : xG} {Y : xY} {sz : Nat} {b : Nat}  (hc : xC p s m args meth c G 2 c_B_bindAll y_B_bindAll.cls none) (hR : xRm R 5) (hb : xRd Y b) {M' : xMem} {r : Unit} : ∀ (n : Nat) (v1 : Int32) (M : xMem), f_B_bindAll_23 b n v1 M = some (r, M') → xW p l e R s m args below meth c G 2 (MQ below (xQc G none (xo G Y M') sz) args s 0 0 (xA G)) (xo G Y M) sz 0 0 23 [some (.ref (b + 25)), some (.int v1)] [] := by
  intro n
  induction n with
  | zero => intro v1 M hf; simp only [f_B_bindAll_23] at hf; cases hf
  | succ n ih =>
    intro v1 M hf
    simp only [f_B_bindAll_23] at hf
    refine x_iload_n hc (xd dk_B_bindAll 13 rfl) rfl rfl ?_
    refine x_aload_n hc (xd dk_B_bindAll 14 rfl) rfl rfl ?_
    refine x_get hc (ci := 7) (k := 2) fi_B (c_B hb _) rfl (by decide) rfl xw199 rfl (xd dk_B_bindAll 15 rfl) ?_
    refine x_getN hc (ci := 5) (k := 8) fi_H (c_H hb _) rfl (by decide) rfl xn153 rfl (xd dk_B_bindAll 16 rfl) ?_
    refine x_icmp_ge hc (tgt := 45) (xd dk_B_bindAll 17 rfl) rfl (fun q5 => ?_) (fun q5 => ?_)
    · rw [if_pos q5] at hf
      cases hf
      exact x_return hc (xd dk_B_bindAll 23 rfl)
    · rw [if_neg q5] at hf
      refine x_aload_n hc (xd dk_B_bindAll 18 rfl) rfl rfl ?_
      refine x_iload_n hc (xd dk_B_bindAll 19 rfl) rfl rfl ?_
      obtain ⟨r6, M, e7, hf⟩ := xbind_some hf
      refine x_callV hc (As := [.int v1]) (n := 1) (s_B_judge hb e7) (c_B hb _) rfl (hR.call (by decide) (by decide)) ⟨by decide, by decide, by decide⟩ rfl rfl xw665 xw8 xw662 xw664 xs_B_judge (Nat.le_of_ble_eq_true rfl) ⟨Nat.zero_le _, Nat.zero_le _⟩ (xd dk_B_bindAll 20 rfl) ?_
      refine x_iinc hc (xd dk_B_bindAll 21 rfl) rfl (by decide) rfl ?_
      refine x_goto hc (tgt := 23) (xd dk_B_bindAll 22 rfl) rfl ?_
      exact ih (v1 + Int32.ofInt 1) M hf
set_option maxRecDepth 100000 in
set_option maxHeartbeats 400000 in
theorem s_B_bindAll_2 {p : Program} {l : Launch} {e : Env} {R : Room} {s : State} {m : MethodId} {args : Array Value} {below : List Frame} {meth : Method} {c : Code} {G : xG} {Y : xY} {sz : Nat} {b : Nat}  (hc : xC p s m args meth c G 2 c_B_bindAll y_B_bindAll.cls none) (hR : xRm R 5) (hb : xRd Y b) {M' : xMem} {r : Unit} : ∀ (n : Nat) (v1 : Int32) (M : xMem), f_B_bindAll_2 b n v1 M = some (r, M') → xW p l e R s m args below meth c G 2 (MQ below (xQc G none (xo G Y M') sz) args s 0 0 (xA G)) (xo G Y M) sz 0 0 2 [some (.ref (b + 25)), some (.int v1)] [] := by
  intro n
  induction n with
  | zero => intro v1 M hf; simp only [f_B_bindAll_2] at hf; cases hf
  | succ n ih =>
    intro v1 M hf
    simp only [f_B_bindAll_2] at hf
    refine x_iload_n hc (xd dk_B_bindAll 2 rfl) rfl rfl ?_
    refine x_aload_n hc (xd dk_B_bindAll 3 rfl) rfl rfl ?_
    refine x_get hc (ci := 7) (k := 7) fi_B (c_B hb _) rfl (by decide) rfl xw204 rfl (xd dk_B_bindAll 4 rfl) ?_
    refine x_icmp_ge hc (tgt := 21) (xd dk_B_bindAll 5 rfl) rfl (fun q8 => ?_) (fun q8 => ?_)
    · rw [if_pos q8] at hf
      refine x_iconst hc (v := 0) (xd dk_B_bindAll 11 rfl) (by decide) ?_
      refine x_istore_n hc (xd dk_B_bindAll 12 rfl) (by decide) rfl ?_
      exact s_B_bindAll_23 hc hR hb xFuel 0 M hf
    · rw [if_neg q8] at hf
      refine x_aload_n hc (xd dk_B_bindAll 6 rfl) rfl rfl ?_
      refine x_iload_n hc (xd dk_B_bindAll 7 rfl) rfl rfl ?_
      obtain ⟨r9, M, e10, hf⟩ := xbind_some hf
      refine x_callV hc (As := [.int v1]) (n := 1) (s_B_bind hb e10) (c_B hb _) rfl (hR.call (by decide) (by decide)) ⟨by decide, by decide, by decide⟩ rfl rfl xw644 xw8 xw641 xw643 xs_B_bind (Nat.le_of_ble_eq_true rfl) ⟨Nat.zero_le _, Nat.zero_le _⟩ (xd dk_B_bindAll 8 rfl) ?_
      refine x_iinc hc (xd dk_B_bindAll 9 rfl) rfl (by decide) rfl ?_
      refine x_goto hc (tgt := 2) (xd dk_B_bindAll 10 rfl) rfl ?_
      exact ih (v1 + Int32.ofInt 1) M hf
set_option maxRecDepth 100000 in
set_option maxHeartbeats 400000 in
theorem s_B_bindAll {l : Launch} {G : xG} {Y : xY} {sz : Nat} {b : Nat}  (hb : xRd Y b) {M M' : xMem} {r : Unit} (hf : f_B_bindAll b M = some (r, M')) : xM l G y_B_bindAll c_B_bindAll 2 none 5 0 0 [.ref (b + 25)] (xo G Y M) sz none (xo G Y M') sz := by
  unfold f_B_bindAll at hf
  refine xM.of (k := 1) (L0 := [some (.ref (b + 25)), none]) (by decide) (Nat.le_of_ble_eq_true rfl) rfl ?_
  intro p e s m args below meth c hc hnm
  have hR : xRm { frames := 5, cells := 0, slots := 0, locals := 48 * 5 } 5 := ⟨Nat.le_refl _, Nat.le_refl _⟩
  refine x_iconst hc (v := 0) (xd dk_B_bindAll 0 rfl) (by decide) ?_
  refine x_istore_n hc (xd dk_B_bindAll 1 rfl) (by decide) rfl ?_
  exact s_B_bindAll_2 hc hR hb xFuel 0 M hf
def f_G_mendableAt_60 (b : Nat) (p1 : Nat) (p2 : Int32) (k11 : Int32 → Int32 → xMem → Option (Int32 × xMem)) (v3 : Int32) (v4 : Int32) (v5 : Int32) (M : xMem) : Option (Int32 × xMem) :=
  (k11 v3 (v4 + Int32.ofInt 1) M)
def f_G_mendableAt_41 (b : Nat) (p1 : Nat) (p2 : Int32) (k11 : Int32 → Int32 → xMem → Option (Int32 × xMem)) (v3 : Int32) (v4 : Int32) (w0 : Int32) (M : xMem) : Option (Int32 × xMem) :=
  (if (v3 &&& (1 <<< (v4 &&& 31))) = 0 then (f_G_mendableAt_60 b p1 p2 k11 v3 v4 w0 M) else (if w0 = 0 then (some (v4, M)) else (f_G_mendableAt_60 b p1 p2 k11 v3 v4 w0 M)))
def f_G_mendableAt_40 (b : Nat) (p1 : Nat) (p2 : Int32) (k11 : Int32 → Int32 → xMem → Option (Int32 × xMem)) (v3 : Int32) (v4 : Int32) (M : xMem) : Option (Int32 × xMem) :=
  (f_G_mendableAt_41 b p1 p2 k11 v3 v4 0 M)
def f_G_mendableAt_11 (b : Nat) (p1 : Nat) (p2 : Int32) : Nat → Int32 → Int32 → xMem → Option (Int32 × xMem)
  | 0, _, _, _ => none
  | n + 1, v3, v4, M =>
    (if 9 < v4 then (some ((-1), M)) else (if v4 = 8 then (xbind (f_M_isLoose p1 p2 M) fun r9 M => if r9 = 0 then (f_G_mendableAt_41 b p1 p2 (f_G_mendableAt_11 b p1 p2 n) v3 v4 1 M) else (f_G_mendableAt_40 b p1 p2 (f_G_mendableAt_11 b p1 p2 n) v3 v4 M)) else (f_G_mendableAt_40 b p1 p2 (f_G_mendableAt_11 b p1 p2 n) v3 v4 M)))
def f_G_mendableAt (b : Nat) (p1 : Nat) (p2 : Int32) (M : xMem) : Option (Int32 × xMem) :=
  (xbind (f_G_findingsAt b p1 p2 M) fun r12 M => f_G_mendableAt_11 b p1 p2 xFuel r12 6 M)
set_option maxRecDepth 100000 in
set_option maxHeartbeats 400000 in
theorem s_G_mendableAt_60 {p : Program} {l : Launch} {e : Env} {R : Room} {s : State} {m : MethodId} {args : Array Value} {below : List Frame} {meth : Method} {c : Code} {G : xG} {Y : xY} {sz : Nat} {b : Nat} {p1 : Nat} {p2 : Int32}  (hc : xC p s m args meth c G 6 c_G_mendableAt y_G_mendableAt.cls (some .int)) (hR : xRm R 4) (hb : xSg Y b) (hp1 : xRd Y p1) {k11 : Int32 → Int32 → xMem → Option (Int32 × xMem)} {M' : xMem} {r : Int32} (hk11 : ∀ (v3 : Int32) (v4 : Int32) (M : xMem), k11 v3 v4 M = some (r, M') → xW p l e R s m args below meth c G 6 (MQ below (xQc G (some (.int r)) (xo G Y M') sz) args s 0 0 (xA G)) (xo G Y M) sz 0 0 11 [some (.ref b), some (.ref (p1 + 30)), some (.int p2), some (.int v3), some (.int v4), none] []) (v3 : Int32) (v4 : Int32) (v5 : Int32) (M : xMem) (hf : f_G_mendableAt_60 b p1 p2 k11 v3 v4 v5 M = some (r, M')) : xW p l e R s m args below meth c G 6 (MQ below (xQc G (some (.int r)) (xo G Y M') sz) args s 0 0 (xA G)) (xo G Y M) sz 0 0 60 [some (.ref b), some (.ref (p1 + 30)), some (.int p2), some (.int v3), some (.int v4), some (.int v5)] [] := by
  unfold f_G_mendableAt_60 at hf
  refine x_iinc hc (xd dk_G_mendableAt 32 rfl) rfl (by decide) rfl ?_
  refine x_goto hc (tgt := 11) (xd dk_G_mendableAt 33 rfl) rfl ?_
  refine x_drop 5 ?_
  exact hk11 v3 (v4 + Int32.ofInt 1) M hf
set_option maxRecDepth 100000 in
set_option maxHeartbeats 400000 in
theorem s_G_mendableAt_41 {p : Program} {l : Launch} {e : Env} {R : Room} {s : State} {m : MethodId} {args : Array Value} {below : List Frame} {meth : Method} {c : Code} {G : xG} {Y : xY} {sz : Nat} {b : Nat} {p1 : Nat} {p2 : Int32}  (hc : xC p s m args meth c G 6 c_G_mendableAt y_G_mendableAt.cls (some .int)) (hR : xRm R 4) (hb : xSg Y b) (hp1 : xRd Y p1) {k11 : Int32 → Int32 → xMem → Option (Int32 × xMem)} {M' : xMem} {r : Int32} (hk11 : ∀ (v3 : Int32) (v4 : Int32) (M : xMem), k11 v3 v4 M = some (r, M') → xW p l e R s m args below meth c G 6 (MQ below (xQc G (some (.int r)) (xo G Y M') sz) args s 0 0 (xA G)) (xo G Y M) sz 0 0 11 [some (.ref b), some (.ref (p1 + 30)), some (.int p2), some (.int v3), some (.int v4), none] []) (v3 : Int32) (v4 : Int32) (w0 : Int32) (M : xMem) (hf : f_G_mendableAt_41 b p1 p2 k11 v3 v4 w0 M = some (r, M')) : xW p l e R s m args below meth c G 6 (MQ below (xQc G (some (.int r)) (xo G Y M') sz) args s 0 0 (xA G)) (xo G Y M) sz 0 0 41 [some (.ref b), some (.ref (p1 + 30)), some (.int p2), some (.int v3), some (.int v4), none] [.int w0] := by
  unfold f_G_mendableAt_41 at hf
  refine x_istore hc (xd dk_G_mendableAt 21 rfl) (by decide) rfl ?_
  refine x_iload_n hc (xd dk_G_mendableAt 22 rfl) rfl rfl ?_
  refine x_iconst hc (v := 1) (xd dk_G_mendableAt 23 rfl) (by decide) ?_
  refine x_iload hc (xd dk_G_mendableAt 24 rfl) rfl ?_
  refine x_ishl hc (xd dk_G_mendableAt 25 rfl) ?_
  refine x_iand hc (xd dk_G_mendableAt 26 rfl) ?_
  refine x_if_eq hc (tgt := 60) (xd dk_G_mendableAt 27 rfl) rfl (fun q5 => ?_) (fun q5 => ?_)
  · rw [if_pos q5] at hf
    exact s_G_mendableAt_60 hc hR hb hp1 hk11 v3 v4 w0 M hf
  · rw [if_neg q5] at hf
    refine x_iload hc (xd dk_G_mendableAt 28 rfl) rfl ?_
    refine x_if_ne hc (tgt := 60) (xd dk_G_mendableAt 29 rfl) rfl (fun q6 => ?_) (fun q6 => ?_)
    · rw [if_neg q6] at hf
      exact s_G_mendableAt_60 hc hR hb hp1 hk11 v3 v4 w0 M hf
    · rw [if_pos q6] at hf
      refine x_iload hc (xd dk_G_mendableAt 30 rfl) rfl ?_
      cases hf
      exact x_ireturn hc (xd dk_G_mendableAt 31 rfl)
set_option maxRecDepth 100000 in
set_option maxHeartbeats 400000 in
theorem s_G_mendableAt_40 {p : Program} {l : Launch} {e : Env} {R : Room} {s : State} {m : MethodId} {args : Array Value} {below : List Frame} {meth : Method} {c : Code} {G : xG} {Y : xY} {sz : Nat} {b : Nat} {p1 : Nat} {p2 : Int32}  (hc : xC p s m args meth c G 6 c_G_mendableAt y_G_mendableAt.cls (some .int)) (hR : xRm R 4) (hb : xSg Y b) (hp1 : xRd Y p1) {k11 : Int32 → Int32 → xMem → Option (Int32 × xMem)} {M' : xMem} {r : Int32} (hk11 : ∀ (v3 : Int32) (v4 : Int32) (M : xMem), k11 v3 v4 M = some (r, M') → xW p l e R s m args below meth c G 6 (MQ below (xQc G (some (.int r)) (xo G Y M') sz) args s 0 0 (xA G)) (xo G Y M) sz 0 0 11 [some (.ref b), some (.ref (p1 + 30)), some (.int p2), some (.int v3), some (.int v4), none] []) (v3 : Int32) (v4 : Int32) (M : xMem) (hf : f_G_mendableAt_40 b p1 p2 k11 v3 v4 M = some (r, M')) : xW p l e R s m args below meth c G 6 (MQ below (xQc G (some (.int r)) (xo G Y M') sz) args s 0 0 (xA G)) (xo G Y M) sz 0 0 40 [some (.ref b), some (.ref (p1 + 30)), some (.int p2), some (.int v3), some (.int v4), none] [] := by
  unfold f_G_mendableAt_40 at hf
  refine x_iconst hc (v := 0) (xd dk_G_mendableAt 20 rfl) (by decide) ?_
  exact s_G_mendableAt_41 hc hR hb hp1 hk11 v3 v4 0 M hf
set_option maxRecDepth 100000 in
set_option maxHeartbeats 400000 in
theorem s_G_mendableAt_11 {p : Program} {l : Launch} {e : Env} {R : Room} {s : State} {m : MethodId} {args : Array Value} {below : List Frame} {meth : Method} {c : Code} {G : xG} {Y : xY} {sz : Nat} {b : Nat} {p1 : Nat} {p2 : Int32}  (hc : xC p s m args meth c G 6 c_G_mendableAt y_G_mendableAt.cls (some .int)) (hR : xRm R 4) (hb : xSg Y b) (hp1 : xRd Y p1) {M' : xMem} {r : Int32} : ∀ (n : Nat) (v3 : Int32) (v4 : Int32) (M : xMem), f_G_mendableAt_11 b p1 p2 n v3 v4 M = some (r, M') → xW p l e R s m args below meth c G 6 (MQ below (xQc G (some (.int r)) (xo G Y M') sz) args s 0 0 (xA G)) (xo G Y M) sz 0 0 11 [some (.ref b), some (.ref (p1 + 30)), some (.int p2), some (.int v3), some (.int v4), none] [] := by
  intro n
  induction n with
  | zero => intro v3 v4 M hf; simp only [f_G_mendableAt_11] at hf; cases hf
  | succ n ih =>
    intro v3 v4 M hf
    simp only [f_G_mendableAt_11] at hf
    refine x_iload hc (xd dk_G_mendableAt 7 rfl) rfl ?_
    refine x_bipush hc (v := 9) (xd dk_G_mendableAt 8 rfl) (by decide) ?_
    refine x_icmp_gt hc (tgt := 66) (xd dk_G_mendableAt 9 rfl) rfl (fun q7 => ?_) (fun q7 => ?_)
    · rw [if_pos q7] at hf
      refine x_iconst hc (v := (-1)) (xd dk_G_mendableAt 34 rfl) (by decide) ?_
      cases hf
      exact x_ireturn hc (xd dk_G_mendableAt 35 rfl)
    · rw [if_neg q7] at hf
      refine x_iload hc (xd dk_G_mendableAt 10 rfl) rfl ?_
      refine x_bipush hc (v := 8) (xd dk_G_mendableAt 11 rfl) (by decide) ?_
      refine x_icmp_ne hc (tgt := 40) (xd dk_G_mendableAt 12 rfl) rfl (fun q8 => ?_) (fun q8 => ?_)
      · rw [if_neg q8] at hf
        exact s_G_mendableAt_40 hc hR hb hp1 ih v3 v4 M hf
      · rw [if_pos q8] at hf
        refine x_aload_n hc (xd dk_G_mendableAt 13 rfl) rfl rfl ?_
        refine x_getN hc (ci := 9) (k := 4) fi_R (c_R hp1 _) rfl (by decide) rfl xn267 rfl (xd dk_G_mendableAt 14 rfl) ?_
        refine x_iload_n hc (xd dk_G_mendableAt 15 rfl) rfl rfl ?_
        obtain ⟨r9, M, e10, hf⟩ := xbind_some hf
        refine x_callV hc (As := [.int p2]) (n := 1) (s_M_isLoose hp1 e10) (c_M hp1 _) rfl (hR.call (by decide) (by decide)) ⟨by decide, by decide, by decide⟩ rfl rfl xw750 xw7 xw747 xw748 xw749 (Nat.le_of_ble_eq_true rfl) ⟨Nat.zero_le _, Nat.zero_le _⟩ (xd dk_G_mendableAt 16 rfl) ?_
        refine x_if_ne hc (tgt := 40) (xd dk_G_mendableAt 17 rfl) rfl (fun q11 => ?_) (fun q11 => ?_)
        · rw [if_neg q11] at hf
          exact s_G_mendableAt_40 hc hR hb hp1 ih v3 v4 M hf
        · rw [if_pos q11] at hf
          refine x_iconst hc (v := 1) (xd dk_G_mendableAt 18 rfl) (by decide) ?_
          refine x_goto hc (tgt := 41) (xd dk_G_mendableAt 19 rfl) rfl ?_
          exact s_G_mendableAt_41 hc hR hb hp1 ih v3 v4 1 M hf
set_option maxRecDepth 100000 in
set_option maxHeartbeats 400000 in
theorem s_G_mendableAt {l : Launch} {G : xG} {Y : xY} {sz : Nat} {b : Nat} {p1 : Nat} {p2 : Int32}  (hb : xSg Y b) (hp1 : xRd Y p1) {M M' : xMem} {r : Int32} (hf : f_G_mendableAt b p1 p2 M = some (r, M')) : xM l G y_G_mendableAt c_G_mendableAt 6 (some .int) 4 0 0 [.ref b, .ref (p1 + 30), .int p2] (xo G Y M) sz (some (.int r)) (xo G Y M') sz := by
  unfold f_G_mendableAt at hf
  refine xM.of (k := 3) (L0 := [some (.ref b), some (.ref (p1 + 30)), some (.int p2), none, none, none]) (by decide) (Nat.le_of_ble_eq_true rfl) rfl ?_
  intro p e s m args below meth c hc hnm
  have hR : xRm { frames := 4, cells := 0, slots := 0, locals := 48 * 4 } 4 := ⟨Nat.le_refl _, Nat.le_refl _⟩
  refine x_aload_n hc (xd dk_G_mendableAt 0 rfl) rfl rfl ?_
  refine x_aload_n hc (xd dk_G_mendableAt 1 rfl) rfl rfl ?_
  refine x_iload_n hc (xd dk_G_mendableAt 2 rfl) rfl rfl ?_
  obtain ⟨r12, M, e13, hf⟩ := xbind_some hf
  refine x_callV hc (As := [.ref (p1 + 30), .int p2]) (n := 2) (s_G_findingsAt hb hp1 e13) (c_G hb _) rfl (hR.call (by decide) (by decide)) ⟨by decide, by decide, by decide⟩ rfl rfl xw726 xw3 xw723 xw725 xs_G_findingsAt (Nat.le_of_ble_eq_true rfl) ⟨Nat.zero_le _, Nat.zero_le _⟩ (xd dk_G_mendableAt 3 rfl) ?_
  refine x_istore_n hc (xd dk_G_mendableAt 4 rfl) (by decide) rfl ?_
  refine x_bipush hc (v := 6) (xd dk_G_mendableAt 5 rfl) (by decide) ?_
  refine x_istore hc (xd dk_G_mendableAt 6 rfl) (by decide) rfl ?_
  exact s_G_mendableAt_11 hc hR hb hp1 xFuel r12 6 M hf
def f_G_mendablesIn_27 (b : Nat) (p1 : Nat) (k4 : Int32 → Int32 → xMem → Option (Int32 × xMem)) (v2 : Int32) (v3 : Int32) (M : xMem) : Option (Int32 × xMem) :=
  (k4 v2 (v3 + Int32.ofInt 1) M)
def f_G_mendablesIn_4 (b : Nat) (p1 : Nat) : Nat → Int32 → Int32 → xMem → Option (Int32 × xMem)
  | 0, _, _, _ => none
  | n + 1, v2, v3, M =>
    (if M.1 (p1 + 2) 6 ≤ v3 then (some (v2, M)) else (xbind (f_G_mendableAt b p1 v3 M) fun r4 M => if r4 < 0 then (f_G_mendablesIn_27 b p1 (f_G_mendablesIn_4 b p1 n) v2 v3 M) else (f_G_mendablesIn_27 b p1 (f_G_mendablesIn_4 b p1 n) (v2 + Int32.ofInt 1) v3 M)))
def f_G_mendablesIn (b : Nat) (p1 : Nat) (M : xMem) : Option (Int32 × xMem) :=
  (f_G_mendablesIn_4 b p1 xFuel 0 0 M)
set_option maxRecDepth 100000 in
set_option maxHeartbeats 400000 in
theorem s_G_mendablesIn_27 {p : Program} {l : Launch} {e : Env} {R : Room} {s : State} {m : MethodId} {args : Array Value} {below : List Frame} {meth : Method} {c : Code} {G : xG} {Y : xY} {sz : Nat} {b : Nat} {p1 : Nat}  (hc : xC p s m args meth c G 4 c_G_mendablesIn y_G_mendablesIn.cls (some .int)) (hR : xRm R 5) (hb : xSg Y b) (hp1 : xRd Y p1) {k4 : Int32 → Int32 → xMem → Option (Int32 × xMem)} {M' : xMem} {r : Int32} (hk4 : ∀ (v2 : Int32) (v3 : Int32) (M : xMem), k4 v2 v3 M = some (r, M') → xW p l e R s m args below meth c G 4 (MQ below (xQc G (some (.int r)) (xo G Y M') sz) args s 0 0 (xA G)) (xo G Y M) sz 0 0 4 [some (.ref b), some (.ref (p1 + 30)), some (.int v2), some (.int v3)] []) (v2 : Int32) (v3 : Int32) (M : xMem) (hf : f_G_mendablesIn_27 b p1 k4 v2 v3 M = some (r, M')) : xW p l e R s m args below meth c G 4 (MQ below (xQc G (some (.int r)) (xo G Y M') sz) args s 0 0 (xA G)) (xo G Y M) sz 0 0 27 [some (.ref b), some (.ref (p1 + 30)), some (.int v2), some (.int v3)] [] := by
  unfold f_G_mendablesIn_27 at hf
  refine x_iinc hc (xd dk_G_mendablesIn 15 rfl) rfl (by decide) rfl ?_
  refine x_goto hc (tgt := 4) (xd dk_G_mendablesIn 16 rfl) rfl ?_
  exact hk4 v2 (v3 + Int32.ofInt 1) M hf
set_option maxRecDepth 100000 in
set_option maxHeartbeats 400000 in
theorem s_G_mendablesIn_4 {p : Program} {l : Launch} {e : Env} {R : Room} {s : State} {m : MethodId} {args : Array Value} {below : List Frame} {meth : Method} {c : Code} {G : xG} {Y : xY} {sz : Nat} {b : Nat} {p1 : Nat}  (hc : xC p s m args meth c G 4 c_G_mendablesIn y_G_mendablesIn.cls (some .int)) (hR : xRm R 5) (hb : xSg Y b) (hp1 : xRd Y p1) {M' : xMem} {r : Int32} : ∀ (n : Nat) (v2 : Int32) (v3 : Int32) (M : xMem), f_G_mendablesIn_4 b p1 n v2 v3 M = some (r, M') → xW p l e R s m args below meth c G 4 (MQ below (xQc G (some (.int r)) (xo G Y M') sz) args s 0 0 (xA G)) (xo G Y M) sz 0 0 4 [some (.ref b), some (.ref (p1 + 30)), some (.int v2), some (.int v3)] [] := by
  intro n
  induction n with
  | zero => intro v2 v3 M hf; simp only [f_G_mendablesIn_4] at hf; cases hf
  | succ n ih =>
    intro v2 v3 M hf
    simp only [f_G_mendablesIn_4] at hf
    refine x_iload_n hc (xd dk_G_mendablesIn 4 rfl) rfl rfl ?_
    refine x_aload_n hc (xd dk_G_mendablesIn 5 rfl) rfl rfl ?_
    refine x_getN hc (ci := 9) (k := 1) fi_R (c_R hp1 _) rfl (by decide) rfl xn260 rfl (xd dk_G_mendablesIn 6 rfl) ?_
    refine x_getN hc (ci := 3) (k := 6) fi_T (c_T hp1 _) rfl (by decide) rfl xn86 rfl (xd dk_G_mendablesIn 7 rfl) ?_
    refine x_icmp_ge hc (tgt := 33) (xd dk_G_mendablesIn 8 rfl) rfl (fun q3 => ?_) (fun q3 => ?_)
    · rw [if_pos q3] at hf
      refine x_iload_n hc (xd dk_G_mendablesIn 17 rfl) rfl rfl ?_
      cases hf
      exact x_ireturn hc (xd dk_G_mendablesIn 18 rfl)
    · rw [if_neg q3] at hf
      refine x_aload_n hc (xd dk_G_mendablesIn 9 rfl) rfl rfl ?_
      refine x_aload_n hc (xd dk_G_mendablesIn 10 rfl) rfl rfl ?_
      refine x_iload_n hc (xd dk_G_mendablesIn 11 rfl) rfl rfl ?_
      obtain ⟨r4, M, e5, hf⟩ := xbind_some hf
      refine x_callV hc (As := [.ref (p1 + 30), .int v3]) (n := 2) (s_G_mendableAt hb hp1 e5) (c_G hb _) rfl (hR.call (by decide) (by decide)) ⟨by decide, by decide, by decide⟩ rfl rfl xw722 xw3 xw719 xw720 xw721 (Nat.le_of_ble_eq_true rfl) ⟨Nat.zero_le _, Nat.zero_le _⟩ (xd dk_G_mendablesIn 12 rfl) ?_
      refine x_if_lt hc (tgt := 27) (xd dk_G_mendablesIn 13 rfl) rfl (fun q6 => ?_) (fun q6 => ?_)
      · rw [if_pos q6] at hf
        exact s_G_mendablesIn_27 hc hR hb hp1 ih v2 v3 M hf
      · rw [if_neg q6] at hf
        refine x_iinc hc (xd dk_G_mendablesIn 14 rfl) rfl (by decide) rfl ?_
        exact s_G_mendablesIn_27 hc hR hb hp1 ih (v2 + Int32.ofInt 1) v3 M hf
set_option maxRecDepth 100000 in
set_option maxHeartbeats 400000 in
theorem s_G_mendablesIn {l : Launch} {G : xG} {Y : xY} {sz : Nat} {b : Nat} {p1 : Nat}  (hb : xSg Y b) (hp1 : xRd Y p1) {M M' : xMem} {r : Int32} (hf : f_G_mendablesIn b p1 M = some (r, M')) : xM l G y_G_mendablesIn c_G_mendablesIn 4 (some .int) 5 0 0 [.ref b, .ref (p1 + 30)] (xo G Y M) sz (some (.int r)) (xo G Y M') sz := by
  unfold f_G_mendablesIn at hf
  refine xM.of (k := 2) (L0 := [some (.ref b), some (.ref (p1 + 30)), none, none]) (by decide) (Nat.le_of_ble_eq_true rfl) rfl ?_
  intro p e s m args below meth c hc hnm
  have hR : xRm { frames := 5, cells := 0, slots := 0, locals := 48 * 5 } 5 := ⟨Nat.le_refl _, Nat.le_refl _⟩
  refine x_iconst hc (v := 0) (xd dk_G_mendablesIn 0 rfl) (by decide) ?_
  refine x_istore_n hc (xd dk_G_mendablesIn 1 rfl) (by decide) rfl ?_
  refine x_iconst hc (v := 0) (xd dk_G_mendablesIn 2 rfl) (by decide) ?_
  refine x_istore_n hc (xd dk_G_mendablesIn 3 rfl) (by decide) rfl ?_
  exact s_G_mendablesIn_4 hc hR hb hp1 xFuel 0 0 M hf
