/-! constructors: the heap that each leaves (printed by gen/ctor.py, ctor2.py) -/
def hI_L (G : xG) (h : xH) (a sz : Nat) : xH := (xu (xu h sz (xz0 G 1 160)) a (.inr (1, [.ref sz, .int 0])))
set_option maxRecDepth 100000 in
set_option maxHeartbeats 400000 in
theorem i_L {l : Launch} {G : xG} {h : xH} {a sz : Nat} (ha : h a = some (.inr (1, [.null, .int 0]))) (hlt : a < sz) : xM l G y_L_init c_L_init 1 none 1 1 160 [.ref a] h sz none (hI_L G h a sz) (sz + 1) := by
  unfold hI_L
  refine xM.of (k := 0) (L0 := [some (.ref a)]) (by decide) (Nat.le_of_ble_eq_true rfl) rfl ?_
  intro p e s m args below meth c hc hnm
  refine x_aload_n hc (xd dk_L_init 0 rfl) rfl rfl ?_
  refine x_objInit hc xw39 xw32 xw33 (xd dk_L_init 1 rfl) (by decide) (Nat.le_of_ble_eq_true rfl) ?_
  refine x_aload_n hc (xd dk_L_init 2 rfl) rfl rfl ?_
  refine x_sipush hc (v := 160) (xd dk_L_init 3 rfl) (by decide) ?_
  refine x_newa hc xw49 rfl (t0 := 1) rfl (fun _ h => by cases h) (a0 := (160, .inl (fun _ => 0))) (xz0_cell _ 160) (by decide) (by decide) (by decide) (Nat.le_of_ble_eq_true rfl) (Nat.le_of_ble_eq_true rfl) (xd dk_L_init 4 rfl) ?_
  refine x_putF hc (ci := 1) (k := 0) fi_L ft_L ft_L_ok fn_L ((xu_n _ _ (by omega)).trans ha) rfl (by decide) rfl xw40 rfl hnm rfl rfl rfl (Nat.le_of_ble_eq_true rfl) (xd dk_L_init 5 rfl) ?_
  exact x_return hc (xd dk_L_init 6 rfl)
def hI_G (G : xG) (h : xH) (a sz : Nat) : xH := (xu (xu (xu h sz (xzJ G 8)) a (.inr (2, [.ref sz, .int 0, .int 0]))) a (.inr (2, [.ref sz, .int 0, .int 1023])))
set_option maxRecDepth 100000 in
set_option maxHeartbeats 400000 in
theorem i_G {l : Launch} {G : xG} {h : xH} {a sz : Nat} (ha : h a = some (.inr (2, [.null, .int 0, .int 0]))) (hlt : a < sz) : xM l G y_G_init c_G_init 1 none 1 1 8 [.ref a] h sz none (hI_G G h a sz) (sz + 1) := by
  unfold hI_G
  refine xM.of (k := 0) (L0 := [some (.ref a)]) (by decide) (Nat.le_of_ble_eq_true rfl) rfl ?_
  intro p e s m args below meth c hc hnm
  refine x_aload_n hc (xd dk_G_init 0 rfl) rfl rfl ?_
  refine x_objInit hc xw55 xw32 xw33 (xd dk_G_init 1 rfl) (by decide) (Nat.le_of_ble_eq_true rfl) ?_
  refine x_aload_n hc (xd dk_G_init 2 rfl) rfl rfl ?_
  refine x_bipush hc (v := 8) (xd dk_G_init 3 rfl) (by decide) ?_
  refine x_newa hc xw67 rfl (t0 := 3) rfl (fun _ h => by cases h) (a0 := (8, .inr (.inl (fun _ => 0)))) (xzJ_cell _ 8) (by decide) (by decide) (by decide) (Nat.le_of_ble_eq_true rfl) (Nat.le_of_ble_eq_true rfl) (xd dk_G_init 4 rfl) ?_
  refine x_putF hc (ci := 2) (k := 0) fi_G ft_G ft_G_ok fn_G ((xu_n _ _ (by omega)).trans ha) rfl (by decide) rfl xw56 rfl hnm rfl rfl rfl (Nat.le_of_ble_eq_true rfl) (xd dk_G_init 5 rfl) ?_
  refine x_aload_n hc (xd dk_G_init 6 rfl) rfl rfl ?_
  refine x_sipush hc (v := 1023) (xd dk_G_init 7 rfl) (by decide) ?_
  refine x_put hc (ci := 2) (k := 2) fi_G ft_G ft_G_ok fn_G (xu_s _ _ _) rfl (by decide) rfl xw59 rfl rfl rfl (Nat.le_of_ble_eq_true rfl) (xd dk_G_init 8 rfl) ?_
  exact x_return hc (xd dk_G_init 9 rfl)
def hI_T (G : xG) (h : xH) (a p1 sz : Nat) : xH := (xu (xu (xu (xu (xu (xu (xu (xu (xu (xu (xu h sz (xzT G 61)) a (.inr (3, [.null, .ref sz, .null, .null, .null, .null, .int 0]))) (sz + 1) (xz0 G 0 61)) a (.inr (3, [.null, .ref sz, .ref (sz + 1), .null, .null, .null, .int 0]))) (sz + 2) (xz0 G 0 61)) a (.inr (3, [.null, .ref sz, .ref (sz + 1), .ref (sz + 2), .null, .null, .int 0]))) (sz + 3) (xzJ G 61)) a (.inr (3, [.null, .ref sz, .ref (sz + 1), .ref (sz + 2), .ref (sz + 3), .null, .int 0]))) (sz + 4) (xz0 G 0 61)) a (.inr (3, [.null, .ref sz, .ref (sz + 1), .ref (sz + 2), .ref (sz + 3), .ref (sz + 4), .int 0]))) a (.inr (3, [.ref p1, .ref sz, .ref (sz + 1), .ref (sz + 2), .ref (sz + 3), .ref (sz + 4), .int 0])))
set_option maxRecDepth 100000 in
set_option maxHeartbeats 400000 in
theorem i_T {l : Launch} {G : xG} {h : xH} {a p1 sz : Nat} (ha : h a = some (.inr (3, [.null, .null, .null, .null, .null, .null, .int 0]))) (hlt : a < sz) : xM l G y_T_init c_T_init 2 none 1 5 305 [.ref a, .ref p1] h sz none (hI_T G h a p1 sz) (sz + 5) := by
  unfold hI_T
  refine xM.of (k := 0) (L0 := [some (.ref a), some (.ref p1)]) (by decide) (Nat.le_of_ble_eq_true rfl) rfl ?_
  intro p e s m args below meth c hc hnm
  refine x_aload_n hc (xd dk_T_init 0 rfl) rfl rfl ?_
  refine x_objInit hc xw76 xw32 xw33 (xd dk_T_init 1 rfl) (by decide) (Nat.le_of_ble_eq_true rfl) ?_
  refine x_aload_n hc (xd dk_T_init 2 rfl) rfl rfl ?_
  refine x_bipush hc (v := 61) (xd dk_T_init 3 rfl) (by decide) ?_
  refine x_newq hc xw77 (by decide) (N := 61) (by decide) (by decide) (Nat.le_of_ble_eq_true rfl) (Nat.le_of_ble_eq_true rfl) (xd dk_T_init 4 rfl) ?_
  refine x_putF hc (ci := 3) (k := 1) fi_T ft_T ft_T_ok fn_T ((xu_n _ _ (by omega)).trans ha) rfl (by decide) rfl xw80 rfl hnm rfl rfl rfl (Nat.le_of_ble_eq_true rfl) (xd dk_T_init 5 rfl) ?_
  refine x_aload_n hc (xd dk_T_init 6 rfl) rfl rfl ?_
  refine x_bipush hc (v := 61) (xd dk_T_init 7 rfl) (by decide) ?_
  refine x_newa hc xw103 rfl (t0 := 0) rfl (fun _ h => by cases h) (a0 := (61, .inl (fun _ => 0))) (xz0_cell _ 61) (by decide) (by decide) (by decide) (Nat.le_of_ble_eq_true rfl) (Nat.le_of_ble_eq_true rfl) (xd dk_T_init 8 rfl) ?_
  refine x_putF hc (ci := 3) (k := 2) fi_T ft_T ft_T_ok fn_T ((xu_n _ _ (by omega)).trans (xu_s _ _ _)) rfl (by decide) rfl xw81 rfl hnm rfl rfl rfl (Nat.le_of_ble_eq_true rfl) (xd dk_T_init 9 rfl) ?_
  refine x_aload_n hc (xd dk_T_init 10 rfl) rfl rfl ?_
  refine x_bipush hc (v := 61) (xd dk_T_init 11 rfl) (by decide) ?_
  refine x_newa hc xw103 rfl (t0 := 0) rfl (fun _ h => by cases h) (a0 := (61, .inl (fun _ => 0))) (xz0_cell _ 61) (by decide) (by decide) (by decide) (Nat.le_of_ble_eq_true rfl) (Nat.le_of_ble_eq_true rfl) (xd dk_T_init 12 rfl) ?_
  refine x_putF hc (ci := 3) (k := 3) fi_T ft_T ft_T_ok fn_T ((xu_n _ _ (by omega)).trans (xu_s _ _ _)) rfl (by decide) rfl xw82 rfl hnm rfl rfl rfl (Nat.le_of_ble_eq_true rfl) (xd dk_T_init 13 rfl) ?_
  refine x_aload_n hc (xd dk_T_init 14 rfl) rfl rfl ?_
  refine x_bipush hc (v := 61) (xd dk_T_init 15 rfl) (by decide) ?_
  refine x_newa hc xw67 rfl (t0 := 3) rfl (fun _ h => by cases h) (a0 := (61, .inr (.inl (fun _ => 0)))) (xzJ_cell _ 61) (by decide) (by decide) (by decide) (Nat.le_of_ble_eq_true rfl) (Nat.le_of_ble_eq_true rfl) (xd dk_T_init 16 rfl) ?_
  refine x_putF hc (ci := 3) (k := 4) fi_T ft_T ft_T_ok fn_T ((xu_n _ _ (by omega)).trans (xu_s _ _ _)) rfl (by decide) rfl xw83 rfl hnm rfl rfl rfl (Nat.le_of_ble_eq_true rfl) (xd dk_T_init 17 rfl) ?_
  refine x_aload_n hc (xd dk_T_init 18 rfl) rfl rfl ?_
  refine x_bipush hc (v := 61) (xd dk_T_init 19 rfl) (by decide) ?_
  refine x_newa hc xw103 rfl (t0 := 0) rfl (fun _ h => by cases h) (a0 := (61, .inl (fun _ => 0))) (xz0_cell _ 61) (by decide) (by decide) (by decide) (Nat.le_of_ble_eq_true rfl) (Nat.le_of_ble_eq_true rfl) (xd dk_T_init 20 rfl) ?_
  refine x_putF hc (ci := 3) (k := 5) fi_T ft_T ft_T_ok fn_T ((xu_n _ _ (by omega)).trans (xu_s _ _ _)) rfl (by decide) rfl xw84 rfl hnm rfl rfl rfl (Nat.le_of_ble_eq_true rfl) (xd dk_T_init 21 rfl) ?_
  refine x_aload_n hc (xd dk_T_init 22 rfl) rfl rfl ?_
  refine x_aload_n hc (xd dk_T_init 23 rfl) rfl rfl ?_
  refine x_putF hc (ci := 3) (k := 0) fi_T ft_T ft_T_ok fn_T (xu_s _ _ _) rfl (by decide) rfl xw79 rfl hnm rfl rfl rfl (Nat.le_of_ble_eq_true rfl) (xd dk_T_init 24 rfl) ?_
  exact x_return hc (xd dk_T_init 25 rfl)
def hI_S (G : xG) (h : xH) (a sz : Nat) : xH := (xu (xu (xu (xu (xu (xu h sz (xz0 G 0 61)) a (.inr (4, [.ref sz, .null, .null, .int 0]))) (sz + 1) (xz0 G 0 61)) a (.inr (4, [.ref sz, .ref (sz + 1), .null, .int 0]))) (sz + 2) (xz0 G 0 61)) a (.inr (4, [.ref sz, .ref (sz + 1), .ref (sz + 2), .int 0])))
set_option maxRecDepth 100000 in
set_option maxHeartbeats 400000 in
theorem i_S {l : Launch} {G : xG} {h : xH} {a sz : Nat} (ha : h a = some (.inr (4, [.null, .null, .null, .int 0]))) (hlt : a < sz) : xM l G y_S_init c_S_init 1 none 1 3 183 [.ref a] h sz none (hI_S G h a sz) (sz + 3) := by
  unfold hI_S
  refine xM.of (k := 0) (L0 := [some (.ref a)]) (by decide) (Nat.le_of_ble_eq_true rfl) rfl ?_
  intro p e s m args below meth c hc hnm
  refine x_aload_n hc (xd dk_S_init 0 rfl) rfl rfl ?_
  refine x_objInit hc xw109 xw32 xw33 (xd dk_S_init 1 rfl) (by decide) (Nat.le_of_ble_eq_true rfl) ?_
  refine x_aload_n hc (xd dk_S_init 2 rfl) rfl rfl ?_
  refine x_bipush hc (v := 61) (xd dk_S_init 3 rfl) (by decide) ?_
  refine x_newa hc xw103 rfl (t0 := 0) rfl (fun _ h => by cases h) (a0 := (61, .inl (fun _ => 0))) (xz0_cell _ 61) (by decide) (by decide) (by decide) (Nat.le_of_ble_eq_true rfl) (Nat.le_of_ble_eq_true rfl) (xd dk_S_init 4 rfl) ?_
  refine x_putF hc (ci := 4) (k := 0) fi_S ft_S ft_S_ok fn_S ((xu_n _ _ (by omega)).trans ha) rfl (by decide) rfl xw110 rfl hnm rfl rfl rfl (Nat.le_of_ble_eq_true rfl) (xd dk_S_init 5 rfl) ?_
  refine x_aload_n hc (xd dk_S_init 6 rfl) rfl rfl ?_
  refine x_bipush hc (v := 61) (xd dk_S_init 7 rfl) (by decide) ?_
  refine x_newa hc xw103 rfl (t0 := 0) rfl (fun _ h => by cases h) (a0 := (61, .inl (fun _ => 0))) (xz0_cell _ 61) (by decide) (by decide) (by decide) (Nat.le_of_ble_eq_true rfl) (Nat.le_of_ble_eq_true rfl) (xd dk_S_init 8 rfl) ?_
  refine x_putF hc (ci := 4) (k := 1) fi_S ft_S ft_S_ok fn_S ((xu_n _ _ (by omega)).trans (xu_s _ _ _)) rfl (by decide) rfl xw111 rfl hnm rfl rfl rfl (Nat.le_of_ble_eq_true rfl) (xd dk_S_init 9 rfl) ?_
  refine x_aload_n hc (xd dk_S_init 10 rfl) rfl rfl ?_
  refine x_bipush hc (v := 61) (xd dk_S_init 11 rfl) (by decide) ?_
  refine x_newa hc xw103 rfl (t0 := 0) rfl (fun _ h => by cases h) (a0 := (61, .inl (fun _ => 0))) (xz0_cell _ 61) (by decide) (by decide) (by decide) (Nat.le_of_ble_eq_true rfl) (Nat.le_of_ble_eq_true rfl) (xd dk_S_init 12 rfl) ?_
  refine x_putF hc (ci := 4) (k := 2) fi_S ft_S ft_S_ok fn_S ((xu_n _ _ (by omega)).trans (xu_s _ _ _)) rfl (by decide) rfl xw112 rfl hnm rfl rfl rfl (Nat.le_of_ble_eq_true rfl) (xd dk_S_init 13 rfl) ?_
  exact x_return hc (xd dk_S_init 14 rfl)
def hI_H (G : xG) (h : xH) (a sz : Nat) : xH := (xu (xu (xu (xu (xu (xu (xu (xu (xu (xu (xu (xu (xu (xu (xu (xu h sz (xz0 G 0 60)) a (.inr (5, [.ref sz, .null, .null, .null, .null, .null, .null, .null, .int 0]))) (sz + 1) (xz0 G 0 60)) a (.inr (5, [.ref sz, .ref (sz + 1), .null, .null, .null, .null, .null, .null, .int 0]))) (sz + 2) (xz0 G 0 60)) a (.inr (5, [.ref sz, .ref (sz + 1), .ref (sz + 2), .null, .null, .null, .null, .null, .int 0]))) (sz + 3) (xz0 G 0 60)) a (.inr (5, [.ref sz, .ref (sz + 1), .ref (sz + 2), .ref (sz + 3), .null, .null, .null, .null, .int 0]))) (sz + 4) (xz0 G 0 60)) a (.inr (5, [.ref sz, .ref (sz + 1), .ref (sz + 2), .ref (sz + 3), .ref (sz + 4), .null, .null, .null, .int 0]))) (sz + 5) (xz0 G 0 60)) a (.inr (5, [.ref sz, .ref (sz + 1), .ref (sz + 2), .ref (sz + 3), .ref (sz + 4), .ref (sz + 5), .null, .null, .int 0]))) (sz + 6) (xz0 G 0 60)) a (.inr (5, [.ref sz, .ref (sz + 1), .ref (sz + 2), .ref (sz + 3), .ref (sz + 4), .ref (sz + 5), .ref (sz + 6), .null, .int 0]))) (sz + 7) (xz0 G 2 60)) a (.inr (5, [.ref sz, .ref (sz + 1), .ref (sz + 2), .ref (sz + 3), .ref (sz + 4), .ref (sz + 5), .ref (sz + 6), .ref (sz + 7), .int 0])))
set_option maxRecDepth 100000 in
set_option maxHeartbeats 400000 in
theorem i_H {l : Launch} {G : xG} {h : xH} {a sz : Nat} (ha : h a = some (.inr (5, [.null, .null, .null, .null, .null, .null, .null, .null, .int 0]))) (hlt : a < sz) : xM l G y_H_init c_H_init 1 none 1 8 480 [.ref a] h sz none (hI_H G h a sz) (sz + 8) := by
  unfold hI_H
  refine xM.of (k := 0) (L0 := [some (.ref a)]) (by decide) (Nat.le_of_ble_eq_true rfl) rfl ?_
  intro p e s m args below meth c hc hnm
  refine x_aload_n hc (xd dk_H_init 0 rfl) rfl rfl ?_
  refine x_objInit hc xw129 xw32 xw33 (xd dk_H_init 1 rfl) (by decide) (Nat.le_of_ble_eq_true rfl) ?_
  refine x_aload_n hc (xd dk_H_init 2 rfl) rfl rfl ?_
  refine x_bipush hc (v := 60) (xd dk_H_init 3 rfl) (by decide) ?_
  refine x_newa hc xw103 rfl (t0 := 0) rfl (fun _ h => by cases h) (a0 := (60, .inl (fun _ => 0))) (xz0_cell _ 60) (by decide) (by decide) (by decide) (Nat.le_of_ble_eq_true rfl) (Nat.le_of_ble_eq_true rfl) (xd dk_H_init 4 rfl) ?_
  refine x_putF hc (ci := 5) (k := 0) fi_H ft_H ft_H_ok fn_H ((xu_n _ _ (by omega)).trans ha) rfl (by decide) rfl xw130 rfl hnm rfl rfl rfl (Nat.le_of_ble_eq_true rfl) (xd dk_H_init 5 rfl) ?_
  refine x_aload_n hc (xd dk_H_init 6 rfl) rfl rfl ?_
  refine x_bipush hc (v := 60) (xd dk_H_init 7 rfl) (by decide) ?_
  refine x_newa hc xw103 rfl (t0 := 0) rfl (fun _ h => by cases h) (a0 := (60, .inl (fun _ => 0))) (xz0_cell _ 60) (by decide) (by decide) (by decide) (Nat.le_of_ble_eq_true rfl) (Nat.le_of_ble_eq_true rfl) (xd dk_H_init 8 rfl) ?_
  refine x_putF hc (ci := 5) (k := 1) fi_H ft_H ft_H_ok fn_H ((xu_n _ _ (by omega)).trans (xu_s _ _ _)) rfl (by decide) rfl xw133 rfl hnm rfl rfl rfl (Nat.le_of_ble_eq_true rfl) (xd dk_H_init 9 rfl) ?_
  refine x_aload_n hc (xd dk_H_init 10 rfl) rfl rfl ?_
  refine x_bipush hc (v := 60) (xd dk_H_init 11 rfl) (by decide) ?_
  refine x_newa hc xw103 rfl (t0 := 0) rfl (fun _ h => by cases h) (a0 := (60, .inl (fun _ => 0))) (xz0_cell _ 60) (by decide) (by decide) (by decide) (Nat.le_of_ble_eq_true rfl) (Nat.le_of_ble_eq_true rfl) (xd dk_H_init 12 rfl) ?_
  refine x_putF hc (ci := 5) (k := 2) fi_H ft_H ft_H_ok fn_H ((xu_n _ _ (by omega)).trans (xu_s _ _ _)) rfl (by decide) rfl xw135 rfl hnm rfl rfl rfl (Nat.le_of_ble_eq_true rfl) (xd dk_H_init 13 rfl) ?_
  refine x_aload_n hc (xd dk_H_init 14 rfl) rfl rfl ?_
  refine x_bipush hc (v := 60) (xd dk_H_init 15 rfl) (by decide) ?_
  refine x_newa hc xw103 rfl (t0 := 0) rfl (fun _ h => by cases h) (a0 := (60, .inl (fun _ => 0))) (xz0_cell _ 60) (by decide) (by decide) (by decide) (Nat.le_of_ble_eq_true rfl) (Nat.le_of_ble_eq_true rfl) (xd dk_H_init 16 rfl) ?_
  refine x_putF hc (ci := 5) (k := 3) fi_H ft_H ft_H_ok fn_H ((xu_n _ _ (by omega)).trans (xu_s _ _ _)) rfl (by decide) rfl xw138 rfl hnm rfl rfl rfl (Nat.le_of_ble_eq_true rfl) (xd dk_H_init 17 rfl) ?_
  refine x_aload_n hc (xd dk_H_init 18 rfl) rfl rfl ?_
  refine x_bipush hc (v := 60) (xd dk_H_init 19 rfl) (by decide) ?_
  refine x_newa hc xw103 rfl (t0 := 0) rfl (fun _ h => by cases h) (a0 := (60, .inl (fun _ => 0))) (xz0_cell _ 60) (by decide) (by decide) (by decide) (Nat.le_of_ble_eq_true rfl) (Nat.le_of_ble_eq_true rfl) (xd dk_H_init 20 rfl) ?_
  refine x_putF hc (ci := 5) (k := 4) fi_H ft_H ft_H_ok fn_H ((xu_n _ _ (by omega)).trans (xu_s _ _ _)) rfl (by decide) rfl xw141 rfl hnm rfl rfl rfl (Nat.le_of_ble_eq_true rfl) (xd dk_H_init 21 rfl) ?_
  refine x_aload_n hc (xd dk_H_init 22 rfl) rfl rfl ?_
  refine x_bipush hc (v := 60) (xd dk_H_init 23 rfl) (by decide) ?_
  refine x_newa hc xw103 rfl (t0 := 0) rfl (fun _ h => by cases h) (a0 := (60, .inl (fun _ => 0))) (xz0_cell _ 60) (by decide) (by decide) (by decide) (Nat.le_of_ble_eq_true rfl) (Nat.le_of_ble_eq_true rfl) (xd dk_H_init 24 rfl) ?_
  refine x_putF hc (ci := 5) (k := 5) fi_H ft_H ft_H_ok fn_H ((xu_n _ _ (by omega)).trans (xu_s _ _ _)) rfl (by decide) rfl xw144 rfl hnm rfl rfl rfl (Nat.le_of_ble_eq_true rfl) (xd dk_H_init 25 rfl) ?_
  refine x_aload_n hc (xd dk_H_init 26 rfl) rfl rfl ?_
  refine x_bipush hc (v := 60) (xd dk_H_init 27 rfl) (by decide) ?_
  refine x_newa hc xw103 rfl (t0 := 0) rfl (fun _ h => by cases h) (a0 := (60, .inl (fun _ => 0))) (xz0_cell _ 60) (by decide) (by decide) (by decide) (Nat.le_of_ble_eq_true rfl) (Nat.le_of_ble_eq_true rfl) (xd dk_H_init 28 rfl) ?_
  refine x_putF hc (ci := 5) (k := 6) fi_H ft_H ft_H_ok fn_H ((xu_n _ _ (by omega)).trans (xu_s _ _ _)) rfl (by decide) rfl xw147 rfl hnm rfl rfl rfl (Nat.le_of_ble_eq_true rfl) (xd dk_H_init 29 rfl) ?_
  refine x_aload_n hc (xd dk_H_init 30 rfl) rfl rfl ?_
  refine x_bipush hc (v := 60) (xd dk_H_init 31 rfl) (by decide) ?_
  refine x_newa hc xw174 rfl (t0 := 2) rfl (fun _ h => by cases h) (a0 := (60, .inl (fun _ => 0))) (xz0_cell _ 60) (by decide) (by decide) (by decide) (Nat.le_of_ble_eq_true rfl) (Nat.le_of_ble_eq_true rfl) (xd dk_H_init 32 rfl) ?_
  refine x_putF hc (ci := 5) (k := 7) fi_H ft_H ft_H_ok fn_H ((xu_n _ _ (by omega)).trans (xu_s _ _ _)) rfl (by decide) rfl xw150 rfl hnm rfl rfl rfl (Nat.le_of_ble_eq_true rfl) (xd dk_H_init 33 rfl) ?_
  exact x_return hc (xd dk_H_init 34 rfl)
def hI_M (G : xG) (h : xH) (a sz : Nat) : xH := (xu (xu (xu (xu (xu (xu h sz (xz0 G 0 60)) a (.inr (6, [.ref sz, .null, .null]))) (sz + 1) (xz0 G 0 60)) a (.inr (6, [.ref sz, .ref (sz + 1), .null]))) (sz + 2) (xz0 G 2 60)) a (.inr (6, [.ref sz, .ref (sz + 1), .ref (sz + 2)])))
set_option maxRecDepth 100000 in
set_option maxHeartbeats 400000 in
theorem i_M {l : Launch} {G : xG} {h : xH} {a sz : Nat} (ha : h a = some (.inr (6, [.null, .null, .null]))) (hlt : a < sz) : xM l G y_M_init c_M_init 1 none 1 3 180 [.ref a] h sz none (hI_M G h a sz) (sz + 3) := by
  unfold hI_M
  refine xM.of (k := 0) (L0 := [some (.ref a)]) (by decide) (Nat.le_of_ble_eq_true rfl) rfl ?_
  intro p e s m args below meth c hc hnm
  refine x_aload_n hc (xd dk_M_init 0 rfl) rfl rfl ?_
  refine x_objInit hc xw180 xw32 xw33 (xd dk_M_init 1 rfl) (by decide) (Nat.le_of_ble_eq_true rfl) ?_
  refine x_aload_n hc (xd dk_M_init 2 rfl) rfl rfl ?_
  refine x_bipush hc (v := 60) (xd dk_M_init 3 rfl) (by decide) ?_
  refine x_newa hc xw103 rfl (t0 := 0) rfl (fun _ h => by cases h) (a0 := (60, .inl (fun _ => 0))) (xz0_cell _ 60) (by decide) (by decide) (by decide) (Nat.le_of_ble_eq_true rfl) (Nat.le_of_ble_eq_true rfl) (xd dk_M_init 4 rfl) ?_
  refine x_putF hc (ci := 6) (k := 0) fi_M ft_M ft_M_ok fn_M ((xu_n _ _ (by omega)).trans ha) rfl (by decide) rfl xw181 rfl hnm rfl rfl rfl (Nat.le_of_ble_eq_true rfl) (xd dk_M_init 5 rfl) ?_
  refine x_aload_n hc (xd dk_M_init 6 rfl) rfl rfl ?_
  refine x_bipush hc (v := 60) (xd dk_M_init 7 rfl) (by decide) ?_
  refine x_newa hc xw103 rfl (t0 := 0) rfl (fun _ h => by cases h) (a0 := (60, .inl (fun _ => 0))) (xz0_cell _ 60) (by decide) (by decide) (by decide) (Nat.le_of_ble_eq_true rfl) (Nat.le_of_ble_eq_true rfl) (xd dk_M_init 8 rfl) ?_
  refine x_putF hc (ci := 6) (k := 1) fi_M ft_M ft_M_ok fn_M ((xu_n _ _ (by omega)).trans (xu_s _ _ _)) rfl (by decide) rfl xw182 rfl hnm rfl rfl rfl (Nat.le_of_ble_eq_true rfl) (xd dk_M_init 9 rfl) ?_
  refine x_aload_n hc (xd dk_M_init 10 rfl) rfl rfl ?_
  refine x_bipush hc (v := 60) (xd dk_M_init 11 rfl) (by decide) ?_
  refine x_newa hc xw174 rfl (t0 := 2) rfl (fun _ h => by cases h) (a0 := (60, .inl (fun _ => 0))) (xz0_cell _ 60) (by decide) (by decide) (by decide) (Nat.le_of_ble_eq_true rfl) (Nat.le_of_ble_eq_true rfl) (xd dk_M_init 12 rfl) ?_
  refine x_putF hc (ci := 6) (k := 2) fi_M ft_M ft_M_ok fn_M ((xu_n _ _ (by omega)).trans (xu_s _ _ _)) rfl (by decide) rfl xw183 rfl hnm rfl rfl rfl (Nat.le_of_ble_eq_true rfl) (xd dk_M_init 13 rfl) ?_
  exact x_return hc (xd dk_M_init 14 rfl)
def hI_B (G : xG) (h : xH) (a p1 p2 p3 p4 sz : Nat) : xH := (xu (xu (xu (xu (xu (xu (xu (xu (xu (xu h sz (xz0 G 0 60)) a (.inr (7, [.null, .null, .null, .null, .ref sz, .null, .null, .int 0, .int 0]))) (sz + 1) (xz0 G 0 60)) a (.inr (7, [.null, .null, .null, .null, .ref sz, .ref (sz + 1), .null, .int 0, .int 0]))) (sz + 2) (xz0 G 2 60)) a (.inr (7, [.null, .null, .null, .null, .ref sz, .ref (sz + 1), .ref (sz + 2), .int 0, .int 0]))) a (.inr (7, [.ref p1, .null, .null, .null, .ref sz, .ref (sz + 1), .ref (sz + 2), .int 0, .int 0]))) a (.inr (7, [.ref p1, .ref p2, .null, .null, .ref sz, .ref (sz + 1), .ref (sz + 2), .int 0, .int 0]))) a (.inr (7, [.ref p1, .ref p2, .ref p3, .null, .ref sz, .ref (sz + 1), .ref (sz + 2), .int 0, .int 0]))) a (.inr (7, [.ref p1, .ref p2, .ref p3, .ref p4, .ref sz, .ref (sz + 1), .ref (sz + 2), .int 0, .int 0])))
set_option maxRecDepth 100000 in
set_option maxHeartbeats 400000 in
theorem i_B {l : Launch} {G : xG} {h : xH} {a p1 p2 p3 p4 sz : Nat} (ha : h a = some (.inr (7, [.null, .null, .null, .null, .null, .null, .null, .int 0, .int 0]))) (hlt : a < sz) : xM l G y_B_init c_B_init 5 none 1 3 180 [.ref a, .ref p1, .ref p2, .ref p3, .ref p4] h sz none (hI_B G h a p1 p2 p3 p4 sz) (sz + 3) := by
  unfold hI_B
  refine xM.of (k := 0) (L0 := [some (.ref a), some (.ref p1), some (.ref p2), some (.ref p3), some (.ref p4)]) (by decide) (Nat.le_of_ble_eq_true rfl) rfl ?_
  intro p e s m args below meth c hc hnm
  refine x_aload_n hc (xd dk_B_init 0 rfl) rfl rfl ?_
  refine x_objInit hc xw196 xw32 xw33 (xd dk_B_init 1 rfl) (by decide) (Nat.le_of_ble_eq_true rfl) ?_
  refine x_aload_n hc (xd dk_B_init 2 rfl) rfl rfl ?_
  refine x_bipush hc (v := 60) (xd dk_B_init 3 rfl) (by decide) ?_
  refine x_newa hc xw103 rfl (t0 := 0) rfl (fun _ h => by cases h) (a0 := (60, .inl (fun _ => 0))) (xz0_cell _ 60) (by decide) (by decide) (by decide) (Nat.le_of_ble_eq_true rfl) (Nat.le_of_ble_eq_true rfl) (xd dk_B_init 4 rfl) ?_
  refine x_putF hc (ci := 7) (k := 4) fi_B ft_B ft_B_ok fn_B ((xu_n _ _ (by omega)).trans ha) rfl (by decide) rfl xw201 rfl hnm rfl rfl rfl (Nat.le_of_ble_eq_true rfl) (xd dk_B_init 5 rfl) ?_
  refine x_aload_n hc (xd dk_B_init 6 rfl) rfl rfl ?_
  refine x_bipush hc (v := 60) (xd dk_B_init 7 rfl) (by decide) ?_
  refine x_newa hc xw103 rfl (t0 := 0) rfl (fun _ h => by cases h) (a0 := (60, .inl (fun _ => 0))) (xz0_cell _ 60) (by decide) (by decide) (by decide) (Nat.le_of_ble_eq_true rfl) (Nat.le_of_ble_eq_true rfl) (xd dk_B_init 8 rfl) ?_
  refine x_putF hc (ci := 7) (k := 5) fi_B ft_B ft_B_ok fn_B ((xu_n _ _ (by omega)).trans (xu_s _ _ _)) rfl (by decide) rfl xw202 rfl hnm rfl rfl rfl (Nat.le_of_ble_eq_true rfl) (xd dk_B_init 9 rfl) ?_
  refine x_aload_n hc (xd dk_B_init 10 rfl) rfl rfl ?_
  refine x_bipush hc (v := 60) (xd dk_B_init 11 rfl) (by decide) ?_
  refine x_newa hc xw174 rfl (t0 := 2) rfl (fun _ h => by cases h) (a0 := (60, .inl (fun _ => 0))) (xz0_cell _ 60) (by decide) (by decide) (by decide) (Nat.le_of_ble_eq_true rfl) (Nat.le_of_ble_eq_true rfl) (xd dk_B_init 12 rfl) ?_
  refine x_putF hc (ci := 7) (k := 6) fi_B ft_B ft_B_ok fn_B ((xu_n _ _ (by omega)).trans (xu_s _ _ _)) rfl (by decide) rfl xw203 rfl hnm rfl rfl rfl (Nat.le_of_ble_eq_true rfl) (xd dk_B_init 13 rfl) ?_
  refine x_aload_n hc (xd dk_B_init 14 rfl) rfl rfl ?_
  refine x_aload_n hc (xd dk_B_init 15 rfl) rfl rfl ?_
  refine x_putF hc (ci := 7) (k := 0) fi_B ft_B ft_B_ok fn_B (xu_s _ _ _) rfl (by decide) rfl xw197 rfl hnm rfl rfl rfl (Nat.le_of_ble_eq_true rfl) (xd dk_B_init 16 rfl) ?_
  refine x_aload_n hc (xd dk_B_init 17 rfl) rfl rfl ?_
  refine x_aload_n hc (xd dk_B_init 18 rfl) rfl rfl ?_
  refine x_putF hc (ci := 7) (k := 1) fi_B ft_B ft_B_ok fn_B (xu_s _ _ _) rfl (by decide) rfl xw198 rfl hnm rfl rfl rfl (Nat.le_of_ble_eq_true rfl) (xd dk_B_init 19 rfl) ?_
  refine x_aload_n hc (xd dk_B_init 20 rfl) rfl rfl ?_
  refine x_aload_n hc (xd dk_B_init 21 rfl) rfl rfl ?_
  refine x_putF hc (ci := 7) (k := 2) fi_B ft_B ft_B_ok fn_B (xu_s _ _ _) rfl (by decide) rfl xw199 rfl hnm rfl rfl rfl (Nat.le_of_ble_eq_true rfl) (xd dk_B_init 22 rfl) ?_
  refine x_aload_n hc (xd dk_B_init 23 rfl) rfl rfl ?_
  refine x_aload hc (xd dk_B_init 24 rfl) rfl ?_
  refine x_putF hc (ci := 7) (k := 3) fi_B ft_B ft_B_ok fn_B (xu_s _ _ _) rfl (by decide) rfl xw200 rfl hnm rfl rfl rfl (Nat.le_of_ble_eq_true rfl) (xd dk_B_init 25 rfl) ?_
  exact x_return hc (xd dk_B_init 26 rfl)
def hI_P (G : xG) (h : xH) (a p1 p2 p3 p4 sz : Nat) : xH := (xu (xu (xu (xu h a (.inr (8, [.ref p1, .null, .null, .null, .int 0, .int 0]))) a (.inr (8, [.ref p1, .ref p2, .null, .null, .int 0, .int 0]))) a (.inr (8, [.ref p1, .ref p2, .ref p3, .null, .int 0, .int 0]))) a (.inr (8, [.ref p1, .ref p2, .ref p3, .ref p4, .int 0, .int 0])))
set_option maxRecDepth 100000 in
set_option maxHeartbeats 400000 in
theorem i_P {l : Launch} {G : xG} {h : xH} {a p1 p2 p3 p4 sz : Nat} (ha : h a = some (.inr (8, [.null, .null, .null, .null, .int 0, .int 0]))) (hlt : a < sz) : xM l G y_P_init c_P_init 5 none 1 0 0 [.ref a, .ref p1, .ref p2, .ref p3, .ref p4] h sz none (hI_P G h a p1 p2 p3 p4 sz) (sz + 0) := by
  unfold hI_P
  refine xM.of (k := 0) (L0 := [some (.ref a), some (.ref p1), some (.ref p2), some (.ref p3), some (.ref p4)]) (by decide) (Nat.le_of_ble_eq_true rfl) rfl ?_
  intro p e s m args below meth c hc hnm
  refine x_aload_n hc (xd dk_P_init 0 rfl) rfl rfl ?_
  refine x_objInit hc xw231 xw32 xw33 (xd dk_P_init 1 rfl) (by decide) (Nat.le_of_ble_eq_true rfl) ?_
  refine x_aload_n hc (xd dk_P_init 2 rfl) rfl rfl ?_
  refine x_aload_n hc (xd dk_P_init 3 rfl) rfl rfl ?_
  refine x_putF hc (ci := 8) (k := 0) fi_P ft_P ft_P_ok fn_P ha rfl (by decide) rfl xw232 rfl hnm rfl rfl rfl (Nat.le_of_ble_eq_true rfl) (xd dk_P_init 4 rfl) ?_
  refine x_aload_n hc (xd dk_P_init 5 rfl) rfl rfl ?_
  refine x_aload_n hc (xd dk_P_init 6 rfl) rfl rfl ?_
  refine x_putF hc (ci := 8) (k := 1) fi_P ft_P ft_P_ok fn_P (xu_s _ _ _) rfl (by decide) rfl xw233 rfl hnm rfl rfl rfl (Nat.le_of_ble_eq_true rfl) (xd dk_P_init 7 rfl) ?_
  refine x_aload_n hc (xd dk_P_init 8 rfl) rfl rfl ?_
  refine x_aload_n hc (xd dk_P_init 9 rfl) rfl rfl ?_
  refine x_putF hc (ci := 8) (k := 2) fi_P ft_P ft_P_ok fn_P (xu_s _ _ _) rfl (by decide) rfl xw234 rfl hnm rfl rfl rfl (Nat.le_of_ble_eq_true rfl) (xd dk_P_init 10 rfl) ?_
  refine x_aload_n hc (xd dk_P_init 11 rfl) rfl rfl ?_
  refine x_aload hc (xd dk_P_init 12 rfl) rfl ?_
  refine x_putF hc (ci := 8) (k := 3) fi_P ft_P ft_P_ok fn_P (xu_s _ _ _) rfl (by decide) rfl xw235 rfl hnm rfl rfl rfl (Nat.le_of_ble_eq_true rfl) (xd dk_P_init 13 rfl) ?_
  exact x_return hc (xd dk_P_init 14 rfl)
def hI_R (G : xG) (h : xH) (a p1 p2 p3 p4 p5 p6 p7 sz : Nat) : xH := (xu (xu (xu (xu (xu (xu (xu h a (.inr (9, [.ref p1, .null, .null, .null, .null, .null, .null]))) a (.inr (9, [.ref p1, .ref p2, .null, .null, .null, .null, .null]))) a (.inr (9, [.ref p1, .ref p2, .ref p3, .null, .null, .null, .null]))) a (.inr (9, [.ref p1, .ref p2, .ref p3, .ref p4, .null, .null, .null]))) a (.inr (9, [.ref p1, .ref p2, .ref p3, .ref p4, .ref p5, .null, .null]))) a (.inr (9, [.ref p1, .ref p2, .ref p3, .ref p4, .ref p5, .ref p6, .null]))) a (.inr (9, [.ref p1, .ref p2, .ref p3, .ref p4, .ref p5, .ref p6, .ref p7])))
set_option maxRecDepth 100000 in
set_option maxHeartbeats 400000 in
theorem i_R {l : Launch} {G : xG} {h : xH} {a p1 p2 p3 p4 p5 p6 p7 sz : Nat} (ha : h a = some (.inr (9, [.null, .null, .null, .null, .null, .null, .null]))) (hlt : a < sz) : xM l G y_R_init c_R_init 8 none 1 0 0 [.ref a, .ref p1, .ref p2, .ref p3, .ref p4, .ref p5, .ref p6, .ref p7] h sz none (hI_R G h a p1 p2 p3 p4 p5 p6 p7 sz) (sz + 0) := by
  unfold hI_R
  refine xM.of (k := 0) (L0 := [some (.ref a), some (.ref p1), some (.ref p2), some (.ref p3), some (.ref p4), some (.ref p5), some (.ref p6), some (.ref p7)]) (by decide) (Nat.le_of_ble_eq_true rfl) rfl ?_
  intro p e s m args below meth c hc hnm
  refine x_aload_n hc (xd dk_R_init 0 rfl) rfl rfl ?_
  refine x_objInit hc xw256 xw32 xw33 (xd dk_R_init 1 rfl) (by decide) (Nat.le_of_ble_eq_true rfl) ?_
  refine x_aload_n hc (xd dk_R_init 2 rfl) rfl rfl ?_
  refine x_aload_n hc (xd dk_R_init 3 rfl) rfl rfl ?_
  refine x_putF hc (ci := 9) (k := 0) fi_R ft_R ft_R_ok fn_R ha rfl (by decide) rfl xw257 rfl hnm rfl rfl rfl (Nat.le_of_ble_eq_true rfl) (xd dk_R_init 4 rfl) ?_
  refine x_aload_n hc (xd dk_R_init 5 rfl) rfl rfl ?_
  refine x_aload_n hc (xd dk_R_init 6 rfl) rfl rfl ?_
  refine x_putF hc (ci := 9) (k := 1) fi_R ft_R ft_R_ok fn_R (xu_s _ _ _) rfl (by decide) rfl xw259 rfl hnm rfl rfl rfl (Nat.le_of_ble_eq_true rfl) (xd dk_R_init 7 rfl) ?_
  refine x_aload_n hc (xd dk_R_init 8 rfl) rfl rfl ?_
  refine x_aload_n hc (xd dk_R_init 9 rfl) rfl rfl ?_
  refine x_putF hc (ci := 9) (k := 2) fi_R ft_R ft_R_ok fn_R (xu_s _ _ _) rfl (by decide) rfl xw262 rfl hnm rfl rfl rfl (Nat.le_of_ble_eq_true rfl) (xd dk_R_init 10 rfl) ?_
  refine x_aload_n hc (xd dk_R_init 11 rfl) rfl rfl ?_
  refine x_aload hc (xd dk_R_init 12 rfl) rfl ?_
  refine x_putF hc (ci := 9) (k := 3) fi_R ft_R ft_R_ok fn_R (xu_s _ _ _) rfl (by decide) rfl xw264 rfl hnm rfl rfl rfl (Nat.le_of_ble_eq_true rfl) (xd dk_R_init 13 rfl) ?_
  refine x_aload_n hc (xd dk_R_init 14 rfl) rfl rfl ?_
  refine x_aload hc (xd dk_R_init 15 rfl) rfl ?_
  refine x_putF hc (ci := 9) (k := 4) fi_R ft_R ft_R_ok fn_R (xu_s _ _ _) rfl (by decide) rfl xw266 rfl hnm rfl rfl rfl (Nat.le_of_ble_eq_true rfl) (xd dk_R_init 16 rfl) ?_
  refine x_aload_n hc (xd dk_R_init 17 rfl) rfl rfl ?_
  refine x_aload hc (xd dk_R_init 18 rfl) rfl ?_
  refine x_putF hc (ci := 9) (k := 5) fi_R ft_R ft_R_ok fn_R (xu_s _ _ _) rfl (by decide) rfl xw268 rfl hnm rfl rfl rfl (Nat.le_of_ble_eq_true rfl) (xd dk_R_init 19 rfl) ?_
  refine x_aload_n hc (xd dk_R_init 20 rfl) rfl rfl ?_
  refine x_aload hc (xd dk_R_init 21 rfl) rfl ?_
  refine x_putF hc (ci := 9) (k := 6) fi_R ft_R ft_R_ok fn_R (xu_s _ _ _) rfl (by decide) rfl xw270 rfl hnm rfl rfl rfl (Nat.le_of_ble_eq_true rfl) (xd dk_R_init 22 rfl) ?_
  exact x_return hc (xd dk_R_init 23 rfl)
set_option maxRecDepth 100000 in
theorem r_L : ∀ j, j < 2 → defaultValue (ft_L j) = vp_V [.null, .int 0] j := by decide
set_option maxRecDepth 100000 in
theorem r_G : ∀ j, j < 3 → defaultValue (ft_G j) = vp_V [.null, .int 0, .int 0] j := by decide
set_option maxRecDepth 100000 in
theorem r_T : ∀ j, j < 7 → defaultValue (ft_T j) = vp_V [.null, .null, .null, .null, .null, .null, .int 0] j := by decide
set_option maxRecDepth 100000 in
theorem r_S : ∀ j, j < 4 → defaultValue (ft_S j) = vp_V [.null, .null, .null, .int 0] j := by decide
set_option maxRecDepth 100000 in
theorem r_H : ∀ j, j < 9 → defaultValue (ft_H j) = vp_V [.null, .null, .null, .null, .null, .null, .null, .null, .int 0] j := by decide
set_option maxRecDepth 100000 in
theorem r_M : ∀ j, j < 3 → defaultValue (ft_M j) = vp_V [.null, .null, .null] j := by decide
set_option maxRecDepth 100000 in
theorem r_B : ∀ j, j < 9 → defaultValue (ft_B j) = vp_V [.null, .null, .null, .null, .null, .null, .null, .int 0, .int 0] j := by decide
set_option maxRecDepth 100000 in
theorem r_P : ∀ j, j < 6 → defaultValue (ft_P j) = vp_V [.null, .null, .null, .null, .int 0, .int 0] j := by decide
set_option maxRecDepth 100000 in
theorem r_R : ∀ j, j < 7 → defaultValue (ft_R j) = vp_V [.null, .null, .null, .null, .null, .null, .null] j := by decide
set_option maxRecDepth 100000 in
theorem r_D : ∀ j, j < 6 → defaultValue (ft_D j) = vp_V [.null, .null, .null, .null, .int 0, .int 0] j := by decide
set_option maxRecDepth 100000 in
theorem r_N : ∀ j, j < 65 → defaultValue (ft_N j) = vp_V [.int 0, .int 0, .int 0, .int 0, .int 0, .int 0, .int 0, .int 0, .int 0, .int 0, .null, .null, .null, .null, .null, .null, .null, .null, .null, .null, .null, .null, .null, .null, .null, .null, .null, .int 0, .int 0, .int 0, .null, .null, .null, .null, .null, .null, .int 0, .null, .null, .null, .null, .int 0, .null, .null, .null, .null, .null, .null, .null, .null, .null, .null, .null, .null, .int 0, .int 0, .int 0, .int 0, .int 0, .int 0, .int 0, .null, .null, .int 0, .int 0] j := by decide
def hN1 (G : xG) (h : xH) (sz : Nat) : xH := hI_L G (xu h sz (.inr (1, [.null, .int 0]))) sz (sz + 1)
def hN2 (G : xG) (h : xH) (sz : Nat) : xH := hI_T G (xu (hN1 G h sz) (sz + 2) (.inr (3, [.null, .null, .null, .null, .null, .null, .int 0]))) (sz + 2) sz (sz + 3)
def hN3 (G : xG) (h : xH) (sz : Nat) : xH := hI_S G (xu (hN2 G h sz) (sz + 8) (.inr (4, [.null, .null, .null, .int 0]))) (sz + 8) (sz + 9)
def hN4 (G : xG) (h : xH) (sz : Nat) : xH := hI_H G (xu (hN3 G h sz) (sz + 12) (.inr (5, [.null, .null, .null, .null, .null, .null, .null, .null, .int 0]))) (sz + 12) (sz + 13)
def hN5 (G : xG) (h : xH) (sz : Nat) : xH := hI_M G (xu (hN4 G h sz) (sz + 21) (.inr (6, [.null, .null, .null]))) (sz + 21) (sz + 22)
def hN6 (G : xG) (h : xH) (sz : Nat) : xH := hI_B G (xu (hN5 G h sz) (sz + 25) (.inr (7, [.null, .null, .null, .null, .null, .null, .null, .int 0, .int 0]))) (sz + 25) (sz + 2) (sz + 8) (sz + 12) (sz + 21) (sz + 26)
def hN7 (G : xG) (h : xH) (sz : Nat) : xH := hI_P G (xu (hN6 G h sz) (sz + 29) (.inr (8, [.null, .null, .null, .null, .int 0, .int 0]))) (sz + 29) (sz + 2) (sz + 8) (sz + 21) (sz + 25) (sz + 30)
def hN8 (G : xG) (h : xH) (sz : Nat) : xH := hI_R G (xu (hN7 G h sz) (sz + 30) (.inr (9, [.null, .null, .null, .null, .null, .null, .null]))) (sz + 30) sz (sz + 2) (sz + 8) (sz + 12) (sz + 21) (sz + 25) (sz + 29) (sz + 31)
set_option maxRecDepth 100000 in
set_option maxHeartbeats 1000000 in
theorem i_newReading {l : Launch} {G : xG} {h : xH} {sz : Nat} : xM l G y_D_newReading c_D_newReading 7 (some (.object "LintDesk$Reading")) 2 31 1535 [] h sz (some (.ref (sz + 30))) (hN8 G h sz) (sz + 31) := by
  refine xM.of (k := 7) (L0 := [none, none, none, none, none, none, none]) (by decide) (Nat.le_of_ble_eq_true rfl) rfl ?_
  intro p e s m args below meth c hc hnm
  have hR : xRm { frames := 2, cells := 31, slots := 1535, locals := 48 * 2 } 2 := ⟨Nat.le_refl _, Nat.le_refl _⟩
  refine x_new hc fi_L ft_L ft_L_ok xw34 xw35 xw2 (ci := 1) rfl (fs := [.null, .int 0]) r_L (Nat.le_of_ble_eq_true rfl) (Nat.le_of_ble_eq_true rfl) (xd dk_D_newReading 0 rfl) ?_
  refine x_dup hc (xd dk_D_newReading 1 rfl) rfl ?_
  refine x_callIN hc (As := []) (n := 0) (i_L (G := G) (xu_s _ _ _) (by omega)) (hR.call (by decide) (by decide)) ⟨by decide, by decide, by decide⟩ rfl rfl rfl xw38 xw2 xn36 xw37 (Nat.le_of_ble_eq_true rfl) ⟨Nat.le_of_ble_eq_true rfl, Nat.le_of_ble_eq_true rfl⟩ (xd dk_D_newReading 2 rfl) ?_
  refine x_heap (h2 := (hN1 G h sz)) rfl ?_
  refine x_astore_n hc (xd dk_D_newReading 3 rfl) (by decide) rfl ?_
  refine x_new hc fi_T ft_T ft_T_ok xw71 xw72 xw4 (ci := 3) rfl (fs := [.null, .null, .null, .null, .null, .null, .int 0]) r_T (Nat.le_of_ble_eq_true rfl) (Nat.le_of_ble_eq_true rfl) (xd dk_D_newReading 4 rfl) ?_
  refine x_dup hc (xd dk_D_newReading 5 rfl) rfl ?_
  refine x_aload_n hc (xd dk_D_newReading 6 rfl) rfl rfl ?_
  refine x_callI hc (As := [.ref sz]) (n := 1) (i_T (G := G) (xu_s _ _ _) (by omega)) (hR.call (by decide) (by decide)) ⟨by decide, by decide, by decide⟩ rfl rfl rfl xw75 xw4 xw73 xw74 (Nat.le_of_ble_eq_true rfl) ⟨Nat.le_of_ble_eq_true rfl, Nat.le_of_ble_eq_true rfl⟩ (xd dk_D_newReading 7 rfl) ?_
  refine x_heap (h2 := (hN2 G h sz)) rfl ?_
  refine x_astore_n hc (xd dk_D_newReading 8 rfl) (by decide) rfl ?_
  refine x_new hc fi_S ft_S ft_S_ok xw104 xw105 xw5 (ci := 4) rfl (fs := [.null, .null, .null, .int 0]) r_S (Nat.le_of_ble_eq_true rfl) (Nat.le_of_ble_eq_true rfl) (xd dk_D_newReading 9 rfl) ?_
  refine x_dup hc (xd dk_D_newReading 10 rfl) rfl ?_
  refine x_callIN hc (As := []) (n := 0) (i_S (G := G) (xu_s _ _ _) (by omega)) (hR.call (by decide) (by decide)) ⟨by decide, by decide, by decide⟩ rfl rfl rfl xw108 xw5 xn106 xw107 (Nat.le_of_ble_eq_true rfl) ⟨Nat.le_of_ble_eq_true rfl, Nat.le_of_ble_eq_true rfl⟩ (xd dk_D_newReading 11 rfl) ?_
  refine x_heap (h2 := (hN3 G h sz)) rfl ?_
  refine x_astore_n hc (xd dk_D_newReading 12 rfl) (by decide) rfl ?_
  refine x_new hc fi_H ft_H ft_H_ok xw124 xw125 xw6 (ci := 5) rfl (fs := [.null, .null, .null, .null, .null, .null, .null, .null, .int 0]) r_H (Nat.le_of_ble_eq_true rfl) (Nat.le_of_ble_eq_true rfl) (xd dk_D_newReading 13 rfl) ?_
  refine x_dup hc (xd dk_D_newReading 14 rfl) rfl ?_
  refine x_callIN hc (As := []) (n := 0) (i_H (G := G) (xu_s _ _ _) (by omega)) (hR.call (by decide) (by decide)) ⟨by decide, by decide, by decide⟩ rfl rfl rfl xw128 xw6 xn126 xw127 (Nat.le_of_ble_eq_true rfl) ⟨Nat.le_of_ble_eq_true rfl, Nat.le_of_ble_eq_true rfl⟩ (xd dk_D_newReading 15 rfl) ?_
  refine x_heap (h2 := (hN4 G h sz)) rfl ?_
  refine x_astore_n hc (xd dk_D_newReading 16 rfl) (by decide) rfl ?_
  refine x_new hc fi_M ft_M ft_M_ok xw175 xw176 xw7 (ci := 6) rfl (fs := [.null, .null, .null]) r_M (Nat.le_of_ble_eq_true rfl) (Nat.le_of_ble_eq_true rfl) (xd dk_D_newReading 17 rfl) ?_
  refine x_dup hc (xd dk_D_newReading 18 rfl) rfl ?_
  refine x_callIN hc (As := []) (n := 0) (i_M (G := G) (xu_s _ _ _) (by omega)) (hR.call (by decide) (by decide)) ⟨by decide, by decide, by decide⟩ rfl rfl rfl xw179 xw7 xn177 xw178 (Nat.le_of_ble_eq_true rfl) ⟨Nat.le_of_ble_eq_true rfl, Nat.le_of_ble_eq_true rfl⟩ (xd dk_D_newReading 19 rfl) ?_
  refine x_heap (h2 := (hN5 G h sz)) rfl ?_
  refine x_astore hc (xd dk_D_newReading 20 rfl) (by decide) rfl ?_
  refine x_new hc fi_B ft_B ft_B_ok xw191 xw192 xw8 (ci := 7) rfl (fs := [.null, .null, .null, .null, .null, .null, .null, .int 0, .int 0]) r_B (Nat.le_of_ble_eq_true rfl) (Nat.le_of_ble_eq_true rfl) (xd dk_D_newReading 21 rfl) ?_
  refine x_dup hc (xd dk_D_newReading 22 rfl) rfl ?_
  refine x_aload_n hc (xd dk_D_newReading 23 rfl) rfl rfl ?_
  refine x_aload_n hc (xd dk_D_newReading 24 rfl) rfl rfl ?_
  refine x_aload_n hc (xd dk_D_newReading 25 rfl) rfl rfl ?_
  refine x_aload hc (xd dk_D_newReading 26 rfl) rfl ?_
  refine x_callI hc (As := [.ref (sz + 2), .ref (sz + 8), .ref (sz + 12), .ref (sz + 21)]) (n := 4) (i_B (G := G) (xu_s _ _ _) (by omega)) (hR.call (by decide) (by decide)) ⟨by decide, by decide, by decide⟩ rfl rfl rfl xw195 xw8 xw193 xw194 (Nat.le_of_ble_eq_true rfl) ⟨Nat.le_of_ble_eq_true rfl, Nat.le_of_ble_eq_true rfl⟩ (xd dk_D_newReading 27 rfl) ?_
  refine x_heap (h2 := (hN6 G h sz)) rfl ?_
  refine x_astore hc (xd dk_D_newReading 28 rfl) (by decide) rfl ?_
  refine x_new hc fi_P ft_P ft_P_ok xw226 xw227 xw9 (ci := 8) rfl (fs := [.null, .null, .null, .null, .int 0, .int 0]) r_P (Nat.le_of_ble_eq_true rfl) (Nat.le_of_ble_eq_true rfl) (xd dk_D_newReading 29 rfl) ?_
  refine x_dup hc (xd dk_D_newReading 30 rfl) rfl ?_
  refine x_aload_n hc (xd dk_D_newReading 31 rfl) rfl rfl ?_
  refine x_aload_n hc (xd dk_D_newReading 32 rfl) rfl rfl ?_
  refine x_aload hc (xd dk_D_newReading 33 rfl) rfl ?_
  refine x_aload hc (xd dk_D_newReading 34 rfl) rfl ?_
  refine x_callI hc (As := [.ref (sz + 2), .ref (sz + 8), .ref (sz + 21), .ref (sz + 25)]) (n := 4) (i_P (G := G) (xu_s _ _ _) (by omega)) (hR.call (by decide) (by decide)) ⟨by decide, by decide, by decide⟩ rfl rfl rfl xw230 xw9 xw228 xw229 (Nat.le_of_ble_eq_true rfl) ⟨Nat.le_of_ble_eq_true rfl, Nat.le_of_ble_eq_true rfl⟩ (xd dk_D_newReading 35 rfl) ?_
  refine x_heap (h2 := (hN7 G h sz)) rfl ?_
  refine x_astore hc (xd dk_D_newReading 36 rfl) (by decide) rfl ?_
  refine x_new hc fi_R ft_R ft_R_ok xw251 xw252 xw10 (ci := 9) rfl (fs := [.null, .null, .null, .null, .null, .null, .null]) r_R (Nat.le_of_ble_eq_true rfl) (Nat.le_of_ble_eq_true rfl) (xd dk_D_newReading 37 rfl) ?_
  refine x_dup hc (xd dk_D_newReading 38 rfl) rfl ?_
  refine x_aload_n hc (xd dk_D_newReading 39 rfl) rfl rfl ?_
  refine x_aload_n hc (xd dk_D_newReading 40 rfl) rfl rfl ?_
  refine x_aload_n hc (xd dk_D_newReading 41 rfl) rfl rfl ?_
  refine x_aload_n hc (xd dk_D_newReading 42 rfl) rfl rfl ?_
  refine x_aload hc (xd dk_D_newReading 43 rfl) rfl ?_
  refine x_aload hc (xd dk_D_newReading 44 rfl) rfl ?_
  refine x_aload hc (xd dk_D_newReading 45 rfl) rfl ?_
  refine x_callI hc (As := [.ref sz, .ref (sz + 2), .ref (sz + 8), .ref (sz + 12), .ref (sz + 21), .ref (sz + 25), .ref (sz + 29)]) (n := 7) (i_R (G := G) (xu_s _ _ _) (by omega)) (hR.call (by decide) (by decide)) ⟨by decide, by decide, by decide⟩ rfl rfl rfl xw255 xw10 xw253 xw254 (Nat.le_of_ble_eq_true rfl) ⟨Nat.le_of_ble_eq_true rfl, Nat.le_of_ble_eq_true rfl⟩ (xd dk_D_newReading 46 rfl) ?_
  refine x_heap (h2 := (hN8 G h sz)) rfl ?_
  exact x_areturn hc (xd dk_D_newReading 47 rfl)
