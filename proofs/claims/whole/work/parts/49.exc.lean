/-! PURE: excuses, clearing -/
/-- the memory with RULE r excused from TOKEN p on, m TOKENS -/
def mExc (M : xMem) (b r : Nat) : Nat → Nat → xMem
  | _, 0 => M
  | p, m + 1 => mExc (wI M (b + 23) p (M.1 (b + 23) p ||| ((1 : Int32) <<< (nI r &&& 31)))) b r (p + 1) m
theorem mExc_fr {b r : Nat} : ∀ (m p : Nat) (M : xMem), pFr (b + 23) (b + 24) M (mExc M b r p m) := by
  intro m
  induction m with
  | zero => intro p M; exact pFr.rfl
  | succ m ih => intro p M; exact (pFr.I (by omega)).trans (ih (p + 1) _)
theorem p_M_excuse_3 {b r : Nat} {p2 : Int32} : ∀ (m p fuel : Nat) (M : xMem), p + m ≤ 60 → 1 ≤ p + m → m < fuel → f_M_excuse_3 b (nI r) p2 (nI (p + m - 1)) fuel (nI p) M = some ((), mExc M b r p m) := by
  intro m
  induction m with
  | zero =>
    intro p fuel M h1 h2 hf
    obtain ⟨f, rfl⟩ : ∃ f, fuel = f + 1 := ⟨fuel - 1, by omega⟩
    rw [f_M_excuse_3, mExc]
    simp (disch := omega) only [↓reduceIte, nI_leT, nI_leF, nI_ltT, nI_ltF, nI_eqT, nI_eqF, xin_T, nI_clampT, nI_add, nI_inc, pk_subT, xb_some, xval, xlet, mI_s, mI_n, mI_k, mI_2, mJ_1, mJ_s, mJ_n, mJ_k, mJ_2, mT_1, mT_2, mT_s, mT_n, mT_k, mT_3, mR_1, mR_2, mR_3, bI_0, bI_1, bI_n0, bI_n1, Bool.true_eq_false, Bool.false_eq_true, eq_self, i_0, i_1, i_2, i_3, i_4, i_5, i_6, i_7, i_8, i_9, i_10, i_11, i_12, i_13, i_14, i_15, i_16, i_17, i_18, i_19, i_20, i_21, i_22, i_23, i_24, i_25, i_26, i_27, i_28, i_29, i_30, i_31, i_32, i_33, i_34, i_35, i_36, i_37, i_38, i_39, i_40, i_41, i_42, i_43, i_44, i_45, i_48, i_49, i_57, i_59, i_60, i_61, i_62, i_64, i_97, i_110, i_122, i_123, i_125, i_126, i_127, i_160, i_255, i_300, i_400]
  | succ m ih =>
    intro p fuel M h1 h2 hf
    obtain ⟨f, rfl⟩ : ∃ f, fuel = f + 1 := ⟨fuel - 1, by omega⟩
    have ih' := ih (p + 1) f (wI M (b + 23) p (M.1 (b + 23) p ||| ((1 : Int32) <<< (nI r &&& 31)))) (by omega) (by omega) (by omega)
    rw [show p + 1 + m - 1 = p + (m + 1) - 1 by omega] at ih'
    rw [f_M_excuse_3, mExc]
    unfold f_M_isThere f_M_excuse_30
    rw [i_1, i_31] at ih' ⊢
    simp (disch := omega) only [↓reduceIte, nI_leT, nI_leF, nI_ltT, nI_ltF, nI_eqT, nI_eqF, xin_T, nI_clampT, nI_add, nI_inc, pk_subT, xb_some, xval, xlet, mI_s, mI_n, mI_k, mI_2, mJ_1, mJ_s, mJ_n, mJ_k, mJ_2, mT_1, mT_2, mT_s, mT_n, mT_k, mT_3, mR_1, mR_2, mR_3, bI_0, bI_1, bI_n0, bI_n1, Bool.true_eq_false, Bool.false_eq_true, eq_self, i_0, i_1, i_2, i_3, i_4, i_5, i_6, i_7, i_8, i_9, i_10, i_11, i_12, i_13, i_14, i_15, i_16, i_17, i_18, i_19, i_20, i_21, i_22, i_23, i_24, i_25, i_26, i_27, i_28, i_29, i_30, i_31, i_32, i_33, i_34, i_35, i_36, i_37, i_38, i_39, i_40, i_41, i_42, i_43, i_44, i_45, i_48, i_49, i_57, i_59, i_60, i_61, i_62, i_64, i_97, i_110, i_122, i_123, i_125, i_126, i_127, i_160, i_255, i_300, i_400]
    exact ih'
theorem p_M_excuse {M : xMem} {b r p q : Nat} (h : p ≤ q) (hq : q ≤ 60) (hp : 1 ≤ q) : f_M_excuse b (nI r) (nI p) (nI (q - 1)) M = some ((), mExc M b r p (q - p)) := by
  have := p_M_excuse_3 (b := b) (r := r) (p2 := nI p) (q - p) p 2000 M (by omega) (by omega) (by omega)
  rw [show p + (q - p) - 1 = q - 1 by omega] at this
  exact this
theorem mExc_at {b r : Nat} : ∀ (m p : Nat) (M : xMem) (x : Nat), (mExc M b r p m).1 (b + 23) x = if p ≤ x ∧ x < p + m then M.1 (b + 23) x ||| ((1 : Int32) <<< (nI r &&& 31)) else M.1 (b + 23) x := by
  intro m
  induction m with
  | zero => intro p M x; rw [mExc, if_neg (by omega)]
  | succ m ih =>
    intro p M x
    rw [mExc, ih]
    by_cases c : x = p
    · subst c
      rw [if_neg (by omega), if_pos (by omega)]
      exact mI_s rfl rfl
    · by_cases c2 : p + 1 ≤ x ∧ x < p + 1 + m
      · rw [if_pos c2, if_pos (by omega), mI_k c]
      · rw [if_neg c2, if_neg (by omega), mI_k c]
theorem q_mem_modify {l : List qE} {u : qE → qE} {a : Nat} {x : qE} (ha : a < l.length) : x ∈ l.modify a u ↔ (∃ i, i < l.length ∧ i ≠ a ∧ qg l i = x) ∨ x = u (qg l a) := by
  constructor
  · intro h
    obtain ⟨i, hi, e⟩ := qg_of_mem h
    rw [List.length_modify] at hi
    by_cases c : i = a
    · subst c; rw [qg_mod ha] at e; exact .inr e.symm
    · rw [qg_modn c] at e; exact .inl ⟨i, hi, c, e⟩
  · intro h
    rcases h with ⟨i, hi, c, e⟩ | h
    · rw [← e, ← qg_modn (u := u) c]; exact qg_mem (by rw [List.length_modify]; exact hi)
    · rw [h, ← qg_mod (u := u) ha]; exact qg_mem (by rw [List.length_modify]; exact ha)
theorem mExc_rEx {M : xMem} {b r p q a : Nat} {l : List qE} (h : rEx M b l) (hr : r < 10) (hpq : p ≤ q) (ha : a < l.length) (e1 : (qg l a).1 = r) (e2 : (qg l a).2.1 = p) (e3 : (qg l a).2.2.1 = 0) : rEx (mExc M b r p (q - p)) b (l.modify a (fun e => (e.1, e.2.1, q, e.2.2.2))) := by
  intro x hx
  rw [mExc_at]
  have old : ∀ r', (∃ e, e ∈ l ∧ e.1 = r' ∧ e.2.1 ≤ x ∧ x < e.2.2.1) ↔ (∃ i, i < l.length ∧ i ≠ a ∧ (qg l i).1 = r' ∧ (qg l i).2.1 ≤ x ∧ x < (qg l i).2.2.1) := by
    intro r'
    constructor
    · intro ⟨e, he, h1, h2, h3⟩
      obtain ⟨i, hi, ei⟩ := qg_of_mem he
      refine ⟨i, hi, ?_, by rw [ei]; exact h1, by rw [ei]; exact h2, by rw [ei]; exact h3⟩
      intro c; subst c; rw [← ei, e3] at h3; omega
    · intro ⟨i, hi, _, h1, h2, h3⟩; exact ⟨qg l i, qg_mem hi, h1, h2, h3⟩
  have new : ∀ r', (∃ e, e ∈ l.modify a (fun e => (e.1, e.2.1, q, e.2.2.2)) ∧ e.1 = r' ∧ e.2.1 ≤ x ∧ x < e.2.2.1) ↔ ((∃ i, i < l.length ∧ i ≠ a ∧ (qg l i).1 = r' ∧ (qg l i).2.1 ≤ x ∧ x < (qg l i).2.2.1) ∨ (r' = r ∧ p ≤ x ∧ x < q)) := by
    intro r'
    constructor
    · intro ⟨e, he, h1, h2, h3⟩
      rcases (q_mem_modify ha).mp he with ⟨i, hi, c, ei⟩ | ei
      · exact .inl ⟨i, hi, c, by rw [ei]; exact h1, by rw [ei]; exact h2, by rw [ei]; exact h3⟩
      · subst ei
        dsimp only at h1 h2 h3
        exact .inr ⟨by omega, by omega, h3⟩
    · intro h
      rcases h with ⟨i, hi, c, h1, h2, h3⟩ | ⟨h1, h2, h3⟩
      · exact ⟨qg l i, (q_mem_modify ha).mpr (.inl ⟨i, hi, c, rfl⟩), h1, h2, h3⟩
      · exact ⟨_, (q_mem_modify ha).mpr (.inr rfl), by dsimp only; omega, by dsimp only; omega, h3⟩
  split
  · rename_i c
    refine ((h x hx).or hr).iff ?_
    intro r' _
    rw [new, old]
    constructor
    · intro h; rcases h with h | h
      · exact .inl h
      · exact .inr ⟨h, by omega, by omega⟩
    · intro h; rcases h with h | h
      · exact .inl h
      · exact .inr h.1
  · rename_i c
    refine (h x hx).iff ?_
    intro r' _
    rw [new, old]
    constructor
    · intro h; exact .inl h
    · intro h; rcases h with h | h
      · exact h
      · omega
theorem mExc_rC {M : xMem} {b r p q a tok sc : Nat} {t : List Nat} {L : qL} (h : rC M b t tok sc L) (hr : r < 10) (hpq : p ≤ q) (ha : a < (L 4).length) (e1 : (qg (L 4) a).1 = r) (e2 : (qg (L 4) a).2.1 = p) (e3 : (qg (L 4) a).2.2.1 = 0) : rC (mExc M b r p (q - p)) b t tok sc (qM 4 a (fun e => (e.1, e.2.1, q, e.2.2.2)) L) := by
  obtain ⟨g1, g2, g3, h1, h2, h3, h4, h5, h6⟩ := h
  have f := mExc_fr (b := b) (r := r) (q - p) p M
  refine ⟨g1.fr f (by omega), ?_, ?_, ?_, ?_, ?_, ?_, ?_, ?_⟩
  · rw [(f.1 (b + 29) (by omega)).1]; exact g2
  · rw [(f.1 (b + 29) (by omega)).1]; exact g3
  · rw [qM_n _ _ _ (by omega)]; exact h1.to (fun a ha hb => (f.1 a (by omega)).1)
  · rw [qM_n _ _ _ (by omega)]; exact h2.to (fun a ha hb => (f.1 a (by omega)).1)
  · rw [qM_n _ _ _ (by omega)]; exact h3.to (fun a ha hb => (f.1 a (by omega)).1)
  · exact h4.to ((f.1 _ (by omega)).1) (fun g h1 h2 => qM_n _ _ _ (by omega))
  · rw [qM_s]; exact mExc_rEx h5 hr hpq ha e1 e2 e3
  · rw [qM_n _ _ _ (by omega)]; exact h6.to ((f.1 _ (by omega)).1)
/-- marks cleared from p on -/
def mClr (M : xMem) (b : Nat) : Nat → Nat → xMem
  | _, 0 => M
  | p, m + 1 => mClr (wI (wI (wI M (b + 22) p (nI 0)) (b + 23) p (nI 0)) (b + 24) p (nI 0)) b (p + 1) m
theorem mClr_fr {b : Nat} : ∀ (m p : Nat) (M : xMem), pFr (b + 22) (b + 25) M (mClr M b p m) := by
  intro m
  induction m with
  | zero => intro p M; exact pFr.rfl
  | succ m ih => intro p M; exact (((pFr.I (by omega)).trans (pFr.I (by omega))).trans (pFr.I (by omega))).trans (ih (p + 1) _)
theorem p_M_clear_2 {b : Nat} : ∀ (m p fuel : Nat) (M : xMem), p + m = 60 → m < fuel → f_M_clear_2 b fuel (nI p) M = some ((), mClr M b p m) := by
  intro m
  induction m with
  | zero =>
    intro p fuel M h1 hf
    obtain ⟨f, rfl⟩ : ∃ f, fuel = f + 1 := ⟨fuel - 1, by omega⟩
    rw [f_M_clear_2, mClr]
    simp (disch := omega) only [↓reduceIte, nI_leT, nI_leF, nI_ltT, nI_ltF, nI_eqT, nI_eqF, xin_T, nI_clampT, nI_add, nI_inc, pk_subT, xb_some, xval, xlet, mI_s, mI_n, mI_k, mI_2, mJ_1, mJ_s, mJ_n, mJ_k, mJ_2, mT_1, mT_2, mT_s, mT_n, mT_k, mT_3, mR_1, mR_2, mR_3, bI_0, bI_1, bI_n0, bI_n1, Bool.true_eq_false, Bool.false_eq_true, eq_self, i_0, i_1, i_2, i_3, i_4, i_5, i_6, i_7, i_8, i_9, i_10, i_11, i_12, i_13, i_14, i_15, i_16, i_17, i_18, i_19, i_20, i_21, i_22, i_23, i_24, i_25, i_26, i_27, i_28, i_29, i_30, i_31, i_32, i_33, i_34, i_35, i_36, i_37, i_38, i_39, i_40, i_41, i_42, i_43, i_44, i_45, i_48, i_49, i_57, i_59, i_60, i_61, i_62, i_64, i_97, i_110, i_122, i_123, i_125, i_126, i_127, i_160, i_255, i_300, i_400]
  | succ m ih =>
    intro p fuel M h1 hf
    obtain ⟨f, rfl⟩ : ∃ f, fuel = f + 1 := ⟨fuel - 1, by omega⟩
    have ih' := ih (p + 1) f (wI (wI (wI M (b + 22) p (nI 0)) (b + 23) p (nI 0)) (b + 24) p (nI 0)) (by omega) (by omega)
    rw [f_M_clear_2, mClr]
    simp (disch := omega) only [↓reduceIte, nI_leT, nI_leF, nI_ltT, nI_ltF, nI_eqT, nI_eqF, xin_T, nI_clampT, nI_add, nI_inc, pk_subT, xb_some, xval, xlet, mI_s, mI_n, mI_k, mI_2, mJ_1, mJ_s, mJ_n, mJ_k, mJ_2, mT_1, mT_2, mT_s, mT_n, mT_k, mT_3, mR_1, mR_2, mR_3, bI_0, bI_1, bI_n0, bI_n1, Bool.true_eq_false, Bool.false_eq_true, eq_self, i_0, i_1, i_2, i_3, i_4, i_5, i_6, i_7, i_8, i_9, i_10, i_11, i_12, i_13, i_14, i_15, i_16, i_17, i_18, i_19, i_20, i_21, i_22, i_23, i_24, i_25, i_26, i_27, i_28, i_29, i_30, i_31, i_32, i_33, i_34, i_35, i_36, i_37, i_38, i_39, i_40, i_41, i_42, i_43, i_44, i_45, i_48, i_49, i_57, i_59, i_60, i_61, i_62, i_64, i_97, i_110, i_122, i_123, i_125, i_126, i_127, i_160, i_255, i_300, i_400, vp_narB0]
    exact ih'
theorem mClr_at {b : Nat} : ∀ (m p : Nat) (M : xMem) (x : Nat), (p ≤ x → x < p + m → (mClr M b p m).1 (b + 22) x = nI 0 ∧ (mClr M b p m).1 (b + 23) x = nI 0 ∧ (mClr M b p m).1 (b + 24) x = nI 0) ∧ (x < p → (mClr M b p m).1 (b + 22) x = M.1 (b + 22) x ∧ (mClr M b p m).1 (b + 23) x = M.1 (b + 23) x ∧ (mClr M b p m).1 (b + 24) x = M.1 (b + 24) x) := by
  intro m
  induction m with
  | zero => intro p M x; exact ⟨fun h1 h2 => by omega, fun _ => ⟨rfl, rfl, rfl⟩⟩
  | succ m ih =>
    intro p M x
    rw [mClr]
    obtain ⟨i1, i2⟩ := ih (p + 1) (wI (wI (wI M (b + 22) p (nI 0)) (b + 23) p (nI 0)) (b + 24) p (nI 0)) x
    refine ⟨?_, ?_⟩
    · intro h1 h2
      by_cases c : x = p
      · subst c
        obtain ⟨k1, k2, k3⟩ := i2 (by omega)
        rw [k1, k2, k3]
        refine ⟨?_, ?_, ?_⟩ <;> simp (disch := omega) only [↓reduceIte, nI_leT, nI_leF, nI_ltT, nI_ltF, nI_eqT, nI_eqF, xin_T, nI_clampT, nI_add, nI_inc, pk_subT, xb_some, xval, xlet, mI_s, mI_n, mI_k, mI_2, mJ_1, mJ_s, mJ_n, mJ_k, mJ_2, mT_1, mT_2, mT_s, mT_n, mT_k, mT_3, mR_1, mR_2, mR_3, bI_0, bI_1, bI_n0, bI_n1, Bool.true_eq_false, Bool.false_eq_true, eq_self, i_0, i_1, i_2, i_3, i_4, i_5, i_6, i_7, i_8, i_9, i_10, i_11, i_12, i_13, i_14, i_15, i_16, i_17, i_18, i_19, i_20, i_21, i_22, i_23, i_24, i_25, i_26, i_27, i_28, i_29, i_30, i_31, i_32, i_33, i_34, i_35, i_36, i_37, i_38, i_39, i_40, i_41, i_42, i_43, i_44, i_45, i_48, i_49, i_57, i_59, i_60, i_61, i_62, i_64, i_97, i_110, i_122, i_123, i_125, i_126, i_127, i_160, i_255, i_300, i_400]
      · exact i1 (by omega) (by omega)
    · intro h1
      obtain ⟨k1, k2, k3⟩ := i2 (by omega)
      rw [k1, k2, k3]
      refine ⟨?_, ?_, ?_⟩ <;> simp (disch := omega) only [↓reduceIte, nI_leT, nI_leF, nI_ltT, nI_ltF, nI_eqT, nI_eqF, xin_T, nI_clampT, nI_add, nI_inc, pk_subT, xb_some, xval, xlet, mI_s, mI_n, mI_k, mI_2, mJ_1, mJ_s, mJ_n, mJ_k, mJ_2, mT_1, mT_2, mT_s, mT_n, mT_k, mT_3, mR_1, mR_2, mR_3, bI_0, bI_1, bI_n0, bI_n1, Bool.true_eq_false, Bool.false_eq_true, eq_self, i_0, i_1, i_2, i_3, i_4, i_5, i_6, i_7, i_8, i_9, i_10, i_11, i_12, i_13, i_14, i_15, i_16, i_17, i_18, i_19, i_20, i_21, i_22, i_23, i_24, i_25, i_26, i_27, i_28, i_29, i_30, i_31, i_32, i_33, i_34, i_35, i_36, i_37, i_38, i_39, i_40, i_41, i_42, i_43, i_44, i_45, i_48, i_49, i_57, i_59, i_60, i_61, i_62, i_64, i_97, i_110, i_122, i_123, i_125, i_126, i_127, i_160, i_255, i_300, i_400]
theorem rBits_0 {P : Nat → Prop} (h : ∀ r, r < 10 → ¬ P r) : rBits P (nI 0) := ⟨0, by omega, rfl, fun r hr => by simp [h r hr]⟩
/-- what the grammar begins with -/
theorem p_clear {M : xMem} {b : Nat} {t : List Nat} (h : pLx M b t) (k : xMem → Option (Int32 × xMem)) : ∃ M', (xbind (f_S_clear b M) fun _ M => xbind (f_M_clear b M) fun _ M => xbind (f_B_clear b M) fun _ M => xlet (wI M (b + 29) 4 0) fun M => xlet (wI M (b + 29) 5 0) fun M => k M) = k M' ∧ rC M' b t 0 0 q0.2.2.2 ∧ pFr (b + 8) (b + 30) M M' := by
  let M1 := wI (wI (wI (wI M (b + 9) 0 (nI 0)) (b + 10) 0 (nI 0)) (b + 11) 0 (nI 0)) (b + 8) 3 (nI 1)
  have f1 : pFr (b + 8) (b + 30) M M1 := (((pFr.I (by omega)).trans (pFr.I (by omega))).trans (pFr.I (by omega))).trans (pFr.I (by omega))
  have e1 : f_S_clear b M = some ((), M1) := by
    unfold f_S_clear
    simp (disch := omega) only [↓reduceIte, nI_leT, nI_leF, nI_ltT, nI_ltF, nI_eqT, nI_eqF, xin_T, nI_clampT, nI_add, nI_inc, pk_subT, xb_some, xval, xlet, mI_s, mI_n, mI_k, mI_2, mJ_1, mJ_s, mJ_n, mJ_k, mJ_2, mT_1, mT_2, mT_s, mT_n, mT_k, mT_3, mR_1, mR_2, mR_3, bI_0, bI_1, bI_n0, bI_n1, Bool.true_eq_false, Bool.false_eq_true, eq_self, i_0, i_1, i_2, i_3, i_4, i_5, i_6, i_7, i_8, i_9, i_10, i_11, i_12, i_13, i_14, i_15, i_16, i_17, i_18, i_19, i_20, i_21, i_22, i_23, i_24, i_25, i_26, i_27, i_28, i_29, i_30, i_31, i_32, i_33, i_34, i_35, i_36, i_37, i_38, i_39, i_40, i_41, i_42, i_43, i_44, i_45, i_48, i_49, i_57, i_59, i_60, i_61, i_62, i_64, i_97, i_110, i_122, i_123, i_125, i_126, i_127, i_160, i_255, i_300, i_400]
    rfl
  let M2 := mClr M1 b 0 60
  have f2 : pFr (b + 22) (b + 25) M1 M2 := mClr_fr 60 0 M1
  have e2 : f_M_clear b M1 = some ((), M2) := p_M_clear_2 60 0 2000 M1 (by omega) (by omega)
  let M3 := wI (wI (wI M2 (b + 12) 8 (nI 0)) (b + 25) 7 (nI 0)) (b + 25) 8 (nI 0)
  have e3 : f_B_clear b M2 = some ((), M3) := by
    unfold f_B_clear f_H_clear
    simp (disch := omega) only [↓reduceIte, nI_leT, nI_leF, nI_ltT, nI_ltF, nI_eqT, nI_eqF, xin_T, nI_clampT, nI_add, nI_inc, pk_subT, xb_some, xval, xlet, mI_s, mI_n, mI_k, mI_2, mJ_1, mJ_s, mJ_n, mJ_k, mJ_2, mT_1, mT_2, mT_s, mT_n, mT_k, mT_3, mR_1, mR_2, mR_3, bI_0, bI_1, bI_n0, bI_n1, Bool.true_eq_false, Bool.false_eq_true, eq_self, i_0, i_1, i_2, i_3, i_4, i_5, i_6, i_7, i_8, i_9, i_10, i_11, i_12, i_13, i_14, i_15, i_16, i_17, i_18, i_19, i_20, i_21, i_22, i_23, i_24, i_25, i_26, i_27, i_28, i_29, i_30, i_31, i_32, i_33, i_34, i_35, i_36, i_37, i_38, i_39, i_40, i_41, i_42, i_43, i_44, i_45, i_48, i_49, i_57, i_59, i_60, i_61, i_62, i_64, i_97, i_110, i_122, i_123, i_125, i_126, i_127, i_160, i_255, i_300, i_400]
    rfl
  let M4 := wI (wI M3 (b + 29) 4 (nI 0)) (b + 29) 5 (nI 0)
  have f4 : pFr (b + 8) (b + 30) M2 M4 := ((((pFr.I (by omega)).trans (pFr.I (by omega))).trans (pFr.I (by omega))).trans (pFr.I (by omega))).trans (pFr.I (by omega))
  have fr : pFr (b + 8) (b + 30) M M4 := (f1.trans (f2.mono (by omega) (by omega))).trans f4
  have at4 : ∀ a, b + 8 ≤ a → a < b + 12 → M4.1 a = M1.1 a := by
    intro a h1 h2
    have : M4.1 a = M2.1 a := by
      show (wI (wI (wI (wI (wI M2 (b + 12) 8 (nI 0)) (b + 25) 7 (nI 0)) (b + 25) 8 (nI 0)) (b + 29) 4 (nI 0)) (b + 29) 5 (nI 0)).1 a = M2.1 a
      rw [wI_ne _ _ _ (by omega), wI_ne _ _ _ (by omega), wI_ne _ _ _ (by omega), wI_ne _ _ _ (by omega), wI_ne _ _ _ (by omega)]
    rw [this]; exact (f2.1 a (by omega)).1
  have at22 : ∀ a, b + 22 ≤ a → a < b + 25 → M4.1 a = M2.1 a := by
    intro a h1 h2
    show (wI (wI (wI (wI (wI M2 (b + 12) 8 (nI 0)) (b + 25) 7 (nI 0)) (b + 25) 8 (nI 0)) (b + 29) 4 (nI 0)) (b + 29) 5 (nI 0)).1 a = M2.1 a
    rw [wI_ne _ _ _ (by omega), wI_ne _ _ _ (by omega), wI_ne _ _ _ (by omega), wI_ne _ _ _ (by omega), wI_ne _ _ _ (by omega)]
  refine ⟨M4, ?_, ⟨h.fr fr (by omega), ?_, ?_, ⟨?_, ?_, ?_, ?_, ?_, ?_⟩⟩, fr⟩
  · rw [e1, xb_some, e2, xb_some, e3, xb_some]
    rfl
  · show (wI (wI M3 (b + 29) 4 (nI 0)) (b + 29) 5 (nI 0)).1 (b + 29) 4 = nI 0
    simp (disch := omega) only [↓reduceIte, nI_leT, nI_leF, nI_ltT, nI_ltF, nI_eqT, nI_eqF, xin_T, nI_clampT, nI_add, nI_inc, pk_subT, xb_some, xval, xlet, mI_s, mI_n, mI_k, mI_2, mJ_1, mJ_s, mJ_n, mJ_k, mJ_2, mT_1, mT_2, mT_s, mT_n, mT_k, mT_3, mR_1, mR_2, mR_3, bI_0, bI_1, bI_n0, bI_n1, Bool.true_eq_false, Bool.false_eq_true, eq_self, i_0, i_1, i_2, i_3, i_4, i_5, i_6, i_7, i_8, i_9, i_10, i_11, i_12, i_13, i_14, i_15, i_16, i_17, i_18, i_19, i_20, i_21, i_22, i_23, i_24, i_25, i_26, i_27, i_28, i_29, i_30, i_31, i_32, i_33, i_34, i_35, i_36, i_37, i_38, i_39, i_40, i_41, i_42, i_43, i_44, i_45, i_48, i_49, i_57, i_59, i_60, i_61, i_62, i_64, i_97, i_110, i_122, i_123, i_125, i_126, i_127, i_160, i_255, i_300, i_400]
  · show (wI (wI M3 (b + 29) 4 (nI 0)) (b + 29) 5 (nI 0)).1 (b + 29) 5 = nI 0
    simp (disch := omega) only [↓reduceIte, nI_leT, nI_leF, nI_ltT, nI_ltF, nI_eqT, nI_eqF, xin_T, nI_clampT, nI_add, nI_inc, pk_subT, xb_some, xval, xlet, mI_s, mI_n, mI_k, mI_2, mJ_1, mJ_s, mJ_n, mJ_k, mJ_2, mT_1, mT_2, mT_s, mT_n, mT_k, mT_3, mR_1, mR_2, mR_3, bI_0, bI_1, bI_n0, bI_n1, Bool.true_eq_false, Bool.false_eq_true, eq_self, i_0, i_1, i_2, i_3, i_4, i_5, i_6, i_7, i_8, i_9, i_10, i_11, i_12, i_13, i_14, i_15, i_16, i_17, i_18, i_19, i_20, i_21, i_22, i_23, i_24, i_25, i_26, i_27, i_28, i_29, i_30, i_31, i_32, i_33, i_34, i_35, i_36, i_37, i_38, i_39, i_40, i_41, i_42, i_43, i_44, i_45, i_48, i_49, i_57, i_59, i_60, i_61, i_62, i_64, i_97, i_110, i_122, i_123, i_125, i_126, i_127, i_160, i_255, i_300, i_400]
  · refine ⟨?_, ?_, ?_, ?_⟩
    · rw [at4 _ (by omega) (by omega)]
      show (wI (wI (wI (wI M (b + 9) 0 (nI 0)) (b + 10) 0 (nI 0)) (b + 11) 0 (nI 0)) (b + 8) 3 (nI 1)).1 (b + 8) 3 = nI 1
      simp (disch := omega) only [↓reduceIte, nI_leT, nI_leF, nI_ltT, nI_ltF, nI_eqT, nI_eqF, xin_T, nI_clampT, nI_add, nI_inc, pk_subT, xb_some, xval, xlet, mI_s, mI_n, mI_k, mI_2, mJ_1, mJ_s, mJ_n, mJ_k, mJ_2, mT_1, mT_2, mT_s, mT_n, mT_k, mT_3, mR_1, mR_2, mR_3, bI_0, bI_1, bI_n0, bI_n1, Bool.true_eq_false, Bool.false_eq_true, eq_self, i_0, i_1, i_2, i_3, i_4, i_5, i_6, i_7, i_8, i_9, i_10, i_11, i_12, i_13, i_14, i_15, i_16, i_17, i_18, i_19, i_20, i_21, i_22, i_23, i_24, i_25, i_26, i_27, i_28, i_29, i_30, i_31, i_32, i_33, i_34, i_35, i_36, i_37, i_38, i_39, i_40, i_41, i_42, i_43, i_44, i_45, i_48, i_49, i_57, i_59, i_60, i_61, i_62, i_64, i_97, i_110, i_122, i_123, i_125, i_126, i_127, i_160, i_255, i_300, i_400]
    · intro i hi
      have : i = 0 := by have : i < 1 := hi; omega
      subst this
      rw [at4 _ (by omega) (by omega)]
      show (wI (wI (wI (wI M (b + 9) 0 (nI 0)) (b + 10) 0 (nI 0)) (b + 11) 0 (nI 0)) (b + 8) 3 (nI 1)).1 (b + 9) 0 = nI 0
      simp (disch := omega) only [↓reduceIte, nI_leT, nI_leF, nI_ltT, nI_ltF, nI_eqT, nI_eqF, xin_T, nI_clampT, nI_add, nI_inc, pk_subT, xb_some, xval, xlet, mI_s, mI_n, mI_k, mI_2, mJ_1, mJ_s, mJ_n, mJ_k, mJ_2, mT_1, mT_2, mT_s, mT_n, mT_k, mT_3, mR_1, mR_2, mR_3, bI_0, bI_1, bI_n0, bI_n1, Bool.true_eq_false, Bool.false_eq_true, eq_self, i_0, i_1, i_2, i_3, i_4, i_5, i_6, i_7, i_8, i_9, i_10, i_11, i_12, i_13, i_14, i_15, i_16, i_17, i_18, i_19, i_20, i_21, i_22, i_23, i_24, i_25, i_26, i_27, i_28, i_29, i_30, i_31, i_32, i_33, i_34, i_35, i_36, i_37, i_38, i_39, i_40, i_41, i_42, i_43, i_44, i_45, i_48, i_49, i_57, i_59, i_60, i_61, i_62, i_64, i_97, i_110, i_122, i_123, i_125, i_126, i_127, i_160, i_255, i_300, i_400]
    · intro i hi
      have : i = 0 := by have : i < 1 := hi; omega
      subst this
      rw [at4 _ (by omega) (by omega)]
      show (wI (wI (wI (wI M (b + 9) 0 (nI 0)) (b + 10) 0 (nI 0)) (b + 11) 0 (nI 0)) (b + 8) 3 (nI 1)).1 (b + 10) 0 = nI 0
      simp (disch := omega) only [↓reduceIte, nI_leT, nI_leF, nI_ltT, nI_ltF, nI_eqT, nI_eqF, xin_T, nI_clampT, nI_add, nI_inc, pk_subT, xb_some, xval, xlet, mI_s, mI_n, mI_k, mI_2, mJ_1, mJ_s, mJ_n, mJ_k, mJ_2, mT_1, mT_2, mT_s, mT_n, mT_k, mT_3, mR_1, mR_2, mR_3, bI_0, bI_1, bI_n0, bI_n1, Bool.true_eq_false, Bool.false_eq_true, eq_self, i_0, i_1, i_2, i_3, i_4, i_5, i_6, i_7, i_8, i_9, i_10, i_11, i_12, i_13, i_14, i_15, i_16, i_17, i_18, i_19, i_20, i_21, i_22, i_23, i_24, i_25, i_26, i_27, i_28, i_29, i_30, i_31, i_32, i_33, i_34, i_35, i_36, i_37, i_38, i_39, i_40, i_41, i_42, i_43, i_44, i_45, i_48, i_49, i_57, i_59, i_60, i_61, i_62, i_64, i_97, i_110, i_122, i_123, i_125, i_126, i_127, i_160, i_255, i_300, i_400]
    · intro i hi
      have : i = 0 := by have : i < 1 := hi; omega
      subst this
      rw [at4 _ (by omega) (by omega)]
      show (wI (wI (wI (wI M (b + 9) 0 (nI 0)) (b + 10) 0 (nI 0)) (b + 11) 0 (nI 0)) (b + 8) 3 (nI 1)).1 (b + 11) 0 = nI 0
      simp (disch := omega) only [↓reduceIte, nI_leT, nI_leF, nI_ltT, nI_ltF, nI_eqT, nI_eqF, xin_T, nI_clampT, nI_add, nI_inc, pk_subT, xb_some, xval, xlet, mI_s, mI_n, mI_k, mI_2, mJ_1, mJ_s, mJ_n, mJ_k, mJ_2, mT_1, mT_2, mT_s, mT_n, mT_k, mT_3, mR_1, mR_2, mR_3, bI_0, bI_1, bI_n0, bI_n1, Bool.true_eq_false, Bool.false_eq_true, eq_self, i_0, i_1, i_2, i_3, i_4, i_5, i_6, i_7, i_8, i_9, i_10, i_11, i_12, i_13, i_14, i_15, i_16, i_17, i_18, i_19, i_20, i_21, i_22, i_23, i_24, i_25, i_26, i_27, i_28, i_29, i_30, i_31, i_32, i_33, i_34, i_35, i_36, i_37, i_38, i_39, i_40, i_41, i_42, i_43, i_44, i_45, i_48, i_49, i_57, i_59, i_60, i_61, i_62, i_64, i_97, i_110, i_122, i_123, i_125, i_126, i_127, i_160, i_255, i_300, i_400]
  · have z : ∀ {a : Nat} {g : qE → Nat}, rA M4 a (q0.2.2.2 1) g := by
      intro a g i hi; exact absurd (show i < 0 from hi) (by omega)
    refine ⟨?_, z, z, z, z, z, z, z, z⟩
    show (wI (wI (wI (wI (wI M2 (b + 12) 8 (nI 0)) (b + 25) 7 (nI 0)) (b + 25) 8 (nI 0)) (b + 29) 4 (nI 0)) (b + 29) 5 (nI 0)).1 (b + 12) 8 = nI 0
    simp (disch := omega) only [↓reduceIte, nI_leT, nI_leF, nI_ltT, nI_ltF, nI_eqT, nI_eqF, xin_T, nI_clampT, nI_add, nI_inc, pk_subT, xb_some, xval, xlet, mI_s, mI_n, mI_k, mI_2, mJ_1, mJ_s, mJ_n, mJ_k, mJ_2, mT_1, mT_2, mT_s, mT_n, mT_k, mT_3, mR_1, mR_2, mR_3, bI_0, bI_1, bI_n0, bI_n1, Bool.true_eq_false, Bool.false_eq_true, eq_self, i_0, i_1, i_2, i_3, i_4, i_5, i_6, i_7, i_8, i_9, i_10, i_11, i_12, i_13, i_14, i_15, i_16, i_17, i_18, i_19, i_20, i_21, i_22, i_23, i_24, i_25, i_26, i_27, i_28, i_29, i_30, i_31, i_32, i_33, i_34, i_35, i_36, i_37, i_38, i_39, i_40, i_41, i_42, i_43, i_44, i_45, i_48, i_49, i_57, i_59, i_60, i_61, i_62, i_64, i_97, i_110, i_122, i_123, i_125, i_126, i_127, i_160, i_255, i_300, i_400]
  · have z : ∀ {a : Nat} {g : qE → Nat}, rA M4 a (q0.2.2.2 2) g := by
      intro a g i hi; exact absurd (show i < 0 from hi) (by omega)
    refine ⟨?_, ?_, z, z, z⟩
    · show (wI (wI (wI (wI (wI M2 (b + 12) 8 (nI 0)) (b + 25) 7 (nI 0)) (b + 25) 8 (nI 0)) (b + 29) 4 (nI 0)) (b + 29) 5 (nI 0)).1 (b + 25) 7 = nI 0
      simp (disch := omega) only [↓reduceIte, nI_leT, nI_leF, nI_ltT, nI_ltF, nI_eqT, nI_eqF, xin_T, nI_clampT, nI_add, nI_inc, pk_subT, xb_some, xval, xlet, mI_s, mI_n, mI_k, mI_2, mJ_1, mJ_s, mJ_n, mJ_k, mJ_2, mT_1, mT_2, mT_s, mT_n, mT_k, mT_3, mR_1, mR_2, mR_3, bI_0, bI_1, bI_n0, bI_n1, Bool.true_eq_false, Bool.false_eq_true, eq_self, i_0, i_1, i_2, i_3, i_4, i_5, i_6, i_7, i_8, i_9, i_10, i_11, i_12, i_13, i_14, i_15, i_16, i_17, i_18, i_19, i_20, i_21, i_22, i_23, i_24, i_25, i_26, i_27, i_28, i_29, i_30, i_31, i_32, i_33, i_34, i_35, i_36, i_37, i_38, i_39, i_40, i_41, i_42, i_43, i_44, i_45, i_48, i_49, i_57, i_59, i_60, i_61, i_62, i_64, i_97, i_110, i_122, i_123, i_125, i_126, i_127, i_160, i_255, i_300, i_400]
    · show (wI (wI (wI (wI (wI M2 (b + 12) 8 (nI 0)) (b + 25) 7 (nI 0)) (b + 25) 8 (nI 0)) (b + 29) 4 (nI 0)) (b + 29) 5 (nI 0)).1 (b + 25) 8 = nI 0
      simp (disch := omega) only [↓reduceIte, nI_leT, nI_leF, nI_ltT, nI_ltF, nI_eqT, nI_eqF, xin_T, nI_clampT, nI_add, nI_inc, pk_subT, xb_some, xval, xlet, mI_s, mI_n, mI_k, mI_2, mJ_1, mJ_s, mJ_n, mJ_k, mJ_2, mT_1, mT_2, mT_s, mT_n, mT_k, mT_3, mR_1, mR_2, mR_3, bI_0, bI_1, bI_n0, bI_n1, Bool.true_eq_false, Bool.false_eq_true, eq_self, i_0, i_1, i_2, i_3, i_4, i_5, i_6, i_7, i_8, i_9, i_10, i_11, i_12, i_13, i_14, i_15, i_16, i_17, i_18, i_19, i_20, i_21, i_22, i_23, i_24, i_25, i_26, i_27, i_28, i_29, i_30, i_31, i_32, i_33, i_34, i_35, i_36, i_37, i_38, i_39, i_40, i_41, i_42, i_43, i_44, i_45, i_48, i_49, i_57, i_59, i_60, i_61, i_62, i_64, i_97, i_110, i_122, i_123, i_125, i_126, i_127, i_160, i_255, i_300, i_400]
  · intro p hp
    rw [at22 _ (by omega) (by omega), ((mClr_at 60 0 M1 p).1 (by omega) (by omega)).1]
    refine rBits_0 ?_
    intro r hr ⟨e, he, _⟩
    have : q0.2.2.2 (10 + r) = [] := by
      unfold q0; dsimp only; rw [if_neg (by omega), if_neg (by omega)]
    rw [this] at he
    exact absurd he (by simp)
  · intro p hp
    rw [at22 _ (by omega) (by omega), ((mClr_at 60 0 M1 p).1 (by omega) (by omega)).2.1]
    refine rBits_0 ?_
    intro r hr ⟨e, he, _⟩
    exact absurd (show e ∈ [] from he) (by simp)
  · intro p hp
    rw [at22 _ (by omega) (by omega), ((mClr_at 60 0 M1 p).1 (by omega) (by omega)).2.2]
    refine ⟨false, rfl, ?_⟩
    constructor
    · intro e; exact absurd e (by decide)
    · intro ⟨e, he, _⟩; exact absurd (show e ∈ [] from he) (by simp)
