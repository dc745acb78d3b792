/-! PURE: the TOKENS of the mended text are those that stay -/
def wl (u : List Nat) (T : List (Nat × Nat × Nat)) : List (Nat × List Nat) := T.map (fun e => (e.1, sl u e.2.1 e.2.2))
def tg (t : List Nat) (md : Nat → Nat) : Nat → Nat → List (Nat × List Nat)
  | 0, _ => [(26, [])]
  | k + 1, j => if mX t md j then tg t md k (j + 1) else (mK t md j, mW t md j) :: tg t md k (j + 1)
/-- blanks are passed over -/
theorem scan_over {x g y : List Nat} (h : ∀ i, i < g.length → pBlank (pc g i) = true) : pScan pBlank (x ++ (g ++ y)) x.length = pScan pBlank ((x ++ g) ++ y) (x ++ g).length := by
  induction g generalizing x with
  | nil => rw [List.append_nil, List.nil_append]
  | cons a g ih =>
    have e : x ++ (a :: g ++ y) = (x ++ [a]) ++ (g ++ y) := by simp
    have p0 : pc (x ++ (a :: g ++ y)) x.length = a := by rw [pc_r (i := x.length) (j := 0) rfl]; rfl
    rw [pScan_go (by simp) (by rw [p0]; exact h 0 (by simp))]
    rw [show x.length + 1 = (x ++ [a]).length by simp, e, ih (x := x ++ [a]) (fun i hi => h (i + 1) (by simp; omega))]
    simp
theorem lex_end (t : List Nat) (m : Nat) : pLexN t m t.length = [(26, t.length, t.length)] := by
  cases m with
  | zero => show [(if t.length < t.length then 27 else 26, t.length, t.length)] = _; rw [if_neg (by omega)]
  | succ m =>
    have : pTok t t.length = (26, t.length) := by unfold pTok; rw [if_pos (Nat.le_refl _)]
    rw [pLexN, this]; rfl
theorem sl_mid {x w y : List Nat} : sl (x ++ (w ++ y)) x.length (x.length + w.length) = w := by
  unfold sl
  rw [show x.length + w.length - x.length = w.length by omega, List.drop_left, List.take_left]
/-- THE TOKENS from j on -/
theorem lexZ {t : List Nat} {md : Nat → Nat} (ht : ∀ i, pc t i < 256) (hm : mOk t md) (he : ∀ p, mDr md p = true → ends (kT t) p) (hl : pS (pLex t) (nT t) = t.length) : ∀ (k j m : Nat) (x : List Nat), j + k = nT t → nu t (mDr md) (nT t) ≤ nu t (mDr md) j + m → wl (x ++ mZ t md k j) (pLexN (x ++ mZ t md k j) m (pScan pBlank (x ++ mZ t md k j) x.length)) = tg t md k j := by
  intro k
  induction k with
  | zero =>
    intro j m x hj _
    have ej : j = nT t := hj
    subst ej
    have g := gap_blank (t := t) (j := nT t) (Nat.le_refl _)
    rw [hl] at g
    have al : ∀ i, i < (sl t (eT t (nT t)) t.length).length → pBlank (pc (sl t (eT t (nT t)) t.length) i) = true := by
      intro i hi
      rw [sl_len (Nat.le_refl _)] at hi
      rw [sl_at hi]; exact g i hi
    have s := scan_over (x := x) (y := []) al
    rw [List.append_nil, List.append_nil, pScan_end (Nat.le_refl _)] at s
    show wl (x ++ sl t (eT t (nT t)) t.length) (pLexN (x ++ sl t (eT t (nT t)) t.length) m (pScan pBlank (x ++ sl t (eT t (nT t)) t.length) x.length)) = _
    rw [s, lex_end]
    unfold wl tg
    rw [List.map_cons, List.map_nil, sl_nil (Nat.le_refl _)]
  | succ k ih =>
    intro j m x hj hmm
    have bl := blank_all (t := t) (md := md) (j := j) (by omega)
    show wl (x ++ (mG t md j ++ (mW t md j ++ mZ t md k (j + 1)))) (pLexN (x ++ (mG t md j ++ (mW t md j ++ mZ t md k (j + 1)))) m (pScan pBlank (x ++ (mG t md j ++ (mW t md j ++ mZ t md k (j + 1)))) x.length)) = _
    rw [scan_over bl, ← List.append_assoc x]
    cases hx : mX t md j with
    | true =>
      have w0 : mW t md j = [] := by unfold mW; rw [hx, if_pos rfl]
      have n0 : nu t (mDr md) (j + 1) = nu t (mDr md) j := nu_drop hx
      rw [w0, List.nil_append, ih (j + 1) m (x ++ mG t md j) (by omega) (by omega), tg, hx, if_pos rfl]
    | false =>
      have n0 : nu t (mDr md) (j + 1) = nu t (mDr md) j + 1 := nu_keep hx
      have mono : ∀ d, nu t (mDr md) (j + 1) ≤ nu t (mDr md) (j + 1 + d) := by
        intro d
        induction d with
        | zero => exact Nat.le_refl _
        | succ d ih2 =>
          cases h : xD t (mDr md) (j + 1 + d) with
          | true => rw [← Nat.add_assoc, nu_drop h]; exact ih2
          | false => rw [← Nat.add_assoc, nu_keep h]; omega
      have mk := mono (nT t - (j + 1))
      rw [show j + 1 + (nT t - (j + 1)) = nT t by omega] at mk
      obtain ⟨tk, cl⟩ := mTok ht hm he (j := j) (k := k) (by omega) hx (x ++ mG t md j)
      have wl1 := mW_len (md := md) (j := j) (by omega) hx
      have nb : pBlank (pc (mW t md j) 0) = false := by
        have h0 := tok_noblank (t := t) (j := j) (by omega)
        rcases mW_0 (md := md) ht hm (j := j) (by omega) hx with h | h
        · rw [h]; exact h0
        · rw [h.2]; decide
      rw [pScan_stop (k := (x ++ mG t md j).length) (by rw [List.length_append (as := x ++ mG t md j), List.length_append (as := mW t md j)]; omega) (by rw [pc_r (i := (x ++ mG t md j).length) (j := 0) rfl, pc_l (by omega)]; exact nb)]
      obtain ⟨m', em⟩ : ∃ m', m = m' + 1 := ⟨m - 1, by omega⟩
      subst em
      rw [pLexN, tk]
      dsimp only
      rw [cl, if_neg (by decide)]
      have i1 := ih (j + 1) m' ((x ++ mG t md j) ++ mW t md j) (by omega) (by omega)
      rw [List.append_assoc (x ++ mG t md j), List.length_append] at i1
      unfold wl at i1 ⊢
      rw [List.map_cons]
      dsimp only
      rw [sl_mid, i1, tg, hx, if_neg (by decide)]
theorem lexM {t : List Nat} {md : Nat → Nat} (ht : ∀ i, pc t i < 256) (hm : mOk t md) (he : ∀ p, mDr md p = true → ends (kT t) p) (hl : pS (pLex t) (nT t) = t.length) : wl (mTx t md) (pLex (mTx t md)) = tg t md (nT t) 0 := by
  have n0 : nu t (mDr md) 0 = 0 := rfl
  have le : ∀ n, nu t (mDr md) n ≤ n := by
    intro n
    induction n with
    | zero => exact Nat.le_refl _
    | succ n ih =>
      cases h : xD t (mDr md) n with
      | true => rw [nu_drop h]; omega
      | false => rw [nu_keep h]; omega
  have := lexZ ht hm he hl (nT t) 0 60 [] (by omega) (by have := le (nT t); have := nT_le t; omega)
  rw [List.nil_append] at this
  exact this
theorem nu_mono {t : List Nat} {dr : Nat → Bool} {j : Nat} : ∀ d, nu t dr j ≤ nu t dr (j + d) := by
  intro d
  induction d with
  | zero => exact Nat.le_refl _
  | succ d ih2 =>
    cases h : xD t dr (j + d) with
    | true => rw [← Nat.add_assoc, nu_drop h]; exact ih2
    | false => rw [← Nat.add_assoc, nu_keep h]; omega
theorem tg_at {t : List Nat} {md : Nat → Nat} : ∀ (k j p : Nat), j + k = nT t → j ≤ p → p ≤ nT t → mX t md p = false → (tg t md k j).getD (nu t (mDr md) p - nu t (mDr md) j) (27, []) = if p = nT t then (26, []) else (mK t md p, mW t md p) := by
  intro k
  induction k with
  | zero =>
    intro j p hj h1 h2 hx
    have : p = nT t := by omega
    subst this
    have : j = nT t := by omega
    subst this
    rw [if_pos rfl, Nat.sub_self]; rfl
  | succ k ih =>
    intro j p hj h1 h2 hx
    rw [tg]
    by_cases c : p = j
    · subst c
      rw [hx, if_neg (by decide), Nat.sub_self, if_neg (by omega)]; rfl
    · have i := ih (j + 1) p (by omega) (by omega) h2 hx
      cases hxj : mX t md j with
      | true =>
        rw [if_pos rfl]
        rw [nu_drop (show xD t (mDr md) j = true from hxj)] at i
        exact i
      | false =>
        rw [if_neg (by decide)]
        have n1 := nu_keep (show xD t (mDr md) j = false from hxj)
        have mo := nu_mono (t := t) (dr := mDr md) (j := j + 1) (p - (j + 1))
        rw [show j + 1 + (p - (j + 1)) = p by omega] at mo
        rw [n1] at i mo
        rw [show nu t (mDr md) p - nu t (mDr md) j = (nu t (mDr md) p - (nu t (mDr md) j + 1)) + 1 by omega]
        exact i
theorem tg_len {t : List Nat} {md : Nat → Nat} : ∀ (k j : Nat), j + k = nT t → (tg t md k j).length = nu t (mDr md) (nT t) - nu t (mDr md) j + 1 := by
  intro k
  induction k with
  | zero =>
    intro j hj
    have : j = nT t := by omega
    subst this
    rw [Nat.sub_self]; rfl
  | succ k ih =>
    intro j hj
    have i := ih (j + 1) (by omega)
    have mo := nu_mono (t := t) (dr := mDr md) (j := j + 1) (nT t - (j + 1))
    rw [show j + 1 + (nT t - (j + 1)) = nT t by omega] at mo
    rw [tg]
    cases hxj : mX t md j with
    | true =>
      rw [if_pos rfl, i, nu_drop (show xD t (mDr md) j = true from hxj)]
    | false =>
      have n1 := nu_keep (show xD t (mDr md) j = false from hxj)
      rw [if_neg (by decide), List.length_cons, i]
      omega
theorem wl_at {u : List Nat} {T : List (Nat × Nat × Nat)} {i : Nat} : ((wl u T).getD i (27, [])).1 = pK T i ∧ ((wl u T).getD i (27, [])).2 = sl u (pS T i) (pE T i) := by
  unfold wl pK pS pE
  rw [List.getD_eq_getElem?_getD, List.getD_eq_getElem?_getD, List.getElem?_map]
  cases T[i]? with
  | none => exact ⟨rfl, (sl_nil (Nat.le_refl _)).symm⟩
  | some e => exact ⟨rfl, rfl⟩
/-- the mended text keeps to the old one -/
theorem mRl_of {t : List Nat} {md : Nat → Nat} {F : qL} (ht : ∀ i, pc t i < 256) (hm : mOk t md) (he : ∀ p, mDr md p = true → ends (kT t) p) (hl : pS (pLex t) (nT t) = t.length) (hF : ∀ p, mDr md p = true → mrk F p) (h6 : ∀ p, md p = 7 → mrk6 F p) (h26 : kT t (nT t) = 26) : mRl t (mTx t md) (mDr md) F := by
  have lx := lexM ht hm he hl
  have at' : ∀ p, p ≤ nT t → mX t md p = false → kT (mTx t md) (nu t (mDr md) p) = (if p = nT t then 26 else mK t md p) ∧ sl (mTx t md) (pS (pLex (mTx t md)) (nu t (mDr md) p)) (pE (pLex (mTx t md)) (nu t (mDr md) p)) = (if p = nT t then [] else mW t md p) := by
    intro p hp hx
    have a := tg_at (nT t) 0 p (by omega) (by omega) hp hx
    have b := wl_at (u := mTx t md) (T := pLex (mTx t md)) (i := nu t (mDr md) p)
    rw [lx] at b
    rw [show nu t (mDr md) p - nu t (mDr md) 0 = nu t (mDr md) p from rfl] at a
    rw [a] at b
    unfold kT
    rw [← b.1, ← b.2]
    split <;> exact ⟨rfl, rfl⟩
  refine ⟨?_, ?_, ?_⟩
  · intro p hd
    refine ⟨hF p hd, ?_⟩
    unfold mDr at hd
    simp at hd
    rcases hd with h | h
    · exact .inr ((hm p).2.2.1 h)
    · exact .inl ((hm p).2.2.2 h)
  · intro p hp hx
    have a := (at' p hp hx).1
    by_cases c : p = nT t
    · subst c
      rw [if_pos rfl] at a
      left; rw [a, h26]
    · rw [if_neg c] at a
      unfold mK at a
      split at a
      · rename_i c6; right; left; exact ⟨(hm p).1 c6, a⟩
      split at a
      · rename_i c7; right; right; exact ⟨(hm p).2.1 c7, a, h6 p c7⟩
      · exact .inl a
  · intro p hp hx hk
    have hx : mX t md p = false := hx
    have c : p ≠ nT t := fun c => by subst c; omega
    have a := (at' p hp hx).2
    rw [if_neg c] at a
    have n6 : md p ≠ 6 := fun c => by have := (hm p).1 c; omega
    have n7 : md p ≠ 7 := fun c => by have := (hm p).2.1 c; omega
    have w : mW t md p = sl t (pS (pLex t) p) (pE (pLex t) p) := by unfold mW; rw [hx, if_neg (by decide), if_neg n6, if_neg n7]
    rw [w] at a
    have l1 := sl_len (t := mTx t md) (a := pS (pLex (mTx t md)) (nu t (mDr md) p)) (pS_le (mTx t md) (nu t (mDr md) p)).2
    have l2 := sl_len (t := t) (a := pS (pLex t) p) (pS_le t p).2
    rw [a, l2] at l1
    unfold dT
    rw [← l1]
    by_cases c1 : pE (pLex t) p - pS (pLex t) p = 1
    · rw [if_pos c1, if_pos c1]
      have x1 := sl_at (t := mTx t md) (a := pS (pLex (mTx t md)) (nu t (mDr md) p)) (b := pE (pLex (mTx t md)) (nu t (mDr md) p)) (i := 0) (by omega)
      have x2 := sl_at (t := t) (a := pS (pLex t) p) (b := pE (pLex t) p) (i := 0) (by omega)
      rw [a, x2] at x1
      rw [show pc (mTx t md) (pS (pLex (mTx t md)) (nu t (mDr md) p)) = pc t (pS (pLex t) p) from x1.symm]
    · rw [if_neg c1, if_neg c1]
