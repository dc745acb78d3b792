/-! PURE: the mended text, TOKEN by TOKEN -/
def sl (t : List Nat) (a b : Nat) : List Nat := (t.drop a).take (b - a)
theorem sl_len {t : List Nat} {a b : Nat} (h : b ≤ t.length) : (sl t a b).length = b - a := by
  unfold sl; rw [List.length_take, List.length_drop]; omega
theorem pc_app {x y : List Nat} {i : Nat} : pc (x ++ y) i = if i < x.length then pc x i else pc y (i - x.length) := by
  unfold pc
  split
  · rename_i h; rw [List.getD_eq_getElem?_getD, List.getD_eq_getElem?_getD, List.getElem?_append_left h]
  · rename_i h; rw [List.getD_eq_getElem?_getD, List.getD_eq_getElem?_getD, List.getElem?_append_right (by omega)]
theorem pc_r {x y : List Nat} {i j : Nat} (h : i = x.length + j) : pc (x ++ y) i = pc y j := by
  rw [pc_app, if_neg (by omega), show i - x.length = j by omega]
theorem pc_l {x y : List Nat} {i : Nat} (h : i < x.length) : pc (x ++ y) i = pc x i := by
  rw [pc_app, if_pos h]
theorem sl_at {t : List Nat} {a b i : Nat} (h : i < b - a) : pc (sl t a b) i = pc t (a + i) := by
  unfold pc sl
  rw [List.getD_eq_getElem?_getD, List.getD_eq_getElem?_getD, List.getElem?_take_of_lt h, List.getElem?_drop]
theorem sl_nil {t : List Nat} {a b : Nat} (h : b ≤ a) : sl t a b = [] := by
  unfold sl; rw [show b - a = 0 by omega]; rfl
/-- where the gap ahead of TOKEN j begins -/
def eT (t : List Nat) (j : Nat) : Nat := if j = 0 then 0 else pE (pLex t) (j - 1)
theorem eT_s (t : List Nat) (j : Nat) : eT t (j + 1) = pE (pLex t) j := by unfold eT; rw [if_neg (by omega)]; rfl
theorem eT_S {t : List Nat} {j : Nat} (h : j ≤ nT t) : pS (pLex t) j = pScan pBlank t (eT t j) := by
  cases j with
  | zero => exact pLex_0 t
  | succ j => rw [eT_s]; exact (pLex_next (by omega)).2
theorem eT_le {t : List Nat} {j : Nat} (h : j ≤ nT t) : eT t j ≤ pS (pLex t) j := by rw [eT_S h]; exact pScan_ge
theorem gap_blank {t : List Nat} {j : Nat} (h : j ≤ nT t) : ∀ i, i < pS (pLex t) j - eT t j → pBlank (pc t (eT t j + i)) = true := by
  have g := eT_le h
  exact pScan_all _ _ (by rw [← eT_S h]; omega)
theorem tok_noblank {t : List Nat} {j : Nat} (h : j < nT t) : pBlank (pc t (pS (pLex t) j)) = false := by
  have e := eT_S (t := t) (j := j) (by omega)
  have g := eT_le (t := t) (j := j) (by omega)
  have := ((pScan_iff0 (f := pBlank) (t := t) (by decide) (pS (pLex t) j - eT t j) (eT t j)).mp (by rw [← e]; omega)).2
  rw [show eT t j + (pS (pLex t) j - eT t j) = pS (pLex t) j by omega] at this
  exact this
/-- what is mended at each TOKEN: 6, 7, 8, 9, else 10 -/
def mOk (t : List Nat) (md : Nat → Nat) : Prop := ∀ p, (md p = 6 → kT t p = 9) ∧ (md p = 7 → kT t p = 0) ∧ (md p = 8 → kT t p = 18 ∧ kT t (p + 1) = 19) ∧ (md p = 9 → kT t p = 20)
def mDr (md : Nat → Nat) (p : Nat) : Bool := md p == 8 || md p == 9
def mX (t : List Nat) (md : Nat → Nat) (j : Nat) : Bool := xD t (mDr md) j
def mSec (md : Nat → Nat) (j : Nat) : Bool := decide (1 ≤ j) && md (j - 1) == 8
def mG (t : List Nat) (md : Nat → Nat) (j : Nat) : List Nat := if mSec md j then [] else sl t (eT t j) (pS (pLex t) j)
def mW (t : List Nat) (md : Nat → Nat) (j : Nat) : List Nat := if mX t md j then [] else if md j = 6 then [61, 61, 61] else if md j = 7 then [99, 111, 110, 115, 116] else sl t (pS (pLex t) j) (pE (pLex t) j)
def mK (t : List Nat) (md : Nat → Nat) (j : Nat) : Nat := if md j = 6 then 8 else if md j = 7 then 1 else kT t j
/-- from the gap ahead of TOKEN j on -/
def mZ (t : List Nat) (md : Nat → Nat) : Nat → Nat → List Nat
  | 0, j => sl t (eT t j) t.length
  | k + 1, j => mG t md j ++ (mW t md j ++ mZ t md k (j + 1))
def mTx (t : List Nat) (md : Nat → Nat) : List Nat := mZ t md (nT t) 0
theorem mSec_iff {md : Nat → Nat} {j : Nat} : mSec md j = true ↔ 1 ≤ j ∧ md (j - 1) = 8 := by
  unfold mSec; simp
theorem mX_sec {t : List Nat} {md : Nat → Nat} {j : Nat} (h : mOk t md) (hx : mX t md j = false) : mSec md j = false := by
  cases q : mSec md j with
  | false => rfl
  | true =>
    rw [mSec_iff] at q
    have k := ((h (j - 1)).2.2.1 q.2).1
    unfold mX xD mDr at hx
    rw [q.2, k] at hx
    simp at hx
    omega
theorem mX_iff {t : List Nat} {md : Nat → Nat} {j : Nat} (h : mOk t md) : mX t md j = true ↔ md j = 8 ∨ md j = 9 ∨ mSec md j = true := by
  rw [mSec_iff]
  unfold mX xD mDr
  simp
  constructor
  · rintro ((h1 | h1) | ⟨h1, (h2 | h2), h3⟩)
    · exact .inl h1
    · exact .inr (.inl h1)
    · exact .inr (.inr ⟨h1, h2⟩)
    · have := (h (j - 1)).2.2.2 h2; omega
  · rintro (h1 | h1 | ⟨h1, h2⟩)
    · exact .inl (.inl h1)
    · exact .inl (.inr h1)
    · exact .inr ⟨h1, .inl h2, ((h (j - 1)).2.2.1 h2).1⟩
theorem blank_all {t : List Nat} {md : Nat → Nat} {j : Nat} (hj : j ≤ nT t) : ∀ i, i < (mG t md j).length → pBlank (pc (mG t md j) i) = true := by
  intro i hi
  unfold mG at hi ⊢
  split
  · rename_i c; rw [if_pos c] at hi; exact absurd hi (by simp)
  · rename_i c
    rw [if_neg c, sl_len (pS_le t j).1] at hi
    rw [sl_at hi]
    exact gap_blank hj i hi
theorem let_word {t : List Nat} (ht : ∀ i, pc t i < 256) {j : Nat} (hj : j < nT t) (hk : kT t j = 0) : pE (pLex t) j = pS (pLex t) j + 3 ∧ (∀ i, i < 3 → pc t (pS (pLex t) j + i) = pc [108, 101, 116] i) ∧ pWordC (pc t (pE (pLex t) j)) = false := by
  have hn := word_nz (t := t) (i := j) (.inr (by omega))
  obtain ⟨e1, e2⟩ := pLex_tok hj
  have lt := pS_lt_E hj
  have w := pTok_word (t := t) (p := pS (pLex t) j) (pS_le t j).1 (by rw [← e1, hk]; rfl)
  have e3 : (pTok t (pS (pLex t) j)).1 = pKwOf (pOct t (pS (pLex t) j) (pE (pLex t) j)) := by
    rw [e2, w.2.2]
    unfold pTok
    rw [if_neg (by omega), if_pos w.2.1]
  have sp := (pKwOf_eq ht hn 0 (by decide)).mp (by rw [← e3, ← e1, hk])
  have l3 : pE (pLex t) j - pS (pLex t) j = 3 := sp.1
  refine ⟨by omega, sp.2, ?_⟩
  have := ((pScan_iff0 (f := pWordC) (t := t) (by decide) 3 (pS (pLex t) j)).mp (by rw [← w.2.2, ← e2]; omega)).2
  rw [show pE (pLex t) j = pS (pLex t) j + 3 by omega]
  exact this
theorem eq_word {t : List Nat} {j : Nat} (hj : j < nT t) (hk : kT t j = 9) : pE (pLex t) j = pS (pLex t) j + 2 ∧ pc t (pS (pLex t) j) = 61 ∧ pc t (pS (pLex t) j + 1) = 61 := by
  obtain ⟨e1, e2⟩ := pLex_tok hj
  rw [hk] at e1
  unfold pTok at e1 e2
  split at e1
  · cases e1
  rename_i c1
  rw [if_neg c1] at e2
  split at e1
  · have := pKwOf_lt (pOct t (pS (pLex t) j) (pScan pWordC t (pS (pLex t) j)))
    have e1 : 9 = pKwOf (pOct t (pS (pLex t) j) (pScan pWordC t (pS (pLex t) j))) := e1
    omega
  rename_i c2
  rw [if_neg c2] at e2
  split at e1
  · cases e1
  rename_i c3
  rw [if_neg c3] at e2
  split at e1
  · exfalso
    have e1 : 9 = if pS (pLex t) j < pTextEnd t (pS (pLex t) j) then 25 else 27 := e1
    split at e1 <;> cases e1
  rename_i c4
  rw [if_neg c4] at e2
  have e1 : 9 = pSign t (pS (pLex t) j) := e1
  have e2 : pE (pLex t) j = pS (pLex t) j + (pT (pSign t (pS (pLex t) j))).length := e2
  rw [← e1] at e2
  have hh := pSignN_k (t := t) (p := pS (pLex t) j) 28 0
  have e1' : pSignN t (pS (pLex t) j) 0 28 = 9 := e1.symm
  rw [e1'] at hh
  rcases hh with hh | hh
  · cases hh
  · have h3 := (pHoldsN_iff (t := t) (x := pT 9) (p := pS (pLex t) j) 2 0).mp hh.2.2
    exact ⟨e2, h3 0 (by omega), h3 1 (by omega)⟩
theorem mW_len {t : List Nat} {md : Nat → Nat} {j : Nat} (hj : j < nT t) (hx : mX t md j = false) : 1 ≤ (mW t md j).length := by
  unfold mW
  rw [hx]
  have := pS_lt_E hj
  have := (pS_le t j).2
  split
  · rename_i c; cases c
  split
  · exact (by decide)
  split
  · exact (by decide)
  · rw [sl_len (by omega)]; omega
/-- the first letter of a TOKEN that stays -/
theorem mW_0 {t : List Nat} {md : Nat → Nat} (ht : ∀ i, pc t i < 256) (hm : mOk t md) {j : Nat} (hj : j < nT t) (hx : mX t md j = false) : pc (mW t md j) 0 = pc t (pS (pLex t) j) ∨ (pc t (pS (pLex t) j) = 108 ∧ pc (mW t md j) 0 = 99) := by
  unfold mW
  rw [hx, if_neg (by decide)]
  split
  · rename_i c
    left
    rw [(eq_word hj ((hm j).1 c)).2.1]; rfl
  split
  · rename_i c
    right
    have := (let_word ht hj ((hm j).2.1 c)).2.1 0 (by omega)
    exact ⟨this, rfl⟩
  · left
    have := pS_lt_E hj
    rw [sl_at (by omega)]; rfl
/-- the letter behind a TOKEN that stays -/
theorem mZ_0 {t : List Nat} {md : Nat → Nat} (ht : ∀ i, pc t i < 256) (hm : mOk t md) (he : ∀ p, mDr md p = true → ends (kT t) p) {j k : Nat} (hk : j + 1 + k = nT t) (hx : mX t md j = false) : pc (mZ t md k (j + 1)) 0 = pc t (pE (pLex t) j) ∨ (pc t (pE (pLex t) j) = 108 ∧ pc (mZ t md k (j + 1)) 0 = 99) ∨ kT t j = 18 ∨ kT t j = 19 ∨ kT t j = 20 := by
  have eE := eT_s t j
  cases hx1 : mX t md (j + 1) with
  | true =>
    right; right
    have d : mDr md (j + 1) = true := by
      rw [mX_iff hm] at hx1
      have d0 : md j ≠ 8 := fun c => by
        have := (mX_iff (j := j) hm).mpr (.inl c)
        rw [hx] at this; cases this
      unfold mDr
      rcases hx1 with h | h | h
      · simp [h]
      · simp [h]
      · rw [mSec_iff] at h
        exact absurd h.2 d0
    have := he _ d
    unfold ends at this
    rw [show j + 1 - 1 = j by omega] at this
    omega
  | false =>
    cases k with
    | zero =>
      left
      show pc (sl t (eT t (j + 1)) t.length) 0 = _
      rw [eE]
      by_cases c : pE (pLex t) j < t.length
      · rw [sl_at (by omega)]; rfl
      · rw [sl_nil (by omega), pc_end (t := t) (by omega)]; rfl
    | succ k =>
      have hG : mG t md (j + 1) = sl t (pE (pLex t) j) (pS (pLex t) (j + 1)) := by
        unfold mG; rw [mX_sec hm hx1, if_neg (by decide), eE]
      show pc (mG t md (j + 1) ++ (mW t md (j + 1) ++ mZ t md k (j + 1 + 1))) 0 = _ ∨ (_ ∧ pc (mG t md (j + 1) ++ (mW t md (j + 1) ++ mZ t md k (j + 1 + 1))) 0 = 99) ∨ _
      rw [hG]
      have g := eT_le (t := t) (j := j + 1) (by omega)
      rw [eE] at g
      by_cases c : pE (pLex t) j < pS (pLex t) (j + 1)
      · left
        rw [pc_l (by rw [sl_len (pS_le t (j + 1)).1]; omega), sl_at (by omega)]; rfl
      · rw [sl_nil (by omega), List.nil_append, pc_l (by have := mW_len (md := md) (j := j + 1) (by omega) hx1; omega)]
        rcases mW_0 (md := md) ht hm (j := j + 1) (by omega) hx1 with h | h
        · left; rw [h, show pE (pLex t) j = pS (pLex t) (j + 1) by omega]
        · right; left
          rw [show pE (pLex t) j = pS (pLex t) (j + 1) by omega]; exact h
/-- a TOKEN that stays, in the mended text -/
theorem mTok {t : List Nat} {md : Nat → Nat} (ht : ∀ i, pc t i < 256) (hm : mOk t md) (he : ∀ p, mDr md p = true → ends (kT t) p) {j k : Nat} (hk : j + 1 + k = nT t) (hx : mX t md j = false) (x : List Nat) : pTok (x ++ (mW t md j ++ mZ t md k (j + 1))) x.length = (mK t md j, x.length + (mW t md j).length) ∧ pClosing (mK t md j) = false := by
  have hj : j < nT t := by omega
  have z := mZ_0 ht hm he hk hx
  obtain ⟨e1, e2⟩ := pLex_tok hj
  have lt := pS_lt_E hj
  have le := (pS_le t j).2
  have cl := (pLex_next hj).1
  have k26 : kT t j < 26 := by
    have k28 : kT t j < 28 := by
      have l := nT_len t
      have hl : j < (pLex t).length := by omega
      have := (pLex_in t) _ (List.getElem_mem hl)
      unfold kT pK
      rw [List.getD_eq_getElem?_getD, List.getElem?_eq_getElem hl]
      exact this.2.2
    unfold pClosing at cl
    simp at cl
    omega
  by_cases c6 : md j = 6
  · have hW : mW t md j = [61, 61, 61] := by unfold mW; rw [hx, if_neg (by decide), if_pos c6]
    have hK : mK t md j = 8 := by unfold mK; rw [if_pos c6]
    rw [hW, hK]
    refine ⟨pTok_same (z := []) ?_ ?_ ?_, rfl⟩
    · rw [pc_r (j := 0) (by omega)]; rfl
    · rw [pc_r (j := 1) (by omega)]; rfl
    · rw [pc_r (j := 2) (by omega)]; rfl
  by_cases c7 : md j = 7
  · have hW : mW t md j = [99, 111, 110, 115, 116] := by unfold mW; rw [hx, if_neg (by decide), if_neg c6, if_pos c7]
    have hK : mK t md j = 1 := by unfold mK; rw [if_neg c6, if_pos c7]
    obtain ⟨l1, l2, l3⟩ := let_word ht hj ((hm j).2.1 c7)
    rw [hW, hK]
    refine ⟨pTok_const ?_ ?_, rfl⟩
    · intro i hi
      rw [pc_r (j := i) rfl, pc_l (by show i < 5; exact hi)]
    · rw [pc_r (j := 5) rfl, pc_r (x := [99, 111, 110, 115, 116]) (i := 5) (j := 0) rfl]
      rcases z with z | z | z
      · rw [z]; exact l3
      · rw [z.1] at l3; exact absurd l3 (by decide)
      · have := (hm j).2.1 c7; omega
  have hW : mW t md j = sl t (pS (pLex t) j) (pE (pLex t) j) := by unfold mW; rw [hx, if_neg (by decide), if_neg c6, if_neg c7]
  have hK : mK t md j = kT t j := by unfold mK; rw [if_neg c6, if_neg c7]
  have hl : (mW t md j).length = pE (pLex t) j - pS (pLex t) j := by rw [hW, sl_len le]
  rw [hK]
  refine ⟨?_, cl⟩
  have old : pTok t (pS (pLex t) j) = (kT t j, pS (pLex t) j + (pE (pLex t) j - pS (pLex t) j)) := by
    rw [e1, show pS (pLex t) j + (pE (pLex t) j - pS (pLex t) j) = pE (pLex t) j by omega, e2]
  rw [hl]
  refine pTok_local old k26 ?_ ?_ ?_
  · rw [List.length_append, List.length_append, hl]; omega
  · intro i hi
    rw [pc_r (j := i) rfl, pc_l (by omega), hW, sl_at hi]
  · rw [pc_r (j := pE (pLex t) j - pS (pLex t) j) rfl, pc_r (j := 0) (by omega), show pS (pLex t) j + (pE (pLex t) j - pS (pLex t) j) = pE (pLex t) j by omega]
    exact z
