/-! PURE: the lexer of the class -/
/-- kind and end of the TOKEN at p -/
def pTok (t : List Nat) (p : Nat) : Nat × Nat :=
  if t.length ≤ p then (26, p)
  else if pSmall (pc t p) then (pKwOf (pOct t p (pScan pWordC t p)), pScan pWordC t p)
  else if pDigit (pc t p) then (24, pScan pDigit t p)
  else if pc t p = 39 then (if p < pTextEnd t p then 25 else 27, pTextEnd t p)
  else (pSign t p, p + (pT (pSign t p)).length)
def pClosing (k : Nat) : Bool := k == 26 || k == 27
/-- the TOKENS from p on, at most m, and the closing one: kind, start, end -/
def pLexN (t : List Nat) : Nat → Nat → List (Nat × Nat × Nat)
  | 0, p => [(if p < t.length then 27 else 26, p, p)]
  | m + 1, p => if pClosing (pTok t p).1 then [((pTok t p).1, p, (pTok t p).2)] else ((pTok t p).1, p, (pTok t p).2) :: pLexN t m (pScan pBlank t (pTok t p).2)
def pLex (t : List Nat) : List (Nat × Nat × Nat) := pLexN t 60 (pScan pBlank t 0)
def pK (T : List (Nat × Nat × Nat)) (i : Nat) : Nat := (T.getD i (27, 0, 0)).1
def pS (T : List (Nat × Nat × Nat)) (i : Nat) : Nat := (T.getD i (27, 0, 0)).2.1
def pE (T : List (Nat × Nat × Nat)) (i : Nat) : Nat := (T.getD i (27, 0, 0)).2.2
def pIsW (k : Nat) : Bool := k == 23 || decide (k < 8)
def pAlike (t : List Nat) (T : List (Nat × Nat × Nat)) (j i : Nat) : Bool := decide (pE T j - pS T j = pE T i - pS T i) && pSameN t (pS T j) (pS T i) 0 (pE T i - pS T i)
/-- the first TOKEN from v on, of m, that is the same word as i; else i -/
def pWdN (t : List Nat) (T : List (Nat × Nat × Nat)) (i : Nat) : Nat → Nat → Nat
  | _, 0 => i
  | v, m + 1 => if pAlike t T v i then v else pWdN t T i (v + 1) m
def pWd (t : List Nat) (T : List (Nat × Nat × Nat)) (i : Nat) : Nat := if pIsW (pK T i) then pWdN t T i 0 i else i
def pOc (t : List Nat) (T : List (Nat × Nat × Nat)) (i : Nat) : Int64 := if pIsW (pK T i) then pOct t (pS T i) (pE T i) else 0
/-- TOKEN i of T lies in the memory -/
def pEn (M : xMem) (b : Nat) (t : List Nat) (T : List (Nat × Nat × Nat)) (i : Nat) : Prop :=
  M.2.2.1 (b + 3) i = some (pK T i) ∧ M.1 (b + 4) i = nI (pS T i) ∧ M.1 (b + 5) i = nI (pE T i) ∧ M.2.1 (b + 6) i = pOc t T i ∧ M.1 (b + 7) i = nI (pWd t T i)
theorem p_put {M : xMem} {b k s e n : Nat} (hk : k < 28) (hn : M.1 (b + 2) 6 = nI n) (h60 : n ≤ 60) : f_T_put b k (nI s) (nI e) M = some ((), wI (wJ (wI (wI (wT M (b + 3) n k) (b + 4) n (nI s)) (b + 5) n (nI e)) (b + 6) n 0) (b + 7) n (nI n)) := by
  unfold f_T_put
  rw [if_pos hk]
  simp (disch := omega) only [↓reduceIte, nI_leT, nI_leF, nI_ltT, nI_ltF, nI_eqT, nI_eqF, xin_T, nI_clampT, nI_add, nI_inc, pk_subT, xb_some, xval, xlet, mI_s, mI_n, mI_k, mI_2, mJ_1, mJ_s, mJ_n, mJ_k, mJ_2, mT_1, mT_2, mT_s, mT_n, mT_k, mT_3, mR_1, mR_2, mR_3, bI_0, bI_1, bI_n0, bI_n1, Bool.true_eq_false, Bool.false_eq_true, eq_self, i_0, i_1, i_2, i_3, i_4, i_5, i_6, i_7, i_8, i_9, i_10, i_11, i_12, i_13, i_14, i_15, i_16, i_17, i_18, i_19, i_20, i_21, i_22, i_23, i_24, i_25, i_26, i_27, i_28, i_29, i_30, i_31, i_32, i_33, i_34, i_35, i_36, i_37, i_38, i_39, i_40, i_41, i_42, i_43, i_44, i_45, i_48, i_49, i_57, i_59, i_60, i_61, i_62, i_64, i_97, i_110, i_122, i_123, i_125, i_126, i_127, i_160, i_255, i_300, i_400, hn]
