/-! PURE: tools: one set of rows that walks a printed function -/
theorem nI_leT {a b : Nat} (hb : b < 2147483648) (h : a ≤ b) : (nI a ≤ nI b) = True := eq_true (nI_le h hb)
theorem nI_leF {a b : Nat} (ha : a < 2147483648) (h : b < a) : (nI a ≤ nI b) = False := eq_false (nI_ge h ha)
theorem nI_ltT {a b : Nat} (hb : b < 2147483648) (h : a < b) : (nI a < nI b) = True := eq_true (nI_lt h hb)
theorem nI_ltF {a b : Nat} (ha : a < 2147483648) (h : b ≤ a) : (nI a < nI b) = False := eq_false (nI_nlt h ha)
theorem nI_eqT {a b : Nat} (h : a = b) : (nI a = nI b) = True := eq_true (congrArg nI h)
theorem nI_eqF {a b : Nat} (ha : a < 2147483648) (hb : b < 2147483648) (h : a ≠ b) : (nI a = nI b) = False := eq_false (fun e => h ((nI_eq ha hb).mp e))
theorem xin_T {i n : Nat} (h : i < n) (hn : n < 2147483648) : xin (nI i) n = true := xin_nI h hn
theorem nI_clampT {n : Nat} (h : n < 2147483648) : (nI n).toNatClampNeg = n := nI_clamp h
theorem pk_subT {a b : Nat} (h : b ≤ a) : nI a - nI b = nI (a - b) := pk_sub h
theorem xb_some {α β : Type} (x : α) (M : xMem) (k : α → xMem → Option β) : xbind (some (x, M)) k = k x M := rfl
theorem bI_n0 (b : Bool) : (bI b = nI 0) = (b = false) := bI_0 b
theorem bI_1 (b : Bool) : (bI b = 1) = (b = true) := by cases b <;> simp [bI]
theorem bI_n1 (b : Bool) : (bI b = nI 1) = (b = true) := bI_1 b
theorem mI_s {M : xMem} {a k a' k' : Nat} {v : Int32} (h : a' = a) (h2 : k' = k) : (wI M a k v).1 a' k' = v := by
  subst h; subst h2; rw [wI_eq]; unfold upd; rw [if_pos rfl]
theorem mI_n {M : xMem} {a k a' k' : Nat} {v : Int32} (h : a' ≠ a) : (wI M a k v).1 a' k' = M.1 a' k' := by rw [wI_ne _ _ _ h]
theorem mI_k {M : xMem} {a k a' k' : Nat} {v : Int32} (h : k' ≠ k) : (wI M a k v).1 a' k' = M.1 a' k' := by
  by_cases e : a' = a
  · subst e; rw [wI_eq]; unfold upd; rw [if_neg h]
  · rw [wI_ne _ _ _ e]
theorem mI_2 {M : xMem} {a k : Nat} {v : Int32} : (wI M a k v).2 = M.2 := rfl
theorem mJ_1 {M : xMem} {a k : Nat} {v : Int64} : (wJ M a k v).1 = M.1 := rfl
theorem mJ_s {M : xMem} {a k a' k' : Nat} {v : Int64} (h : a' = a) (h2 : k' = k) : (wJ M a k v).2.1 a' k' = v := by
  subst h; subst h2; rw [wJ_eq]; unfold vp_updL; rw [if_pos rfl]
theorem mJ_n {M : xMem} {a k a' k' : Nat} {v : Int64} (h : a' ≠ a) : (wJ M a k v).2.1 a' k' = M.2.1 a' k' := by rw [wJ_ne _ _ _ h]
theorem mJ_k {M : xMem} {a k a' k' : Nat} {v : Int64} (h : k' ≠ k) : (wJ M a k v).2.1 a' k' = M.2.1 a' k' := by
  by_cases e : a' = a
  · subst e; rw [wJ_eq]; unfold vp_updL; rw [if_neg h]
  · rw [wJ_ne _ _ _ e]
theorem mJ_2 {M : xMem} {a k : Nat} {v : Int64} : (wJ M a k v).2.2 = M.2.2 := rfl
theorem mT_1 {M : xMem} {a k v : Nat} : (wT M a k v).1 = M.1 := rfl
theorem mT_2 {M : xMem} {a k v : Nat} : (wT M a k v).2.1 = M.2.1 := rfl
theorem mT_s {M : xMem} {a k a' k' v : Nat} (h : a' = a) (h2 : k' = k) : (wT M a k v).2.2.1 a' k' = some v := by
  subst h; subst h2; rw [wT_eq, va_up_self]
theorem mT_n {M : xMem} {a k a' k' v : Nat} (h : a' ≠ a) : (wT M a k v).2.2.1 a' k' = M.2.2.1 a' k' := by rw [wT_ne _ _ _ h]
theorem mT_k {M : xMem} {a k a' k' v : Nat} (h : k' ≠ k) : (wT M a k v).2.2.1 a' k' = M.2.2.1 a' k' := by
  by_cases e : a' = a
  · subst e; rw [wT_eq, va_up_ne _ _ h]
  · rw [wT_ne _ _ _ e]
theorem mT_3 {M : xMem} {a k v : Nat} : (wT M a k v).2.2.2 = M.2.2.2 := rfl
theorem mR_1 {M : xMem} {k v : Nat} : (wR M k v).1 = M.1 := rfl
theorem mR_2 {M : xMem} {k v : Nat} : (wR M k v).2.1 = M.2.1 := rfl
theorem mR_3 {M : xMem} {k v : Nat} : (wR M k v).2.2.1 = M.2.2.1 := rfl
theorem i_0 : (0 : Int32) = nI 0 := rfl
theorem i_1 : (1 : Int32) = nI 1 := rfl
theorem i_2 : (2 : Int32) = nI 2 := rfl
theorem i_3 : (3 : Int32) = nI 3 := rfl
theorem i_4 : (4 : Int32) = nI 4 := rfl
theorem i_5 : (5 : Int32) = nI 5 := rfl
theorem i_6 : (6 : Int32) = nI 6 := rfl
theorem i_7 : (7 : Int32) = nI 7 := rfl
theorem i_8 : (8 : Int32) = nI 8 := rfl
theorem i_9 : (9 : Int32) = nI 9 := rfl
theorem i_10 : (10 : Int32) = nI 10 := rfl
theorem i_11 : (11 : Int32) = nI 11 := rfl
theorem i_12 : (12 : Int32) = nI 12 := rfl
theorem i_13 : (13 : Int32) = nI 13 := rfl
theorem i_14 : (14 : Int32) = nI 14 := rfl
theorem i_15 : (15 : Int32) = nI 15 := rfl
theorem i_16 : (16 : Int32) = nI 16 := rfl
theorem i_17 : (17 : Int32) = nI 17 := rfl
theorem i_18 : (18 : Int32) = nI 18 := rfl
theorem i_19 : (19 : Int32) = nI 19 := rfl
theorem i_20 : (20 : Int32) = nI 20 := rfl
theorem i_21 : (21 : Int32) = nI 21 := rfl
theorem i_22 : (22 : Int32) = nI 22 := rfl
theorem i_23 : (23 : Int32) = nI 23 := rfl
theorem i_24 : (24 : Int32) = nI 24 := rfl
theorem i_25 : (25 : Int32) = nI 25 := rfl
theorem i_26 : (26 : Int32) = nI 26 := rfl
theorem i_27 : (27 : Int32) = nI 27 := rfl
theorem i_28 : (28 : Int32) = nI 28 := rfl
theorem i_29 : (29 : Int32) = nI 29 := rfl
theorem i_30 : (30 : Int32) = nI 30 := rfl
theorem i_31 : (31 : Int32) = nI 31 := rfl
theorem i_32 : (32 : Int32) = nI 32 := rfl
theorem i_33 : (33 : Int32) = nI 33 := rfl
theorem i_34 : (34 : Int32) = nI 34 := rfl
theorem i_35 : (35 : Int32) = nI 35 := rfl
theorem i_36 : (36 : Int32) = nI 36 := rfl
theorem i_37 : (37 : Int32) = nI 37 := rfl
theorem i_38 : (38 : Int32) = nI 38 := rfl
theorem i_39 : (39 : Int32) = nI 39 := rfl
theorem i_40 : (40 : Int32) = nI 40 := rfl
theorem i_41 : (41 : Int32) = nI 41 := rfl
theorem i_42 : (42 : Int32) = nI 42 := rfl
theorem i_43 : (43 : Int32) = nI 43 := rfl
theorem i_44 : (44 : Int32) = nI 44 := rfl
theorem i_45 : (45 : Int32) = nI 45 := rfl
theorem i_48 : (48 : Int32) = nI 48 := rfl
theorem i_49 : (49 : Int32) = nI 49 := rfl
theorem i_57 : (57 : Int32) = nI 57 := rfl
theorem i_59 : (59 : Int32) = nI 59 := rfl
theorem i_60 : (60 : Int32) = nI 60 := rfl
theorem i_61 : (61 : Int32) = nI 61 := rfl
theorem i_62 : (62 : Int32) = nI 62 := rfl
theorem i_64 : (64 : Int32) = nI 64 := rfl
theorem i_97 : (97 : Int32) = nI 97 := rfl
theorem i_110 : (110 : Int32) = nI 110 := rfl
theorem i_122 : (122 : Int32) = nI 122 := rfl
theorem i_123 : (123 : Int32) = nI 123 := rfl
theorem i_125 : (125 : Int32) = nI 125 := rfl
theorem i_126 : (126 : Int32) = nI 126 := rfl
theorem i_127 : (127 : Int32) = nI 127 := rfl
theorem i_160 : (160 : Int32) = nI 160 := rfl
theorem i_255 : (255 : Int32) = nI 255 := rfl
theorem i_300 : (300 : Int32) = nI 300 := rfl
theorem i_400 : (400 : Int32) = nI 400 := rfl
/-- outside of lo .. hi - 1 nothing has changed -/
def pFr (lo hi : Nat) (M M' : xMem) : Prop := (∀ a, (a < lo ∨ hi ≤ a) → M'.1 a = M.1 a ∧ M'.2.1 a = M.2.1 a ∧ M'.2.2.1 a = M.2.2.1 a) ∧ M'.2.2.2 = M.2.2.2
theorem pFr.rfl {lo hi : Nat} {M : xMem} : pFr lo hi M M := ⟨fun _ _ => ⟨_root_.rfl, _root_.rfl, _root_.rfl⟩, _root_.rfl⟩
theorem pFr.trans {lo hi : Nat} {M M' M'' : xMem} (h : pFr lo hi M M') (h2 : pFr lo hi M' M'') : pFr lo hi M M'' :=
  ⟨fun a ha => ⟨(h2.1 a ha).1.trans (h.1 a ha).1, (h2.1 a ha).2.1.trans (h.1 a ha).2.1, (h2.1 a ha).2.2.trans (h.1 a ha).2.2⟩, h2.2.trans h.2⟩
theorem pFr.mono {lo hi lo' hi' : Nat} {M M' : xMem} (h : pFr lo hi M M') (h1 : lo' ≤ lo) (h2 : hi ≤ hi') : pFr lo' hi' M M' :=
  ⟨fun a ha => h.1 a (by omega), h.2⟩
theorem pFr.I {lo hi : Nat} {M : xMem} {a k : Nat} {v : Int32} (h : lo ≤ a ∧ a < hi) : pFr lo hi M (wI M a k v) :=
  ⟨fun q hq => ⟨wI_ne _ _ _ (by omega), _root_.rfl, _root_.rfl⟩, _root_.rfl⟩
theorem pFr.J {lo hi : Nat} {M : xMem} {a k : Nat} {v : Int64} (h : lo ≤ a ∧ a < hi) : pFr lo hi M (wJ M a k v) :=
  ⟨fun q hq => ⟨_root_.rfl, wJ_ne _ _ _ (by omega), _root_.rfl⟩, _root_.rfl⟩
theorem pFr.T {lo hi : Nat} {M : xMem} {a k v : Nat} (h : lo ≤ a ∧ a < hi) : pFr lo hi M (wT M a k v) :=
  ⟨fun q hq => ⟨_root_.rfl, _root_.rfl, wT_ne _ _ _ (by omega)⟩, _root_.rfl⟩
theorem pTx.fr {lo hi b : Nat} {M M' : xMem} {t : List Nat} (h : pTx M b t) (f : pFr lo hi M M') (hb : b + 1 < lo ∨ hi ≤ b) : pTx M' b t := by
  obtain ⟨h1, h2, h3, h4⟩ := h
  refine ⟨?_, h2, ?_, h4⟩
  · rw [(f.1 b (by omega)).1]; exact h1
  · intro i hi; rw [(f.1 (b + 1) (by omega)).1]; exact h3 i hi
