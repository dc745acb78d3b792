/-! PURE: the class writes the mended text -/
def onR (lo hi : Nat) (M M' : xMem) : Prop := ∀ a, lo ≤ a → a < hi → M'.1 a = M.1 a ∧ M'.2.1 a = M.2.1 a ∧ M'.2.2.1 a = M.2.2.1 a
theorem pFr.on {lo hi lo' hi' : Nat} {M M' : xMem} (f : pFr lo hi M M') (h : hi' ≤ lo ∨ hi ≤ lo') : onR lo' hi' M M' := fun a h1 h2 => f.1 a (by omega)
theorem pTx.on {M M' : xMem} {b : Nat} {t : List Nat} (h : pTx M b t) (e : onR b (b + 2) M M') : pTx M' b t := by
  obtain ⟨h1, h2, h3, h4⟩ := h
  exact ⟨by rw [(e b (by omega) (by omega)).1]; exact h1, h2, fun i hi => by rw [(e (b + 1) (by omega) (by omega)).1]; exact h3 i hi, h4⟩
theorem pLx.on {M M' : xMem} {b : Nat} {t : List Nat} (h : pLx M b t) (e : onR b (b + 8) M M') : pLx M' b t := by
  obtain ⟨h1, h2, h3⟩ := h
  refine ⟨h1.on (fun a ha hb => e a ha (by omega)), by rw [(e (b + 2) (by omega) (by omega)).1]; exact h2, ?_⟩
  intro i hi
  obtain ⟨a1, a2, a3, a4, a5⟩ := h3 i hi
  unfold pEn
  rw [(e (b + 3) (by omega) (by omega)).2.2, (e (b + 4) (by omega) (by omega)).1, (e (b + 5) (by omega) (by omega)).1, (e (b + 6) (by omega) (by omega)).2.1, (e (b + 7) (by omega) (by omega)).1]
  exact ⟨a1, a2, a3, a4, a5⟩
theorem rEnd.on {M M' : xMem} {b : Nat} {t : List Nat} {L : qL} (h : rEnd M b t L) (e : onR b (b + 30) M M') : rEnd M' b t L := by
  obtain ⟨h1, h2, h3, h4, h5, h6, h7⟩ := h
  have e1 : ∀ a, b ≤ a → a < b + 30 → M'.1 a = M.1 a := fun a ha hb => (e a ha hb).1
  refine ⟨h1.on (fun a ha hb => e a ha (by omega)), h2.to (fun a ha hb => e1 a (by omega) (by omega)), h3.to (fun a ha hb => e1 a (by omega) (by omega)), ?_, h5.to (e1 _ (by omega) (by omega)) (fun _ _ _ => rfl), h6.to (e1 _ (by omega) (by omega)), h7.to (e1 _ (by omega) (by omega))⟩
  obtain ⟨u1, u2, u3, u4, u5⟩ := h4
  exact ⟨by rw [e1 _ (by omega) (by omega)]; exact u1, by rw [e1 _ (by omega) (by omega)]; exact u2, u3.to (e1 _ (by omega) (by omega)), u4.to (e1 _ (by omega) (by omega)), u5.to (e1 _ (by omega) (by omega))⟩
theorem gSt.on {M M' : xMem} {g : Nat} {on : Nat → Bool} {gv : List (List Nat)} (h : gSt M g on gv) (e : onR g (g + 2) M M') : gSt M' g on gv := by
  obtain ⟨h1, h2, h3, h4, h5⟩ := h
  have e0 := (e g (by omega) (by omega)).1
  have e1 := (e (g + 1) (by omega) (by omega)).2.1
  exact ⟨by rw [e0]; exact h1, h2, by rw [e0]; exact h3, fun i hi => by rw [e1]; exact h4 i hi, h5⟩
/-- the desk's two readings -/
def dRr (M : xMem) (b r0 r1 : Nat) : Prop := M.2.2.2 0 = r0 ∧ M.2.2.2 1 = r1 ∧ ((r0 = b + 5 ∧ r1 = b + 36) ∨ (r0 = b + 36 ∧ r1 = b + 5))
/-- what it has read, and the settings -/
def dS (M : xMem) (b r0 r1 : Nat) (on : Nat → Bool) (gv : List (List Nat)) (t : List Nat) (L : qL) : Prop := dRr M b r0 r1 ∧ gSt M (b + 3) on gv ∧ rEnd M r0 t L
theorem dS.fr {M M' : xMem} {b r0 r1 : Nat} {on : Nat → Bool} {gv : List (List Nat)} {t : List Nat} {L : qL} (h : dS M b r0 r1 on gv t L) (f : pFr r1 (r1 + 31) M M') : dS M' b r0 r1 on gv t L := by
  obtain ⟨⟨h1, h2, h3⟩, h4, h5⟩ := h
  exact ⟨⟨by rw [f.2]; exact h1, by rw [f.2]; exact h2, h3⟩, h4.on (f.on (by omega)), h5.on (f.on (by omega))⟩
section
variable {M : xMem} {b r0 r1 : Nat} {on : Nat → Bool} {gv : List (List Nat)} {t : List Nat} {L : qL} {tok sc : Nat}
theorem dS.src {k : Nat → Option (Int32 × xMem)} (h : dS M b r0 r1 on gv t L) : xsrc b (M.2.2.2 0) k = k r0 := by
  rw [h.1.1]; unfold xsrc; rw [if_pos (by have := h.1.2.2; omega)]
theorem dS.srcU {k : Nat → Option (Unit × xMem)} (h : dS M b r0 r1 on gv t L) : xsrc b (M.2.2.2 0) k = k r0 := by
  rw [h.1.1]; unfold xsrc; rw [if_pos (by have := h.1.2.2; omega)]
theorem dS.lx (h : dS M b r0 r1 on gv t L) : pLx M r0 t := h.2.2.1
theorem dS.gfd (ht : t.length ≤ 160) (hq : qRun (kT t) (wT' t) (dT t) = .inr ([], tok, sc, L)) (h : dS M b r0 r1 on gv t L) : gFd M (b + 3) r0 on gv t (qEnd t L) (L 4) := ⟨h.2.1, h.2.2.1, h.2.2.2.2.2.2.1, h.2.2.2.2.2.2.2.1, q_10 ht hq⟩
theorem p_md {i : Nat} (ht : t.length ≤ 160) (hq : qRun (kT t) (wT' t) (dT t) = .inr ([], tok, sc, L)) (h : dS M b r0 r1 on gv t L) (hi : i < nT t) : f_G_mendableAt (b + 3) r0 (nI i) M = some (sMdI (mdF on gv t L i), M) := by
  have := nT_le t
  refine p_mendableAt (h.gfd ht hq) (by omega) ?_
  obtain ⟨c, h1, h2⟩ := h.2.2.2.2.2.2.2.2 i (by omega)
  rw [h1]
  congr 1
  apply Bool.eq_iff_iff.mpr
  rw [h2, loB_iff]
end
/-- what a mended TOKEN reaches from, to, and becomes -/
def mFr (t : List Nat) (md : Nat → Nat) (i : Nat) : Nat := if md i = 6 then pE (pLex t) i else pS (pLex t) i
def mTo (t : List Nat) (md : Nat → Nat) (i : Nat) : Nat := if md i = 8 then pE (pLex t) (i + 1) else pE (pLex t) i
def mTk (r : Nat) : Nat := if r = 6 then 10 else if r = 7 then 1 else 23
def mU (t : List Nat) (md : Nat → Nat) : Nat → List Nat
  | 0 => []
  | j + 1 => mU t md j ++ (mG t md j ++ mW t md j)
theorem mU_Z {t : List Nat} {md : Nat → Nat} : ∀ (j k : Nat), j + k = nT t → mU t md j ++ mZ t md k j = mTx t md := by
  intro j
  induction j with
  | zero =>
    intro k e
    have ek : nT t = k := by omega
    unfold mTx
    rw [ek]; rfl
  | succ j ih =>
    intro k e
    have := ih (k + 1) (by omega)
    rw [← this]
    show mU t md j ++ (mG t md j ++ mW t md j) ++ mZ t md k (j + 1) = mU t md j ++ (mG t md j ++ (mW t md j ++ mZ t md k (j + 1)))
    rw [List.append_assoc, List.append_assoc]
theorem mU_le {t : List Nat} {md : Nat → Nat} {j : Nat} (h : j ≤ nT t) : (mU t md j).length ≤ (mTx t md).length := by
  rw [← mU_Z j (nT t - j) (by omega), List.length_append]; omega
def wInv (t : List Nat) (md : Nat → Nat) (i c : Nat) (o : List Nat) : Prop := (mSec md i = false ∧ c ≤ eT t i ∧ o ++ sl t c (eT t i) = mU t md i) ∨ (mSec md i = true ∧ c = eT t (i + 1) ∧ o = mU t md i)
theorem mSec_s {md : Nat → Nat} {i : Nat} : mSec md (i + 1) = (md i == 8) := by
  unfold mSec; rw [show i + 1 - 1 = i by omega]; simp
theorem wInv.skip {t : List Nat} {md : Nat → Nat} (hm : mOk t md) {i c : Nat} {o : List Nat} (hi : i < nT t) (h10 : md i = 10) (h : wInv t md i c o) : wInv t md (i + 1) c o := by
  left
  have lt := pS_lt_E hi
  have le := (pS_le t i).2
  have ge := eT_le (t := t) (j := i) (by omega)
  refine ⟨by rw [mSec_s, h10]; rfl, ?_⟩
  rw [eT_s]
  rcases h with ⟨h1, h2, h3⟩ | ⟨h1, h2, h3⟩
  · have x0 : mX t md i = false := by
      cases q : mX t md i with
      | false => rfl
      | true =>
        rw [mX_iff hm] at q
        rcases q with q | q | q
        · omega
        · omega
        · rw [h1] at q; cases q
    refine ⟨by omega, ?_⟩
    show _ = mU t md i ++ (mG t md i ++ mW t md i)
    have g : mG t md i = sl t (eT t i) (pS (pLex t) i) := by unfold mG; rw [h1, if_neg (by decide)]
    have w : mW t md i = sl t (pS (pLex t) i) (pE (pLex t) i) := by unfold mW; rw [x0, if_neg (by decide), if_neg (by omega), if_neg (by omega)]
    rw [g, w, sl_cat (by omega) (by omega) le, ← h3, List.append_assoc, sl_cat (by omega) (by omega) le]
  · rw [eT_s] at h2
    refine ⟨by omega, ?_⟩
    have x1 : mX t md i = true := (mX_iff hm).mpr (.inr (.inr h1))
    show _ = mU t md i ++ (mG t md i ++ mW t md i)
    have g : mG t md i = [] := by unfold mG; rw [h1, if_pos rfl]
    have w : mW t md i = [] := by unfold mW; rw [x1, if_pos rfl]
    rw [g, w, sl_nil (by omega), h3]; simp
theorem wInv.act {t : List Nat} {md : Nat → Nat} (hm : mOk t md) {i c : Nat} {o : List Nat} (hi : i < nT t) (hd : md i = 6 ∨ md i = 7 ∨ md i = 8 ∨ md i = 9) (h : wInv t md i c o) : c ≤ mFr t md i ∧ mFr t md i ≤ t.length ∧ mSec md i = false ∧ (o ++ sl t c (mFr t md i)) ++ pT (mTk (md i)) = mU t md (i + 1) ∧ wInv t md (i + 1) (mTo t md i) (mU t md (i + 1)) := by
  have lt := pS_lt_E hi
  have le := (pS_le t i).2
  have ge := eT_le (t := t) (j := i) (by omega)
  have hm' := hm i
  have s0 : mSec md i = false := by
    cases q : mSec md i with
    | false => rfl
    | true =>
      rw [mSec_iff] at q
      have k := ((hm (i - 1)).2.2.1 q.2).2
      rw [show i - 1 + 1 = i by omega] at k
      omega
  obtain ⟨h1, h2, h3⟩ : mSec md i = false ∧ c ≤ eT t i ∧ o ++ sl t c (eT t i) = mU t md i := by
    rcases h with h | h
    · exact h
    · rw [s0] at h; exact absurd h.1 (by decide)
  have fr : pS (pLex t) i ≤ mFr t md i ∧ mFr t md i ≤ pE (pLex t) i := by unfold mFr; split <;> omega
  have g : mG t md i = sl t (eT t i) (pS (pLex t) i) := by unfold mG; rw [s0, if_neg (by decide)]
  have cat : o ++ sl t c (mFr t md i) = mU t md i ++ sl t (eT t i) (mFr t md i) := by
    rw [← h3, List.append_assoc, sl_cat h2 (by omega) (by omega)]
  refine ⟨by omega, by omega, s0, ?_, ?_⟩
  · rw [cat]
    show _ = mU t md i ++ (mG t md i ++ mW t md i)
    rw [g, List.append_assoc]
    congr 1
    unfold mFr mTk mW
    rcases hd with d | d | d | d
    · have x0 : mX t md i = false := by
        cases q : mX t md i with
        | false => rfl
        | true =>
          rw [mX_iff hm] at q
          rw [s0] at q
          rcases q with q | q | q
          · omega
          · omega
          · cases q
      rw [if_pos d, if_pos d, x0, if_neg (by decide), if_pos d]
      obtain ⟨w1, w2, w3⟩ := eq_word hi (hm'.1 d)
      rw [← sl_cat (p := eT t i) (q := pS (pLex t) i) (by omega) (by omega) le, List.append_assoc]
      congr 1
      rw [sl_step (by omega) le, sl_step (by omega) le, sl_nil (by omega), w2, w3]
      rfl
    · have x0 : mX t md i = false := by
        cases q : mX t md i with
        | false => rfl
        | true =>
          rw [mX_iff hm] at q
          rw [s0] at q
          rcases q with q | q | q
          · omega
          · omega
          · cases q
      rw [if_neg (by omega), if_neg (by omega), if_pos d, x0, if_neg (by decide), if_neg (by omega), if_pos d]
      rfl
    · rw [(mX_iff hm).mpr (.inl d), if_neg (by omega), if_neg (by omega), if_neg (by omega), if_pos rfl]
      rfl
    · rw [(mX_iff hm).mpr (.inr (.inl d)), if_neg (by omega), if_neg (by omega), if_neg (by omega), if_pos rfl]
      rfl
  · unfold wInv
    by_cases d8 : md i = 8
    · right
      refine ⟨by rw [mSec_s, d8]; rfl, ?_, rfl⟩
      unfold mTo
      rw [if_pos d8, eT_s]
    · left
      refine ⟨by rw [mSec_s]; simp [d8], ?_, ?_⟩
      · unfold mTo
        rw [if_neg d8, eT_s]
        omega
      · unfold mTo
        rw [if_neg d8, eT_s, sl_nil (Nat.le_refl _), List.append_nil]
theorem wInv.fin {t : List Nat} {md : Nat → Nat} (hm : mOk t md) (h26 : kT t (nT t) = 26) {c : Nat} {o : List Nat} (h : wInv t md (nT t) c o) : c ≤ t.length ∧ o ++ sl t c t.length = mTx t md ∧ mSec md (nT t) = false := by
  have s0 : mSec md (nT t) = false := by
    cases q : mSec md (nT t) with
    | false => rfl
    | true =>
      rw [mSec_iff] at q
      have k := ((hm (nT t - 1)).2.2.1 q.2).2
      rw [show nT t - 1 + 1 = nT t by omega] at k
      omega
  have ge := eT_le (t := t) (j := nT t) (Nat.le_refl _)
  have le := (pS_le t (nT t)).1
  rcases h with h | h
  · refine ⟨by omega, ?_, s0⟩
    rw [← mU_Z (nT t) 0 (by omega), ← h.2.2, List.append_assoc]
    show _ = o ++ (sl t c (eT t (nT t)) ++ sl t (eT t (nT t)) t.length)
    rw [sl_cat h.2.1 (by omega) (Nat.le_refl _)]
  · rw [s0] at h; exact absurd h.1 (by decide)
theorem mdF_5 (on : Nat → Bool) (gv : List (List Nat)) (t : List Nat) (L : qL) (i : Nat) : (mdF on gv t L i = 6 ∨ mdF on gv t L i = 7 ∨ mdF on gv t L i = 8 ∨ mdF on gv t L i = 9) ∨ mdF on gv t L i = 10 := by
  unfold mdF sMd
  repeat' split
  all_goals omega
section
variable {M : xMem} {b r0 r1 : Nat} {on : Nat → Bool} {gv : List (List Nat)} {t : List Nat} {L : qL} {tok sc : Nat}
theorem p_mendedText {r : Nat} (h : r < 10) : f_D_mendedText (nI r) M = some (mTk r, M) := by
  unfold f_D_mendedText mTk
  by_cases c6 : r = 6
  · subst c6; rfl
  by_cases c7 : r = 7
  · subst c7; rfl
  rw [if_neg c6, if_neg c7, if_neg (show ¬ nI r = 6 from fun e => c6 ((nI_eq (b := 6) (by omega) (by omega)).mp e)), if_neg (show ¬ nI r = 7 from fun e => c7 ((nI_eq (b := 7) (by omega) (by omega)).mp e))]
theorem p_mendedFrom {i r : Nat} (h : dS M b r0 r1 on gv t L) (hr : r < 10) (hi : i < nT t) : f_D_mendedFrom b (nI i) (nI r) M = some (nI (if r = 6 then pE (pLex t) i else pS (pLex t) i), M) := by
  have l := nT_len t
  unfold f_D_mendedFrom
  rw [h.src, h.src]
  by_cases c6 : r = 6
  · subst c6
    rw [if_pos rfl, if_pos (show nI 6 = 6 from rfl), p_endOf h.lx (by omega), xb_some]
  · rw [if_neg c6, if_neg (show ¬ nI r = 6 from fun e => c6 ((nI_eq (b := 6) (by omega) (by omega)).mp e)), p_startOf h.lx (by omega), xb_some]
theorem p_mendedTo {i r : Nat} (h : dS M b r0 r1 on gv t L) (hr : r < 10) (hi : i < nT t) : f_D_mendedTo b (nI i) (nI r) M = some (nI (if r = 8 then pE (pLex t) (i + 1) else pE (pLex t) i), M) := by
  have l := nT_len t
  have r05 : r0 = b + 5 ∨ r0 = b + 36 := by have := h.1.2.2; omega
  unfold f_D_mendedTo f_D_mendedTo_20
  rw [h.src, if_pos r05, if_pos r05]
  by_cases c8 : r = 8
  · subst c8
    rw [if_pos rfl, if_pos (show nI 8 = 8 from rfl)]
    have e : nI i + 1 = nI (i + 1) := nI_1 i
    rw [e, p_endOf h.lx (by omega), xb_some]
  · rw [if_neg c8, if_neg (show ¬ nI r = 8 from fun e => c8 ((nI_eq (b := 8) (by omega) (by omega)).mp e)), p_endOf h.lx (by omega), xb_some]
end
theorem sMdI_10 : sMdI 10 = -1 := rfl
theorem sMdI_n {n : Nat} (h : n ≠ 10) : sMdI n = nI n := by unfold sMdI; rw [if_neg h]
