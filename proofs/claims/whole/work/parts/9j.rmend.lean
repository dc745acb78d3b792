/-! PURE: mend() of the reference -/
theorem cnt_same {P Q : Nat → Bool} (h : ∀ c, Q c = true → P c = true) {x : Nat} : ∀ d, cnt P x = cnt P (x + d) → cnt Q x = cnt Q (x + d) := by
  intro d
  induction d with
  | zero => intro _; rfl
  | succ d ih =>
    intro e
    have m1 := cnt_mono (P := P) (show x ≤ x + d by omega)
    have m2 := cnt_mono (P := P) (show x + d ≤ x + (d + 1) by omega)
    rw [ih (by omega), ← Nat.add_assoc, cnt]
    have : Q (x + d) = false := by
      cases q : Q (x + d) with
      | false => rfl
      | true =>
        have := cnt_lt (c := x + d + 1) (h _ q) (by omega)
        rw [Nat.add_assoc] at this
        omega
    rw [this]; rfl
theorem cnt_one {a : Nat} : ∀ n, cnt (fun r => r == a) n = if a < n then 1 else 0 := by
  intro n
  induction n with
  | zero => rfl
  | succ n ih =>
    rw [cnt, ih]
    by_cases q : n = a
    · subst q; simp
    · have : (n == a) = false := by simp [q]
      rw [this]
      by_cases q2 : a < n
      · rw [if_pos q2, if_pos (show a < n + 1 by omega)]; rfl
      · rw [if_neg q2, if_neg (show ¬ a < n + 1 by omega)]; rfl
def qG (P lo : Nat → Bool) (c : Nat) : Bool := P c && gC lo c
theorem cnt_blocks {t : List Nat} {P lo : Nat → Bool} (hk : ∀ c, P c = true → kok t c) : ∀ i, cnt (qG P lo) (10 * i) = mCt (sMd P lo) i := by
  intro i
  induction i with
  | zero => rfl
  | succ i ih =>
    unfold mCt at ih ⊢
    rw [show 10 * (i + 1) = 10 * i + 10 by omega, cnt_add, ih]
    show _ = cnt (fun p => sMd P lo p != 10) i + (if (sMd P lo i != 10) = true then 1 else 0)
    congr 1
    by_cases q : sMd P lo i = 10
    · have : cnt (fun r => qG P lo (10 * i + r)) 10 = cnt (fun _ => false) 10 := by
        refine cnt_cong 10 (fun r hr => ?_)
        cases h : qG P lo (10 * i + r) with
        | false => rfl
        | true =>
          have h := Bool.and_eq_true_iff.mp h
          have := md_of hk h.1 h.2
          rw [(code_mod hr).1, (code_mod hr).2] at this
          omega
      rw [this, q]; rfl
    · obtain ⟨m1, m2, m3, m4⟩ := of_md q
      have : cnt (fun r => qG P lo (10 * i + r)) 10 = cnt (fun r => r == sMd P lo i) 10 := by
        refine cnt_cong 10 (fun r hr => ?_)
        by_cases e : r = sMd P lo i
        · subst e
          have : qG P lo (10 * i + sMd P lo i) = true := Bool.and_eq_true_iff.mpr ⟨m1, m2⟩
          rw [this]; simp
        · have f1 : (r == sMd P lo i) = false := by simp [e]
          rw [f1]
          cases h : qG P lo (10 * i + r) with
          | false => rfl
          | true =>
            have h := Bool.and_eq_true_iff.mp h
            have := md_of hk h.1 h.2
            rw [(code_mod hr).1, (code_mod hr).2] at this
            omega
      rw [this, cnt_one, if_pos m3]
      have : (sMd P lo i != 10) = true := by simp [q]
      rw [this]; rfl
/-- how many go -/
theorem r_many {M : xMem} {b : Nat} {t : List Nat} {P : Nat → Bool} {l : List qE} {k14 : Int32 → Int32 → xMem → Option (Int32 × xMem)} {v1 v2 : Int32} (h : nMd M b t P l) : ∀ (m f fuel x : Nat), f + m = cnt P (10 * nT t) → m < fuel → cnt P x = f → x ≤ 10 * nT t → ∃ g, f_N_mend_35 b k14 fuel v1 v2 (nI (cnt (qG P (loB l)) x)) (nI f) M = f_N_mend_35 b k14 (g + 1) v1 v2 (nI (mCt (sMd P (loB l)) (nT t))) (nI (cnt P (10 * nT t))) M := by
  have N := h.N
  have sub : ∀ c, qG P (loB l) c = true → P c = true := fun c hc => (Bool.and_eq_true_iff.mp hc).1
  intro m
  induction m with
  | zero =>
    intro f fuel x e hf hx hx2
    have := cnt_same sub (x := x) (10 * nT t - x) (by rw [show x + (10 * nT t - x) = 10 * nT t by omega]; omega)
    rw [show x + (10 * nT t - x) = 10 * nT t by omega] at this
    refine ⟨fuel - 1, ?_⟩
    rw [this, cnt_blocks h.2.2.1, show f = cnt P (10 * nT t) by omega, show fuel - 1 + 1 = fuel by omega]
  | succ m ih =>
    intro f fuel x e hf hx hx2
    obtain ⟨g, ef⟩ : ∃ g, fuel = g + 1 := ⟨fuel - 1, by omega⟩
    subst ef
    obtain ⟨c, c1, c2, c3⟩ := cnt_ex (P := P) (10 * nT t) f (by omega)
    have xc : x ≤ c := by
      by_cases q : x ≤ c
      · exact q
      · have := cnt_lt (c := x) c2 (by omega); omega
    have eq := cnt_same sub (x := x) (c - x) (by rw [show x + (c - x) = c by omega]; omega)
    rw [show x + (c - x) = c by omega] at eq
    have go := r_goes h c2
    rw [c3] at go
    have e1 : nI f + Int32.ofInt 1 = nI (f + 1) := nI_1 f
    obtain ⟨g', i1⟩ := ih (f + 1) g (c + 1) (by omega) (by omega) (by rw [cnt, c2, c3]; rfl) (by omega)
    refine ⟨g', ?_⟩
    rw [← i1, f_N_mend_35, h.2.1, if_neg (nI_ge (by omega) (by omega)), go, xb_some]
    unfold f_N_mend_56
    rw [e1, eq, cnt]
    have qe : qG P (loB l) c = gC (loB l) c := by unfold qG; rw [c2]; rfl
    rw [qe]
    cases q : gC (loB l) c with
    | true =>
      have e2 : nI (cnt (qG P (loB l)) c) + Int32.ofInt 1 = nI (cnt (qG P (loB l)) c + 1) := nI_1 _
      rw [if_neg (show ¬ bI true = 0 by decide), e2]; rfl
    | false =>
      rw [if_pos (show bI false = 0 from rfl)]; rfl
/-- becomes(): the text is taken over, and read -/
theorem r_becomes_2 {b p1 p1n : Nat} {u : List Nat} (hu : u.length ≤ 160) (hn : u.length ≤ p1n) (hn4 : p1n ≤ 400) (hp1 : p1 ≠ b ∧ p1 ≠ b + 2) (hc : ∀ i, pc u i < 256) : ∀ (m v fuel : Nat) (M : xMem), v + m = u.length → m < fuel → (∀ k, k < u.length → M.1 p1 k = nI (pc u k)) → (∀ k, k < v → M.1 (b + 2) k = nI (pc u k)) → ∃ M1, f_N_becomes_2 b p1 p1n (nI u.length) fuel (nI v) M = xbind (f_N_scans b M1) (fun _ M => some ((), M)) ∧ rTx M1 b u ∧ rF (fun a k => (a = b ∧ k = 2) ∨ a = b + 2) M M1 := by
  intro m
  induction m with
  | zero =>
    intro v fuel M e hf h1 h2
    obtain ⟨g, ef⟩ : ∃ g, fuel = g + 1 := ⟨fuel - 1, by omega⟩
    subst ef
    refine ⟨wI M b 2 (nI u.length), ?_, ⟨mI_s rfl rfl, hu, ?_, hc⟩, rF.I (.inl ⟨rfl, rfl⟩)⟩
    · rw [f_N_becomes_2, if_pos (nI_le (by omega) (by omega))]
      rfl
    · intro i hi
      rw [mI_n (by omega)]
      exact h2 i (by omega)
  | succ m ih =>
    intro v fuel M e hf h1 h2
    obtain ⟨g, ef⟩ : ∃ g, fuel = g + 1 := ⟨fuel - 1, by omega⟩
    subst ef
    obtain ⟨M1, q1, q2, q3⟩ := ih (v + 1) g (wI M (b + 2) v (nI (pc u v))) (by omega) (by omega) (fun k hk => by rw [mI_n (by omega)]; exact h1 k hk) (fun k hk => by
      by_cases q : k = v
      · subst q; rw [mI_s rfl rfl]
      · rw [mI_k q]; exact h2 k (by omega))
    refine ⟨M1, ?_, q2, (rF.I (.inr rfl)).trans q3⟩
    have e1 : nI v + Int32.ofInt 1 = nI (v + 1) := nI_1 v
    rw [f_N_becomes_2, if_neg (nI_ge (by omega) (by omega)), if_pos (xin_nI (by omega) (by omega)), nI_clamp (by omega), h1 v (by omega)]
    unfold xval xlet
    dsimp only
    rw [if_pos (xin_nI (by omega) (by decide)), e1]
    exact q1
theorem r_becomes {M : xMem} {b p1 p1n : Nat} {u : List Nat} (hu : u.length ≤ 160) (hn : u.length ≤ p1n) (hn4 : p1n ≤ 400) (hp1 : p1 ≠ b ∧ p1 ≠ b + 2) (hc : ∀ i, pc u i < 256) (h : ∀ k, k < u.length → M.1 p1 k = nI (pc u k)) : ∃ M1, f_N_becomes b p1 p1n (nI u.length) M = xbind (f_N_scans b M1) (fun _ M => some ((), M)) ∧ rTx M1 b u ∧ rF (fun a k => (a = b ∧ k = 2) ∨ a = b + 2) M M1 :=
  r_becomes_2 hu hn hn4 hp1 hc u.length 0 xFuel M (by omega) (by unfold xFuel; omega) h (fun k hk => absurd hk (by omega))
/-- what mend() of the reference may write -/
def rMdS (b : Nat) (a k : Nat) : Prop := (a = b ∧ (k = 2 ∨ k = 4 ∨ k = 5 ∨ (7 ≤ k ∧ k ≤ 9) ∨ (27 ≤ k ∧ k ≤ 64))) ∨ a = b + 2 ∨ a = b + 4 ∨ (b + 8 ≤ a ∧ a ≤ b + 41)
theorem nSt.to {M M' : xMem} {b : Nat} {on : Nat → Bool} {gv : List (List Nat)} (h : nSt M b on gv) (f : rF (rMdS b) M M') : nSt M' b on gv := by
  obtain ⟨s1, s2, s3, s4, s5⟩ := h
  refine ⟨by rw [f.2 _ _ (by unfold rMdS; omega)]; exact s1, s2, ?_, ?_, s5⟩
  · intro i hi
    have := s3 i hi
    exact ⟨by rw [f.2 _ _ (by unfold rMdS; omega)]; exact this.1, fun k hk => by rw [f.2 _ _ (by unfold rMdS; omega)]; exact this.2 k hk⟩
  · intro r hr
    rw [f.2 _ _ (by unfold rMdS; omega)]; exact s4 r hr
theorem nLk.md {M : xMem} {b : Nat} {on : Nat → Bool} {gv : List (List Nat)} {t : List Nat} {tok sc : Nat} {L : qL} (ht : t.length ≤ 160) (hq : qRun (kT t) (wT' t) (dT t) = .inr ([], tok, sc, L)) (h : nLk M b on gv t L (sMk (qEnd t L))) : nMd M b t (sP on gv t (qEnd t L) (L 4)) (L 18) := by
  have hP := q_pg ht hq
  have hk := hP.2.2.2.2.2.1
  obtain ⟨⟨hE, hSt⟩, h63, h64, hkok, hA⟩ := h
  refine ⟨hE.1.1, h63, fun c hc => hkok c (sP_mk hc), hA, hE.2.2.2.2.2.2.2.2.2.2.1, q_len60 hP.2.2.2.1 (by decide), ?_⟩
  intro i hi
  have := hk.2.2.2.1 _ (qg_mem hi)
  exact ⟨kT_real (by omega), this.2.2⟩
