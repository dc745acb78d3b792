/-! the start: xF and xT out of the premises -/
section
variable {args : Array Value} {s : State}
theorem st_ref {t : Term} {C : String} (h : (Cond.exactly t C).before args s = true) : ∃ a : Nat, t.eval args s none [] s = some (.ref a) := by
  obtain ⟨a, c, cell, k, q1, -⟩ := Cond.exactly_spec (args := args) (first := s) (o := none) (s := s) (idx := []) (t := t) (cls := C) h
  exact ⟨a, q1⟩
theorem st_field {t u : Term} {o n d : String} {v : Value} {a : Nat} {A : Nat → Prop} (ht : t.eval args s none [] s = some (.ref a)) (h : (Cond.eq (.field t o n d) u).before args s = true) (hu : u.eval args s none [] s = some v) (hA : ∀ a : Nat, a < s.heap.size → ¬ A a) : va_OF o n d v a A s s.heap := by
  have hv := va_eqv h hu
  cases hfo : s.fieldFound? o n d with
  | none =>
    rw [va_fe ht] at hv
    simp [State.fieldOf?, State.fieldNamed?, hfo] at hv
  | some x =>
    obtain ⟨cf, k, fi, f⟩ := x
    obtain ⟨g1, cell, g2, g3, -, -, g6⟩ := Term.field_spec hfo ht hv
    exact ⟨cf, k, fi, f, cell, hfo, g1, g2, g3, g6, hA _ (Array.getElem?_eq_some_iff.mp g2).1⟩
theorem st_val {t : Term} {o n d : String} {v : Value} {a : Nat} {A : Nat → Prop} (ht : t.eval args s none [] s = some (.ref a)) (hv : (Term.field t o n d).eval args s none [] s = some v) (hA : ∀ a : Nat, a < s.heap.size → ¬ A a) : va_OF o n d v a A s s.heap := by
  cases hfo : s.fieldFound? o n d with
  | none =>
    rw [va_fe ht] at hv
    simp [State.fieldOf?, State.fieldNamed?, hfo] at hv
  | some x =>
    obtain ⟨cf, k, fi, f⟩ := x
    obtain ⟨g1, cell, g2, g3, -, -, g6⟩ := Term.field_spec hfo ht hv
    exact ⟨cf, k, fi, f, cell, hfo, g1, g2, g3, g6, hA _ (Array.getElem?_eq_some_iff.mp g2).1⟩
theorem st_arr {cA : ClassId} {kA : Class} {comp : ClassId} {ty : FieldType} (h2 : s.vm.classes[cA]? = some kA) (h3 : kA.kind = .array comp ty) : ArrOfT s cA ty := fun n z => ⟨fun k h => (by cases h), kA, h2, comp, h3⟩
/-- the enum's constants and their texts, one by one -/
theorem st_tok (hF : ∀ w ∈ ndF, w.before args s = true) {A : Nat → Prop} (hA : ∀ a : Nat, a < s.heap.size → ¬ A a) {k : Nat} (hk : k < 28) : ∃ e t v : Nat, (sT k).eval args s none [] s = some (.ref e) ∧ (sS k).eval args s none [] s = some (.ref t) ∧ va_O "LintDesk$Token" e A s s.heap ∧ va_OF "java/lang/Enum" "ordinal" "I" (.int (nI k)) e A s s.heap ∧ va_OF "LintDesk$Token" "text" "Ljava/lang/String;" (.ref t) e A s s.heap ∧ va_OF "LintDesk$Token" "keyword" "Z" (.int (xTokKw.getD k 0)) e A s s.heap ∧ va_OF "LintDesk$Token" "sign" "Z" (.int (xTokSg.getD k 0)) e A s s.heap ∧ va_OF "LintDesk$Token" "octets" "J" (.long (xTokOc.getD k 0)) e A s s.heap ∧ va_O "java/lang/String" t A s s.heap ∧ va_OF "java/lang/String" "value" "[B" (.ref v) t A s s.heap ∧ va_OF "java/lang/String" "coder" "B" (.int 0) t A s s.heap ∧ va_T .byte v (xTxt.getD k []).length (fun j => .int ((xTxt.getD k []).getD j 0)) A s s.heap := by
  have h0 : ∀ w ∈ nd0 k, w.before args s = true := fun w hw => hF w (List.mem_append_left _ (List.mem_append_left _ (List.mem_flatMap.mpr ⟨k, List.mem_range.mpr hk, List.mem_append_left _ hw⟩)))
  have h1 : ∀ w ∈ nd1 k, w.before args s = true := fun w hw => hF w (List.mem_append_left _ (List.mem_append_left _ (List.mem_flatMap.mpr ⟨k, List.mem_range.mpr hk, List.mem_append_right _ hw⟩)))
  have a0 := h0 _ (List.mem_of_getElem? (i := 0) rfl)
  have a1 := h0 _ (List.mem_of_getElem? (i := 1) rfl)
  have a2 := h0 _ (List.mem_of_getElem? (i := 2) rfl)
  have a3 := h0 _ (List.mem_of_getElem? (i := 3) rfl)
  have a4 := h0 _ (List.mem_of_getElem? (i := 4) rfl)
  have a5 := h0 _ (List.mem_of_getElem? (i := 5) rfl)
  have a6 := h0 _ (List.mem_of_getElem? (i := 6) rfl)
  have a7 := h0 _ (List.mem_of_getElem? (i := 7) rfl)
  have a8 := h0 _ (List.mem_of_getElem? (i := 8) rfl)
  have a9 := h0 _ (List.mem_of_getElem? (i := 9) rfl)
  obtain ⟨e, he⟩ := st_ref a0
  obtain ⟨t, ht⟩ := st_ref a6
  have hl : (xTxt.getD k []).length < 2 ^ 31 := by
    have : ∀ k, k < 28 → (xTxt.getD k []).length < 2 ^ 31 := by decide
    exact this k hk
  obtain ⟨v, hv, hT⟩ := va_Tof (args := args) (s := s) (tm := sV k) (ty := .byte) (N := (xTxt.getD k []).length) (f := fun j => .int ((xTxt.getD k []).getD j 0)) (A := A) hl a8 (va_eqt a9) (fun j hj => va_eqt (h1 _ (List.mem_map.mpr ⟨j, List.mem_range.mpr hj, rfl⟩))) hA
  exact ⟨e, t, v, he, ht, va_Oof a0 he hA, st_field he a1 rfl hA, st_field he a2 ht hA, st_field he a3 rfl hA, st_field he a4 rfl hA, st_field he a5 rfl hA, va_Oof a6 ht hA, st_val ht hv hA, st_field ht a7 rfl hA, hT⟩
theorem st_ord {e i j : Nat} {A : Nat → Prop} (h1 : va_OF "java/lang/Enum" "ordinal" "I" (.int (nI i)) e A s s.heap) (h2 : va_OF "java/lang/Enum" "ordinal" "I" (.int (nI j)) e A s s.heap) (hi : i < 28) (hj : j < 28) : i = j := by
  obtain ⟨cf, k, fi, f, cell, g1, g2, g3, g4, g5, g6⟩ := h1
  obtain ⟨cf', k', fi', f', cell', g1', g2', g3', g4', g5', g6'⟩ := h2
  cases g1.symm.trans g1'
  cases g3.symm.trans g3'
  have := Option.some.inj (g5.symm.trans g5')
  exact (nI_eq (by omega) (by omega)).mp (Value.int.inj this)
/-- the classes -/
theorem st_cls (hts : ∀ w ∈ xWs, w.before args s = true) : ∃ D : va_G, ∀ (c : Nat) (q : vw_C), xCl[c]? = some q → u_Kn s q.1 q.2.1 q.2.2 (D.1 c) (D.2 c) := by
  have h0 : ∀ c : Nat, ∃ d : ClassId × (Nat → Nat), ∀ q : vw_C, xCl[c]? = some q → u_Kn s q.1 q.2.1 q.2.2 d.1 d.2 := by
    intro c
    have un : ∀ {C : String} {T : u_T} {N n : Nat}, (∀ w ∈ u_ws C T N, w ∈ xWs) → Cond.instantiable C n ∈ xWs → xCl[c]? = some (C, T, N) → ∃ d : ClassId × (Nat → Nat), ∀ q : vw_C, xCl[c]? = some q → u_Kn s q.1 q.2.1 q.2.2 d.1 d.2 := by
      intro C T N n hin hi hq
      obtain ⟨cC, iS, h⟩ := u_known hts hin (hts _ hi)
      exact ⟨(cC, iS), fun q h2 => by cases hq.symm.trans h2; exact h⟩
    match c with
    | 0 => exact un fi_D xw27 rfl
    | 1 => exact un fi_L xw35 rfl
    | 2 => exact un fi_G xw51 rfl
    | 3 => exact un fi_T xw72 rfl
    | 4 => exact un fi_S xw105 rfl
    | 5 => exact un fi_H xw125 rfl
    | 6 => exact un fi_M xw176 rfl
    | 7 => exact un fi_B xw192 rfl
    | 8 => exact un fi_P xw227 rfl
    | 9 => exact un fi_R xw252 rfl
    | 10 => exact un fi_N xw1025 rfl
    | c + 11 => exact ⟨(0, fun _ => 0), fun q h => by simp [xCl] at h⟩
  obtain ⟨f, hf⟩ := Classical.axiomOfChoice h0
  exact ⟨(fun c => (f c).1, fun c => (f c).2), hf⟩
theorem st_types (hW : ∀ w ∈ ndW, w.before args s = true) : ∃ Z : Nat → ClassId, ∀ (k : Nat) (q : ClassId × FieldType), (xtys Z)[k]? = some q → ArrOfT s q.1 q.2 ∧ va_RA s q.1 q.2 := by
  obtain ⟨c0, k0, p0, a0, b0, d0⟩ := Cond.arrayClass_spec (hW (.arrayClass .int) (by decide +kernel))
  obtain ⟨c1, k1, p1, a1, b1, d1⟩ := Cond.arrayClass_spec (hW (.arrayClass .char) (by decide +kernel))
  obtain ⟨c2, k2, p2, a2, b2, d2⟩ := Cond.arrayClass_spec (hW (.arrayClass .boolean) (by decide +kernel))
  obtain ⟨c3, k3, p3, a3, b3, d3⟩ := Cond.arrayClass_spec (hW (.arrayClass .long) (by decide +kernel))
  obtain ⟨p4, c4, k4, e4, -, b4, d4, a4⟩ := Cond.arrayOver_spec (hW (.arrayOver (.object "LintDesk$Token")) (by decide +kernel))
  refine ⟨fun k => match k with | 0 => c0 | 1 => c1 | 2 => c2 | 3 => c3 | _ => c4, fun k q h => ?_⟩
  match k with
  | 0 => cases h; exact ⟨st_arr b0 d0, a0⟩
  | 1 => cases h; exact ⟨st_arr b1 d1, a1⟩
  | 2 => cases h; exact ⟨st_arr b2 d2, a2⟩
  | 3 => cases h; exact ⟨st_arr b3 d3, a3⟩
  | 4 => cases h; exact ⟨st_arr b4 d4, k4, p4, b4, d4, e4, a4⟩
  | k + 5 => simp [xtys] at h
/-- all of it -/
theorem st_all (hts : ∀ w ∈ xWs, w.before args s = true) (hW : ∀ w ∈ ndW, w.before args s = true) (hF : ∀ w ∈ ndF, w.before args s = true) : ∃ G : xG, gB G = s.heap.size ∧ xF G s ∧ xT G s := by
  have hA : ∀ a : Nat, a < s.heap.size → ¬ (fun q => s.heap.size ≤ q) a := fun a h h2 => absurd h2 (Nat.not_le.mpr h)
  obtain ⟨D, hD⟩ := st_cls hts
  obtain ⟨Z, hZ⟩ := st_types hW
  have tk : ∀ k : Nat, ∃ q : Nat × Nat × Nat, k < 28 → (sT k).eval args s none [] s = some (.ref q.1) ∧ (sS k).eval args s none [] s = some (.ref q.2.1) ∧ va_O "LintDesk$Token" q.1 (fun q => s.heap.size ≤ q) s s.heap ∧ va_OF "java/lang/Enum" "ordinal" "I" (.int (nI k)) q.1 (fun q => s.heap.size ≤ q) s s.heap ∧ va_OF "LintDesk$Token" "text" "Ljava/lang/String;" (.ref q.2.1) q.1 (fun q => s.heap.size ≤ q) s s.heap ∧ va_OF "LintDesk$Token" "keyword" "Z" (.int (xTokKw.getD k 0)) q.1 (fun q => s.heap.size ≤ q) s s.heap ∧ va_OF "LintDesk$Token" "sign" "Z" (.int (xTokSg.getD k 0)) q.1 (fun q => s.heap.size ≤ q) s s.heap ∧ va_OF "LintDesk$Token" "octets" "J" (.long (xTokOc.getD k 0)) q.1 (fun q => s.heap.size ≤ q) s s.heap ∧ va_O "java/lang/String" q.2.1 (fun q => s.heap.size ≤ q) s s.heap ∧ va_OF "java/lang/String" "value" "[B" (.ref q.2.2) q.2.1 (fun q => s.heap.size ≤ q) s s.heap ∧ va_OF "java/lang/String" "coder" "B" (.int 0) q.2.1 (fun q => s.heap.size ≤ q) s s.heap ∧ va_T .byte q.2.2 (xTxt.getD k []).length (fun j => .int ((xTxt.getD k []).getD j 0)) (fun q => s.heap.size ≤ q) s s.heap := by
    intro k
    by_cases hk : k < 28
    · obtain ⟨e, t, v, h⟩ := st_tok hF hA hk
      exact ⟨(e, t, v), fun _ => h⟩
    · exact ⟨(0, 0, 0), fun h => absurd h hk⟩
  obtain ⟨g, hg⟩ := Classical.axiomOfChoice tk
  have n2 : ∀ w ∈ nd2, w.before args s = true := fun w hw => hF w (List.mem_append_left _ (List.mem_append_right _ hw))
  have n3 : ∀ w ∈ nd3, w.before args s = true := fun w hw => hF w (List.mem_append_right _ hw)
  have d0 : ∀ k, k < 28 → ∀ w ∈ nd0 k, w.before args s = true := fun k hk w hw => hF w (List.mem_append_left _ (List.mem_append_left _ (List.mem_flatMap.mpr ⟨k, List.mem_range.mpr hk, List.mem_append_left _ hw⟩)))
  obtain ⟨t0, e0, T0⟩ := va_Tof (args := args) (s := s) (tm := sTT) (ty := .object "LintDesk$Token") (N := 28) (f := fun j => .ref (g j).1) (A := fun q => s.heap.size ≤ q) (by decide) (n2 _ (List.mem_of_getElem? (i := 0) rfl)) (va_eqt (n2 _ (List.mem_of_getElem? (i := 1) rfl))) (fun j hj => va_eqv (d0 j hj _ (List.mem_of_getElem? (i := 10) rfl)) (hg j hj).1) hA
  obtain ⟨t1, e1, T1⟩ := va_Tof (args := args) (s := s) (tm := sTW) (ty := .int) (N := 28) (f := fun j => .int (xSwM.getD j 0)) (A := fun q => s.heap.size ≤ q) (by decide) (n2 _ (List.mem_of_getElem? (i := 2) rfl)) (va_eqt (n2 _ (List.mem_of_getElem? (i := 3) rfl))) (fun j hj => va_eqt (d0 j hj _ (List.mem_of_getElem? (i := 11) rfl))) hA
  have wI : ∀ C, Cond.initialized C ∈ ndW → (Cond.initialized C).before args s = true := fun C h => hW _ h
  refine ⟨(s.heap.size, D, Z, fun k => (g k).1, fun k => (g k).2.1, fun k => match k with | 0 => t0 | 1 => t1 | k + 2 => (g k).2.2), rfl, ⟨⟨hD, hZ⟩, fun w hw => va_Nw.of (xNw_t w hw) (hW w (List.mem_append_left _ (List.mem_append_right _ hw))), va_AO.of (hW _ (show Cond.arrayOver (.object "LintDesk$Token") ∈ ndW by decide +kernel)), ?_, ⟨?_, ?_, T0, ?_, T1, ?_, ?_⟩, ?_, ?_, ?_⟩, ?_⟩
  · intro i j hi hj e
    have e : (g i).1 = (g j).1 := e
    have h1 := (hg i hi).2.2.2.1
    have h2 := (hg j hj).2.2.2.1
    rw [e] at h1
    exact st_ord h1 h2 hi hj
  · intro k hk
    obtain ⟨q1, q2, q3, q4, q5, q6, q7, q8, q9, q10, q11, q12⟩ := hg k hk
    have e2 : (match 2 + k with | 0 => t0 | 1 => t1 | k + 2 => (g k).2.2) = (g k).2.2 := by rw [Nat.add_comm 2 k]
    refine ⟨va_Zref (hW _ ?_) (wI _ (by decide +kernel)) q1 hA, q3, q4, q5, q6, q7, q8, q9, ?_, q11, ?_⟩
    · exact List.mem_append_left _ (List.mem_append_left _ (List.mem_append_left _ (List.mem_append_left _ (List.mem_map.mpr ⟨k, List.mem_range.mpr hk, rfl⟩))))
    · show va_OF "java/lang/String" "value" "[B" (.ref (match 2 + k with | 0 => t0 | 1 => t1 | k + 2 => (g k).2.2)) _ _ _ _
      rw [e2]; exact q10
    · show va_T .byte (match 2 + k with | 0 => t0 | 1 => t1 | k + 2 => (g k).2.2) _ _ _ _ _
      rw [e2]; exact q12
  · exact va_Zref (hW _ (by decide +kernel)) (wI _ (by decide +kernel)) e0 hA
  · exact va_Zref (hW _ (by decide +kernel)) (wI _ (by decide +kernel)) e1 hA
  · exact va_Zof (hW _ (by decide +kernel)) (wI _ (by decide +kernel)) (va_eqt (n2 _ (List.mem_of_getElem? (i := 4) rfl))) hA
  · exact va_Zqof (hW _ (by decide +kernel)) (wI _ (by decide +kernel)) (n2 _ (List.mem_of_getElem? (i := 5) rfl)) hA
  · exact vk_R.of (A := args) (hW _ (by decide +kernel)) (va_eqv (n2 _ (List.mem_of_getElem? (i := 8) rfl)) (hg 10 (by decide)).2.1)
  · exact vk_R.of (A := args) (hW _ (by decide +kernel)) (va_eqv (n2 _ (List.mem_of_getElem? (i := 9) rfl)) (hg 1 (by decide)).2.1)
  · exact vk_R.of (A := args) (hW _ (by decide +kernel)) (va_eqv (n2 _ (List.mem_of_getElem? (i := 10) rfl)) (hg 23 (by decide)).2.1)
  · refine ⟨fun w hw => va_Nw.of (xTw_t w hw) (hW w (List.mem_append_right _ hw)), xLs.of (hW _ (by decide +kernel)) (n2 _ (List.mem_of_getElem? (i := 6) rfl)) hA, xLs.of (hW _ (by decide +kernel)) (n2 _ (List.mem_of_getElem? (i := 7) rfl)) hA, fun q hq => ?_, fun q hq => ?_⟩
    · obtain ⟨a, ha⟩ := st_ref (n3 _ (List.mem_append_right _ (List.mem_map.mpr ⟨q, hq, rfl⟩)))
      exact ⟨a, vk_R.of (A := args) (hW _ (List.mem_append_left _ (List.mem_append_left _ (List.mem_append_right _ (List.mem_map.mpr ⟨q, hq, rfl⟩))))) ha⟩
    · exact va_Nc.of (n3 _ (List.mem_append_left _ (List.mem_map.mpr ⟨q, hq, rfl⟩)))
end
