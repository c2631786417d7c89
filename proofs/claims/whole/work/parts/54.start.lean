/-! THE START: the tables' words give the surroundings -/
theorem q_Tsub {w : Cond} (h : w ∈ q_T) : w ∈ lw_tbl := (List.mem_filter.mp h).1
theorem q_start {s : State} {args : Array Value} (hts0 : ∀ w ∈ lw_tbl, w.before args s = true) (hg : (Jvm.Cond.and given_1 narrow_1).before args s = true) : ∃ E : qE, (∀ q, E.A q ↔ s.heap.size ≤ q) ∧ E.X = [] ∧ q_K E s ∧ q_Z E s s.heap := by
  have hts : ∀ w ∈ q_T, w.before args s = true := fun w hw => hts0 w (q_Tsub hw)
  obtain ⟨c0, i0, k0⟩ := u_known (C := RX0) (T := TX0) (N := 7) hts q_u0 (hts _ wd_131)
  obtain ⟨c1, i1, k1⟩ := u_known (C := RX1) (T := TX1) (N := 7) hts q_u1 (hts _ wd_68)
  obtain ⟨c2, i2, k2⟩ := u_known (C := RX2) (T := TX2) (N := 3) hts q_u2 (hts _ wd_61)
  obtain ⟨c3, i3, k3⟩ := u_known (C := RX3) (T := TX3) (N := 1) hts q_u3 (hts _ wd_102)
  obtain ⟨c4, i4, k4⟩ := u_known (C := RX4) (T := TX4) (N := 2) hts q_u8 (hts _ wd_268)
  obtain ⟨c5, i5, k5⟩ := u_known (C := RX5) (T := TX5) (N := 4) hts q_u4 (hts _ wd_53)
  obtain ⟨c6, i6, k6⟩ := u_known (C := RX6) (T := TX6) (N := 6) hts q_u5 (hts _ wd_480)
  have w64 : (Cond.arrayOver (.object RX1)).before args s = true := hts0 _ (List.mem_of_getElem? (i := 67) (by decide +kernel))
  have wI : (Cond.arrayClass .int).before args s = true := hts0 _ (List.mem_of_getElem? (i := 504) (by decide +kernel))
  have wJ : (Cond.arrayClass .long).before args s = true := hts0 _ (List.mem_of_getElem? (i := 584) (by decide +kernel))
  obtain ⟨cI, kI, pI, hI1, hI2, hI3⟩ := Cond.arrayClass_spec wI
  obtain ⟨cJ, kJ, pJ, hJ1, hJ2, hJ3⟩ := Cond.arrayClass_spec wJ
  obtain ⟨pR, cR, kR, hR1, -, hR3, hR4, hR5⟩ := Cond.arrayOver_spec w64
  obtain ⟨cS, kS, hfS, -⟩ := Cond.instantiable_spec (hts _ wd_53)
  have aA : ∀ {ty : FieldType} {cA : ClassId} {kA : Class} {pA : ClassId}, s.vm.classes[cA]? = some kA → kA.kind = .array pA ty → ArrOfT s cA ty := fun h2 h3 n z => ⟨fun k h => (by cases h), _, h2, _, h3⟩
  refine ⟨((fun k => match k with | 0 => c0 | 1 => c1 | 2 => c2 | 3 => c3 | 4 => c4 | 5 => c5 | _ => c6, fun k => match k with | 0 => i0 | 1 => i1 | 2 => i2 | 3 => i3 | 4 => i4 | 5 => i5 | _ => i6), cI, cR, cJ, fun q => s.heap.size ≤ q, []), fun q => Iff.rfl, rfl, ⟨⟨?_, ?_⟩, fun w hw => va_Nw.of (q_on hw) (hts w hw), va_AO.of w64, ?_, fun a => word_at (State.WarmedH.refl s) (Or.inr ⟨_, rfl⟩) wI, fun a => word_at (State.WarmedH.refl s) (Or.inr ⟨_, rfl⟩) wJ⟩, ?_, ?_⟩
  · intro k q hq
    match k, hq with
    | 0, hq => cases hq; exact k0
    | 1, hq => cases hq; exact k1
    | 2, hq => cases hq; exact k2
    | 3, hq => cases hq; exact k3
    | 4, hq => cases hq; exact k4
    | 5, hq => cases hq; exact k5
    | 6, hq => cases hq; exact k6
    | k + 7, hq => cases hq
  · intro k q hq
    match k, hq with
    | 0, hq => cases hq; exact ⟨aA hI2 hI3, hI1⟩
    | 1, hq => cases hq; exact ⟨aA hR3 hR4, kR, pR, hR3, hR4, hR1, hR5⟩
    | 2, hq => cases hq; exact ⟨aA hJ2 hJ3, hJ1⟩
    | k + 3, hq => cases hq
  · intro x hx
    have hall : ∀ x ∈ q_strs, Cond.stringRef RX5 x.1 x.2 ∈ lw_tbl := by
      intro x hx
      simp only [q_strs, List.mem_cons, List.not_mem_nil, or_false] at hx
      rcases hx with rfl | rfl | rfl | rfl | rfl | rfl
      · exact List.mem_of_getElem? (i := 338) (by decide +kernel)
      · exact List.mem_of_getElem? (i := 408) (by decide +kernel)
      · exact List.mem_of_getElem? (i := 422) (by decide +kernel)
      · exact List.mem_of_getElem? (i := 437) (by decide +kernel)
      · exact List.mem_of_getElem? (i := 478) (by decide +kernel)
      · exact List.mem_of_getElem? (i := 375) (by decide +kernel)
    have hw := hts0 _ (hall x hx)
    obtain ⟨k, cf, i, a, -, -, -, -, -, he⟩ := Cond.stringRef_spec hfS hw
    exact ⟨a, vk_R.of hw he⟩
  · exact vx_Zqof (hts0 _ (List.mem_of_getElem? (i := 325) (by decide +kernel))) (hts0 _ (List.mem_of_getElem? (i := 45) (by decide +kernel))) (flat_of_before _ hg _ (by decide +kernel)) (fun a h => Nat.not_le.mpr h)
  · exact vx_Zqof (hts0 _ (List.mem_of_getElem? (i := 327) (by decide +kernel))) (hts0 _ (List.mem_of_getElem? (i := 45) (by decide +kernel))) (flat_of_before _ hg _ (by decide +kernel)) (fun a h => Nat.not_le.mpr h)
