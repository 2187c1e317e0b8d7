/-! ===== from the Statement's start to the law's own ===== -/
theorem k_arr {args : Array Value} {s : State} {ty : FieldType} (h : (Cond.arrayClass ty).before args s = true) : ∃ cA : ClassId, ArrOfT s cA ty ∧ s.vm.findClass ("[" ++ ty.toString) = some cA := by
  obtain ⟨c, k, comp, h1, h2, h3⟩ := Cond.arrayClass_spec h
  exact ⟨c, fun n z => ⟨fun k h => (by cases h), k, h2, comp, h3⟩, h1⟩
theorem k_arrO {args : Array Value} {s : State} {C : String} (h : (Cond.arrayOver (.object C)).before args s = true) : ∃ cA : ClassId, ArrOfT s cA (.object C) ∧ va_RA s cA (.object C) := by
  obtain ⟨comp, c, k, h1, h2, h3, h4, h5⟩ := Cond.arrayOver_spec h
  exact ⟨c, fun n z => ⟨fun k h => (by cases h), k, h3, comp, h4⟩, k, comp, h3, h4, h1, h5⟩
theorem k_arrA {args : Array Value} {s : State} {t : FieldType} (h : (Cond.arrayOver (.array t)).before args s = true) : ∃ cA : ClassId, ArrOfT s cA (.array t) ∧ va_RA s cA (.array t) := by
  obtain ⟨comp, c, k, h1, h3, h4, h5⟩ := Cond.arrayOver_specA h
  exact ⟨c, fun n z => ⟨fun k h => (by cases h), k, h3, comp, h4⟩, h5⟩
theorem k_inst : (List.range 8).all (fun i => decide (Cond.instantiable (zcn i) (zft i).length ∈ lw_tbl)) = true := by decide +kernel
theorem k_words : Cond.arrayClass .int ∈ lw_tbl ∧ Cond.arrayClass .boolean ∈ lw_tbl ∧ Cond.arrayClass .long ∈ lw_tbl ∧ Cond.arrayClass .double ∈ lw_tbl ∧ Cond.arrayOver (.array .int) ∈ lw_tbl ∧ Cond.arrayOver (.object "Patternroom$Page") ∈ lw_tbl ∧ Cond.arrayOver (.object "Patternroom$Snapshot") ∈ lw_tbl ∧ Cond.arrayOver (.object "Patternroom$View") ∈ lw_tbl := ⟨by decide +kernel, by decide +kernel, by decide +kernel, by decide +kernel, by decide +kernel, by decide +kernel, by decide +kernel, by decide +kernel⟩
theorem k_class {args : Array Value} {s : State} (hts : ∀ w ∈ lw_tbl, w.before args s = true) (i : Nat) : ∃ z : ClassId × (Nat → Nat), i < 8 → u_Kn s (zcn i) (zTn i) (zft i).length z.1 z.2 := by
  by_cases hi : i < 8
  · obtain ⟨cC, iS, h⟩ := u_known (ws := lw_tbl.filter goodWord) (fun w hw => hts w (List.mem_filter.mp hw).1) (zLays_in hi) (hts _ (of_decide_eq_true (List.all_eq_true.mp k_inst i (List.mem_range.mpr hi))))
    exact ⟨(cC, iS), fun _ => h⟩
  · exact ⟨(0, fun _ => 0), fun h => absurd h hi⟩
theorem k_tys {args : Array Value} {s : State} (hts : ∀ w ∈ lw_tbl, w.before args s = true) : ∃ cy : Nat → ClassId, ∀ (k : Nat) (q : ClassId × FieldType), [(cy 0, FieldType.int), (cy 1, .boolean), (cy 2, .long), (cy 3, .double), (cy 4, .array .int), (cy 5, .object "Patternroom$Page"), (cy 6, .object "Patternroom$Snapshot"), (cy 7, .object "Patternroom$View")][k]? = some q → ArrOfT s q.1 q.2 ∧ va_RA s q.1 q.2 := by
  obtain ⟨w0, w1, w2, w3, w4, w5, w6, w7⟩ := k_words
  obtain ⟨c0, a0, b0⟩ := k_arr (hts _ w0)
  obtain ⟨c1, a1, b1⟩ := k_arr (hts _ w1)
  obtain ⟨c2, a2, b2⟩ := k_arr (hts _ w2)
  obtain ⟨c3, a3, b3⟩ := k_arr (hts _ w3)
  obtain ⟨c4, a4, b4⟩ := k_arrA (hts _ w4)
  obtain ⟨c5, a5, b5⟩ := k_arrO (hts _ w5)
  obtain ⟨c6, a6, b6⟩ := k_arrO (hts _ w6)
  obtain ⟨c7, a7, b7⟩ := k_arrO (hts _ w7)
  refine ⟨fun k => match k with
    | 0 => c0
    | 1 => c1
    | 2 => c2
    | 3 => c3
    | 4 => c4
    | 5 => c5
    | 6 => c6
    | _ => c7, fun k q hq => ?_⟩
  match k, hq with
  | 0, hq => obtain rfl := Option.some.inj hq; exact ⟨a0, b0⟩
  | 1, hq => obtain rfl := Option.some.inj hq; exact ⟨a1, b1⟩
  | 2, hq => obtain rfl := Option.some.inj hq; exact ⟨a2, b2⟩
  | 3, hq => obtain rfl := Option.some.inj hq; exact ⟨a3, b3⟩
  | 4, hq => obtain rfl := Option.some.inj hq; exact ⟨a4, b4⟩
  | 5, hq => obtain rfl := Option.some.inj hq; exact ⟨a5, b5⟩
  | 6, hq => obtain rfl := Option.some.inj hq; exact ⟨a6, b6⟩
  | 7, hq => obtain rfl := Option.some.inj hq; exact ⟨a7, b7⟩
  | k + 8, hq => cases hq
theorem k_start (l : Launch) (hflags : l.flags = flags0) {s : State} {b L : Nat} {xs : Nat → Int32} (hts : ∀ w ∈ lw_tbl, w.before #[Value.ref b] s = true) (hX : va_X b L xs s s.heap) (hbl : b < s.heap.size) (hgv : (Jvm.Cond.and given_1 narrow_1).before #[Value.ref b] s = true) : ∃ (D : va_G) (cy : Nat → ClassId), zOk (l, s, #[Value.ref b], b, L, xs, D, cy) := by
  obtain ⟨cy, hcy⟩ := k_tys hts
  refine ⟨(fun i => (Classical.choose (k_class hts i)).1, fun i => (Classical.choose (k_class hts i)).2), cy, hts, ⟨fun c q hq => ?_, hcy⟩, hX, hbl, ?_, hgv⟩
  · have hc : c < 8 := by
      have := (List.getElem?_eq_some_iff.mp hq).1
      exact this
    rw [zCl_at hc] at hq
    obtain rfl := Option.some.inj hq
    exact Classical.choose_spec (k_class hts c) hc
  · show l.stackTraces = false
    unfold Launch.stackTraces
    rw [hflags]
    decide +kernel
