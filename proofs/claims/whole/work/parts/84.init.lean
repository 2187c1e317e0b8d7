/-! ===== what is so at the start ===== -/
/-- the integers once all is made -/
def S0 : zS := fun k _ _ n => match k with
  | 1 => match n with
    | 1 => 1
    | _ => 0
  | 3 => -1
  | 4 => -1
  | 6 => -1
  | 11 => -1
  | 15 => -1
  | 24 => -1
  | 27 => -1
  | 31 => match n with
    | 0 => 30
    | 1 => 8
    | 2 => 72
    | _ => 0
  | 40 => match n with
    | 4 => 1
    | 19 => 30
    | 20 => 8
    | 21 => 72
    | _ => 0
  | 43 => -1
  | _ => 0
theorem owL_S0 {c : Nat} (hc : c < 8) : owL (fun c s => S0 15 c 0 s) c = [c] := by
  exact owL_eq (f := fun c s => S0 15 c 0 s) (fun _ _ _ _ => Or.inl rfl) hc
theorem TI_S0 : TI S0 (fun _ _ _ _ => 0) := by
  refine ⟨⟨⟨?_, ?_, ?_, ?_, ?_⟩, ?_, ?_⟩, ?_, ?_, ?_, ?_, rfl⟩
  · refine ⟨by decide, by decide, fun t _ => (by decide : (0 : Int) ≤ 0 ∧ (0 : Int) ≤ 2), fun r t _ h => ?_, fun r t _ _ _ => rfl, fun t _ => Or.inl rfl⟩
    exact absurd h (by show ¬ (t : Int) < 0; omega)
  · intro n hn
    match n, hn with
    | 0, _ => exact (by decide : (0 : Int) ≤ 30 ∧ (30 : Int) ≤ 99)
    | 1, _ => exact (by decide : (0 : Int) ≤ 8 ∧ (8 : Int) ≤ 99)
    | 2, _ => exact (by decide : (0 : Int) ≤ 72 ∧ (72 : Int) ≤ 99)
  · refine ⟨by decide, fun c x _ _ => (by decide : (-1 : Int) ≤ -1 ∧ (-1 : Int) < 0), fun c x h _ => ?_, fun _ _ _ _ => Or.inl rfl, fun c s _ _ _ => rfl, fun c hc => ?_, fun c h => ?_⟩
    · exact absurd h (by show ¬ (c : Int) < 0; omega)
    · rw [owL_S0 hc]
      exact Nat.le_of_ble_eq_true rfl
    · exact absurd h (by show ¬ (c : Int) < 0; omega)
  · intro p hp
    refine ⟨(by decide : (0 : Int) ≤ 0 ∧ (0 : Int) ≤ 6), fun u h => ?_, fun t _ => (by decide : (-1 : Int) ≤ -1 ∧ (-1 : Int) ≤ 99), fun t _ _ => rfl, rfl, ⟨rfl, fun r q h _ => ?_⟩, fun _ => ⟨rfl, rfl, fun _ _ => rfl⟩⟩
    · exact absurd h (by show ¬ (u : Int) < 0; omega)
    · exact absurd h (by show ¬ r < 0; omega)
  · refine ⟨by decide, by decide, fun s h => ?_⟩
    exact absurd h (by show ¬ (s : Int) < 0; omega)
  · intro p hp
    refine ⟨Or.inl ⟨rfl, rfl⟩, (by decide : (0 : Int) ≤ 0 ∧ (0 : Int) ≤ 1), fun t h => ?_⟩
    exact absurd h (by show ¬ (t : Int) < 0; omega)
  · intro i j _
    refine ⟨(by decide : (0 : Int) ≤ 0 ∧ (0 : Int) ≤ 24), fun k h => ?_⟩
    exact absurd h (by show ¬ (k : Int) < 3 * 0; omega)
  · exact fun p th t _ _ _ => Or.inl rfl
  · exact ⟨fun t _ _ => rfl, fun t _ => rfl⟩
  · exact ⟨fun p _ => (by decide : (0 : Int) ≤ 3), fun c x _ _ _ => rfl⟩
  · refine ⟨⟨rfl, rfl, rfl, rfl, rfl, rfl, rfl, rfl⟩, ⟨fun t h => ?_, fun t _ => rfl⟩, fun r t _ h => ?_, fun c h => ?_, fun c s h _ => ?_, fun p _ => ⟨rfl, rfl, rfl, rfl⟩, fun p u _ h => ?_, fun p t _ h => ?_, fun p th k _ h _ => ?_, fun s h => ?_, fun s k h _ => ?_⟩
    · exact absurd h (by show ¬ (t : Int) < 0; omega)
    · exact absurd h (by show ¬ (t : Int) < 0; omega)
    · exact absurd h (by show ¬ (c : Int) < 0; omega)
    · exact absurd h (by show ¬ (c : Int) < 0; omega)
    · exact absurd h (by show ¬ (u : Int) < 0; omega)
    · exact absurd h (by show ¬ (t : Int) < 0; omega)
    · exact absurd h (by show ¬ (th : Int) < 0; omega)
    · exact absurd h (by show ¬ (s : Int) < 0; omega)
    · exact absurd h (by show ¬ (s : Int) < 0; omega)
/-! two memories that agree on what is there -/
def zagF (M N : zM) (q : zL) (n t : Nat) : Bool := match t with
  | 1 => decide (M.2.2.2.1 q.1 q.2.1 q.2.2 n = N.2.2.2.1 q.1 q.2.1 q.2.2 n)
  | 2 => decide (M.2.1 q.1 q.2.1 q.2.2 n = N.2.1 q.1 q.2.1 q.2.2 n)
  | _ => decide (M.1 q.1 q.2.1 q.2.2 n = N.1 q.1 q.2.1 q.2.2 n)
def zagA (M N : zM) (q : zL) (n t : Nat) : Bool := match t with
  | 0 => decide (M.1 q.1 q.2.1 q.2.2 n = N.1 q.1 q.2.1 q.2.2 n)
  | 1 => decide (M.1 q.1 q.2.1 q.2.2 n = N.1 q.1 q.2.1 q.2.2 n)
  | 2 => decide (M.2.1 q.1 q.2.1 q.2.2 n = N.2.1 q.1 q.2.1 q.2.2 n)
  | 3 => decide (M.2.2.1 q.1 q.2.1 q.2.2 n = N.2.2.1 q.1 q.2.1 q.2.2 n)
  | _ => decide (M.2.2.2.1 q.1 q.2.1 q.2.2 n = N.2.2.2.1 q.1 q.2.1 q.2.2 n)
def zagB (M N : zM) (q : zL) : Bool := if zcls q.1 < 8 then (List.range (zft (zcls q.1)).length).all (fun n => zagF M N q n ((zft (zcls q.1)).getD n 0)) else (List.range (zarr q.1).2).all (fun n => zagA M N q n (zarr q.1).1)
theorem arrV_ag {c : ClassId} {n : Nat} {f g : Nat → Value} (h : ∀ j, j < n → f j = g j) : arrV c n f = arrV c n g := by
  unfold arrV
  have h2 : (fun j : Fin n => f ↑j) = fun j : Fin n => g ↑j := funext fun j => h j.1 j.2
  rw [h2]
theorem zag_at {E : zEn} {μ ν : zM} {w : zL} (h : zagB μ ν w = true) {H : Heap} (ha : va_at (zD E) zCl (zad E w, zco E μ w) H) : va_at (zD E) zCl (zad E w, zco E ν w) H := by
  unfold zagB at h
  by_cases c : zcls w.1 < 8
  · rw [if_pos c] at h
    have e : zco E ν w = zco E μ w := by
      unfold zco
      rw [if_pos c, if_pos c]
      congr 2
      refine List.map_congr_left fun n hn => ?_
      have h1 := List.all_eq_true.mp h n hn
      generalize (zft (zcls w.1)).getD n 0 = t at h1 ⊢
      match t, h1 with
      | 0, h1 => exact congrArg Value.int (of_decide_eq_true h1).symm
      | 1, h1 => exact congrArg (fun x => va_rf (Option.map (zad E) x)) (of_decide_eq_true h1).symm
      | 2, h1 => exact congrArg Value.long (of_decide_eq_true h1).symm
      | t + 3, h1 => exact congrArg Value.int (of_decide_eq_true h1).symm
    rw [e]
    exact ha
  · rw [if_neg c] at h
    unfold zco at ha ⊢
    rw [if_neg c] at ha ⊢
    unfold va_at at ha ⊢
    rw [ha]
    congr 1
    generalize (zarr w.1).2 = len at h ⊢
    generalize zcy E (zarr w.1).1 = cy
    generalize (zarr w.1).1 = t at h ⊢
    have h1 : ∀ n, n < len → zagA μ ν w n t = true := fun n hn => List.all_eq_true.mp h n (List.mem_range.mpr hn)
    match t, h1 with
    | 0, h1 => exact arrV_ag fun j hj => congrArg Value.int (of_decide_eq_true (h1 j hj))
    | 1, h1 => exact arrV_ag fun j hj => congrArg Value.int (of_decide_eq_true (h1 j hj))
    | 2, h1 => exact arrV_ag fun j hj => congrArg Value.long (of_decide_eq_true (h1 j hj))
    | 3, h1 => exact arrV_ag fun j hj => congrArg Value.double (of_decide_eq_true (h1 j hj))
    | t + 4, h1 => exact arrV_ag fun j hj => congrArg (fun x => va_rf (Option.map (zad E) x)) (of_decide_eq_true (h1 j hj))
theorem zSt_ag {E : zEn} {μ ν : zM} (hc : ν.2.2.2.2 = μ.2.2.2.2) (h : zNm.all (zagB μ ν) = true) {H : Heap} {locs : List Loc} (hS : zSt E μ H locs) : zSt E ν H locs := by
  refine ⟨fun k e he => ?_, hS.2.1, by rw [hc]; exact hS.2.2⟩
  unfold zws at he
  rw [hc] at he
  rw [List.getElem?_map] at he
  cases e1 : (zNm.take μ.2.2.2.2)[k]? with
  | none => rw [e1] at he; cases he
  | some w =>
    rw [e1] at he
    obtain rfl := Option.some.inj he
    refine zag_at (List.all_eq_true.mp h w (List.mem_of_mem_take (List.mem_of_getElem? e1))) (hS.1 k _ ?_)
    unfold zws
    rw [List.getElem?_map, e1]
    rfl
theorem zJ_ag {E : zEn} {m : zMeth} {d mc ms : Nat} {kr : Option zV → zM → Prop} {kx : String → zM → Prop} {μ ν : zM} (hc : ν.2.2.2.2 = μ.2.2.2.2) (h : zNm.all (zagB μ ν) = true) {pc : Nat} {ls : zLs} {st : List zV} {a : Nat × Nat} (hJ : zJ E m d mc ms kr kx pc ls st ν a) : zJ E m d mc ms kr kx pc ls st μ a := by
  unfold zJ at hJ ⊢
  intro p e R s mm args below meth c Q F H locs lsA hS
  exact hJ p e R s mm args below meth c Q F H locs lsA (zSt_ag hc h hS)
