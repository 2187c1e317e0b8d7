/-! ===== arrays, new cells ===== -/
theorem zarr_cls : (List.range 80).all (fun k => (zarr k).1 == 8 || zcls k == 8) = true := by decide +kernel
set_option maxRecDepth 100000 in
theorem zNm_80 : zNm.all (fun q => decide (q.1 < 80)) = true := by decide +kernel
theorem zcls_a {q : zL} (hm : q ∈ zNm) (h : (zarr q.1).1 < 8) : zcls q.1 = 8 := by
  have h1 := List.all_eq_true.mp zNm_80 q hm
  simp only [decide_eq_true_eq] at h1
  have h2 := List.all_eq_true.mp zarr_cls q.1 (List.mem_range.mpr h1)
  simp only [Bool.or_eq_true, beq_iff_eq] at h2
  rcases h2 with h2 | h2
  · omega
  · exact h2
section ZA
variable {E : zEn} {m : zMeth} {d mc ms : Nat} {kr : Option zV → zM → Prop} {kx : String → zM → Prop} {p : Program} {e : Env} {R : Room} {s : State} {mm : MethodId} {args : Array Value} {below : List Frame} {meth : Method} {c : Code} {Q : State → Prop} {ls : zLs} {st : List zV} {M : zM} {a : Nat × Nat} {k : zKt}
theorem zat_a {H : Heap} {locs : List Loc} (hS : zSt E M H locs) {r : zL} (hm : r ∈ zNm.take M.2.2.2.2) {t : Nat} (ht : (zarr r.1).1 = t) (h8 : t < 8) : H[zad E r]? = some (vp_cell (zcy E t) ((zarr r.1).2, zac E M r t)) := by
  have h := hS.1 _ _ (zws_get (E := E) hm)
  rw [zco_a (zcls_a (zNm_tk hm) (by rw [ht]; exact h8)) ht] at h
  exact h
theorem zArr {t : Nat} {ty : FieldType} (hK : va_K (zD E) zCl (ztys E) s) (ht : (ztys E)[t]? = some (zcy E t, ty)) : ArrOfT s (zcy E t) ty := (hK.2 t _ ht).1
theorem zst_i (h0 : zOk E) (F : zFr E m d mc ms kr kx p e R s mm args below meth c Q) {pc : Nat} (hd : decode m.2.1 pc = .ok (.iastore, 1)) {r : zL} {rest : List zV} {x v : Int32} (ht : (zarr r.1).1 = 0) (hm : r ∈ zNm.take M.2.2.2.2) (hi : vp_in x (zarr r.1).2)
    {H : Heap} {locs : List Loc} {lsA : Array Slot} (hS : zSt E M H locs) (kk : ∀ H1 locs1, zSt E (zpi M r x.toNatClampNeg v) H1 locs1 → W p (zl E) e R s mm args below meth c H1 locs1 a.1 a.2 Q (F0 mm (pc + 1) lsA (rest.map (zcv E)))) : W p (zl E) e R s mm args below meth c H locs a.1 a.2 Q (F0 mm pc lsA (.int v :: .int x :: .ref (zad E r) :: rest.map (zcv E))) := by
  obtain ⟨hx, hb, hml, hown, hW, -⟩ := F
  have hK := zK h0 hW
  refine W.iast hx hb (zat_a hS hm ht (by decide)) (zArr (t := 0) hK rfl _ (fun j => .int (M.1 r.1 r.2.1 r.2.2 j))) (fun q => by cases q) (by show ¬ (x < 0 ∨ (arrV _ _ _).slots.size ≤ _); rw [arrV_size]; exact hi) rfl rfl hd fun H1 e1 z oq => ?_
  refine kk H1 _ (zSt_put hS rfl hm (zco_a (zcls_a (zNm_tk hm) (by rw [ht]; decide)) ht) (fun q hq => zco_pi hq) ?_ z oq)
  show H1[zad E r]? = some (vp_cell _ _)
  rw [e1]
  show some ((arrV (zcy E 0) (zarr r.1).2 (fun j => .int (M.1 r.1 r.2.1 r.2.2 j))).setSlot _ _) = some (arrV (zcy E 0) (zarr r.1).2 (fun j => .int ((zpi M r x.toNatClampNeg v).1 r.1 r.2.1 r.2.2 j)))
  rw [arrV_store]
  congr 2
  funext q
  by_cases hq : q = x.toNatClampNeg
  · subst hq
    simp [updV, zpi, zu]
  · simp [updV, zpi, zu, hq]
theorem zst_z (h0 : zOk E) (F : zFr E m d mc ms kr kx p e R s mm args below meth c Q) {pc : Nat} (hd : decode m.2.1 pc = .ok (.bastore, 1)) {r : zL} {rest : List zV} {x v : Int32} (ht : (zarr r.1).1 = 1) (hm : r ∈ zNm.take M.2.2.2.2) (hi : vp_in x (zarr r.1).2) (hv : vp_nar .boolean v = v)
    {H : Heap} {locs : List Loc} {lsA : Array Slot} (hS : zSt E M H locs) (kk : ∀ H1 locs1, zSt E (zpi M r x.toNatClampNeg v) H1 locs1 → W p (zl E) e R s mm args below meth c H1 locs1 a.1 a.2 Q (F0 mm (pc + 1) lsA (rest.map (zcv E)))) : W p (zl E) e R s mm args below meth c H locs a.1 a.2 Q (F0 mm pc lsA (.int v :: .int x :: .ref (zad E r) :: rest.map (zcv E))) := by
  obtain ⟨hx, hb, hml, hown, hW, -⟩ := F
  have hK := zK h0 hW
  refine W.zast hx hb (zat_a hS hm ht (by decide)) (zArr (t := 1) hK rfl _ (fun j => .int (M.1 r.1 r.2.1 r.2.2 j))) (fun q => by cases q) (by show ¬ (x < 0 ∨ (arrV _ _ _).slots.size ≤ _); rw [arrV_size]; exact hi) rfl rfl hd fun H1 e1 z oq => ?_
  have e3 : narrow .boolean (.int v) = .int v := by
    have h9 : narrow .boolean (.int v) = .int (vp_nar .boolean v) := rfl
    rw [h9, hv]
  rw [e3] at e1
  refine kk H1 _ (zSt_put hS rfl hm (zco_a (zcls_a (zNm_tk hm) (by rw [ht]; decide)) ht) (fun q hq => zco_pi hq) ?_ z oq)
  show H1[zad E r]? = some (vp_cell _ _)
  rw [e1]
  show some ((arrV (zcy E 1) (zarr r.1).2 (fun j => .int (M.1 r.1 r.2.1 r.2.2 j))).setSlot _ _) = some (arrV (zcy E 1) (zarr r.1).2 (fun j => .int ((zpi M r x.toNatClampNeg v).1 r.1 r.2.1 r.2.2 j)))
  rw [arrV_store]
  congr 2
  funext q
  by_cases hq : q = x.toNatClampNeg
  · subst hq
    simp [updV, zpi, zu]
  · simp [updV, zpi, zu, hq]
theorem zst_l (h0 : zOk E) (F : zFr E m d mc ms kr kx p e R s mm args below meth c Q) {pc : Nat} (hd : decode m.2.1 pc = .ok (.lastore, 1)) {r : zL} {rest : List zV} {x : Int32} {v : Int64} (ht : (zarr r.1).1 = 2) (hm : r ∈ zNm.take M.2.2.2.2) (hi : vp_in x (zarr r.1).2)
    {H : Heap} {locs : List Loc} {lsA : Array Slot} (hS : zSt E M H locs) (kk : ∀ H1 locs1, zSt E (zpl M r x.toNatClampNeg v) H1 locs1 → W p (zl E) e R s mm args below meth c H1 locs1 a.1 a.2 Q (F0 mm (pc + 1) lsA (rest.map (zcv E)))) : W p (zl E) e R s mm args below meth c H locs a.1 a.2 Q (F0 mm pc lsA (.long v :: .int x :: .ref (zad E r) :: rest.map (zcv E))) := by
  obtain ⟨hx, hb, hml, hown, hW, -⟩ := F
  have hK := zK h0 hW
  refine W.last hx hb (zat_a hS hm ht (by decide)) (zArr (t := 2) hK rfl _ (fun j => .long (M.2.1 r.1 r.2.1 r.2.2 j))) (fun q => by cases q) (by show ¬ (x < 0 ∨ (arrV _ _ _).slots.size ≤ _); rw [arrV_size]; exact hi) rfl rfl hd fun H1 e1 z oq => ?_
  refine kk H1 _ (zSt_put hS rfl hm (zco_a (zcls_a (zNm_tk hm) (by rw [ht]; decide)) ht) (fun q hq => zco_pl hq) ?_ z oq)
  show H1[zad E r]? = some (vp_cell _ _)
  rw [e1]
  show some ((arrV (zcy E 2) (zarr r.1).2 (fun j => .long (M.2.1 r.1 r.2.1 r.2.2 j))).setSlot _ _) = some (arrV (zcy E 2) (zarr r.1).2 (fun j => .long ((zpl M r x.toNatClampNeg v).2.1 r.1 r.2.1 r.2.2 j)))
  rw [arrV_store]
  congr 2
  funext q
  by_cases hq : q = x.toNatClampNeg
  · subst hq
    simp [updV, zpl, zu]
  · simp [updV, zpl, zu, hq]
theorem zst_d (h0 : zOk E) (F : zFr E m d mc ms kr kx p e R s mm args below meth c Q) {pc : Nat} (hd : decode m.2.1 pc = .ok (.dastore, 1)) {r : zL} {rest : List zV} {x : Int32} {v : UInt64} (ht : (zarr r.1).1 = 3) (hm : r ∈ zNm.take M.2.2.2.2) (hi : vp_in x (zarr r.1).2)
    {H : Heap} {locs : List Loc} {lsA : Array Slot} (hS : zSt E M H locs) (kk : ∀ H1 locs1, zSt E (zpd M r x.toNatClampNeg v) H1 locs1 → W p (zl E) e R s mm args below meth c H1 locs1 a.1 a.2 Q (F0 mm (pc + 1) lsA (rest.map (zcv E)))) : W p (zl E) e R s mm args below meth c H locs a.1 a.2 Q (F0 mm pc lsA (.double v :: .int x :: .ref (zad E r) :: rest.map (zcv E))) := by
  obtain ⟨hx, hb, hml, hown, hW, -⟩ := F
  have hK := zK h0 hW
  refine W.dast hx hb (zat_a hS hm ht (by decide)) (zArr (t := 3) hK rfl _ (fun j => .double (M.2.2.1 r.1 r.2.1 r.2.2 j))) (fun q => by cases q) (by show ¬ (x < 0 ∨ (arrV _ _ _).slots.size ≤ _); rw [arrV_size]; exact hi) rfl rfl hd fun H1 e1 z oq => ?_
  refine kk H1 _ (zSt_put hS rfl hm (zco_a (zcls_a (zNm_tk hm) (by rw [ht]; decide)) ht) (fun q hq => zco_pd hq) ?_ z oq)
  show H1[zad E r]? = some (vp_cell _ _)
  rw [e1]
  show some ((arrV (zcy E 3) (zarr r.1).2 (fun j => .double (M.2.2.1 r.1 r.2.1 r.2.2 j))).setSlot _ _) = some (arrV (zcy E 3) (zarr r.1).2 (fun j => .double ((zpd M r x.toNatClampNeg v).2.2.1 r.1 r.2.1 r.2.2 j)))
  rw [arrV_store]
  congr 2
  funext q
  by_cases hq : q = x.toNatClampNeg
  · subst hq
    simp [updV, zpd, zu]
  · simp [updV, zpd, zu, hq]
/-- a new cell -/
theorem zSt_al {H H1 : Heap} {locs : List Loc} {r : zL} (hS : zSt E M H locs) (hr : zNm[M.2.2.2.2]? = some r) (z : H1.size = H.size + 1) (oq : ∀ q : Nat, q < H.size → H1[q]? = H[q]?) (hat : va_at (zD E) zCl (H.size, zco E (zal M r) r) H1) : H.size = zad E r ∧ zSt E (zal M r) H1 locs := by
  obtain ⟨hP, hS, hz⟩ := hS
  have hl : M.2.2.2.2 < zNm.length := (List.getElem?_eq_some_iff.mp hr).1
  have hsz := hz hl
  have ha : zad E r = H.size := by rw [zad_at hr, hsz]
  refine ⟨ha.symm, ?_, ⟨by rw [z]; exact Nat.le_succ_of_le hS.1, fun q h1 h2 => ?_, hS.2.2⟩, fun _ => ?_⟩
  · intro i x hx
    obtain ⟨q, hq, hi, rfl, -⟩ := zws_of hx
    have hi : i < M.2.2.2.2 + 1 := hi
    by_cases e : i = M.2.2.2.2
    · subst e
      rw [hr] at hq
      cases hq
      show va_at (zD E) zCl (zad E r, zco E (zal M r) r) H1
      rw [ha]
      exact hat
    · have hm : q ∈ zNm.take M.2.2.2.2 := List.mem_of_getElem? (i := i) (by rw [List.getElem?_take, if_pos (by omega)]; exact hq)
      have hne : q ≠ r := by
        intro h
        subst h
        exact e ((zNm_at hq).symm.trans (zNm_at hr))
      have h1 := hP _ _ (zws_get (E := E) hm)
      rw [zco_al hne]
      exact h1.kept (oq _ (va_at.lt h1))
  · rw [oq q (Nat.lt_of_lt_of_le h1 hS.1)]
    exact hS.2.1 q h1 h2
  · show H1.size = zsz E + (M.2.2.2.2 + 1)
    omega
theorem zac_al {t : Nat} {r : zL} (h : t < 8) : zac E (zal M r) r t = match t with
    | 0 => .inl (fun _ => 0)
    | 1 => .inl (fun _ => 0)
    | 2 => .inr (.inl (fun _ => 0))
    | 3 => .inr (.inr (.inr (.inl (fun _ => 0))))
    | _ => .inr (.inr (.inr (.inr (fun _ => none)))) := by
  have e : ∀ {α : Type} (x y : α), (if (r.1 = r.1 ∧ r.2.1 = r.2.1 ∧ r.2.2 = r.2.2) then x else y) = x := fun x y => if_pos ⟨rfl, rfl, rfl⟩
  match t, h with
  | 0, _ => unfold zac zal; exact congrArg Sum.inl (funext fun _ => e _ _)
  | 1, _ => unfold zac zal; exact congrArg Sum.inl (funext fun _ => e _ _)
  | 2, _ => unfold zac zal; exact congrArg (fun f => Sum.inr (Sum.inl f)) (funext fun _ => e _ _)
  | 3, _ => unfold zac zal; exact congrArg (fun f => Sum.inr (Sum.inr (Sum.inr (Sum.inl f)))) (funext fun _ => e _ _)
  | 4, _ => unfold zac zal; exact congrArg (fun f => Sum.inr (Sum.inr (Sum.inr (Sum.inr f)))) (funext fun _ => congrArg (Option.map (zad E)) (e _ _))
  | 5, _ => unfold zac zal; exact congrArg (fun f => Sum.inr (Sum.inr (Sum.inr (Sum.inr f)))) (funext fun _ => congrArg (Option.map (zad E)) (e _ _))
  | 6, _ => unfold zac zal; exact congrArg (fun f => Sum.inr (Sum.inr (Sum.inr (Sum.inr f)))) (funext fun _ => congrArg (Option.map (zad E)) (e _ _))
  | 7, _ => unfold zac zal; exact congrArg (fun f => Sum.inr (Sum.inr (Sum.inr (Sum.inr f)))) (funext fun _ => congrArg (Option.map (zad E)) (e _ _))
theorem zst_newa (h0 : zOk E) (F : zFr E m d mc ms kr kx p e R s mm args below meth c Q) {pc t : Nat} {at9 : ArrayType} {ty : FieldType} (hty : newarray.typeOf at9 = ty) (hd : decode m.2.1 pc = .ok (.newarray at9, 2)) (hw : Cond.arrayClass ty ∈ lw_tbl) (ht8 : t < 4) (hb9 : componentBytes ty ≤ 8)
    (hdef : ∀ (cA : ClassId) (n : Nat) (r : zL), vp_cell cA (n, zac E (zal M r) r t) = arrV cA n (fun _ => defaultValue ty)) {r : zL} {rest : List zV} {x : Int32} (hr : zNm[M.2.2.2.2]? = some r) (hrc : zcls r.1 = 8) (hrt : (zarr r.1).1 = t) (hx0 : ¬ x < 0) (hxn : x.toNatClampNeg = (zarr r.1).2) (hn9 : (zarr r.1).2 ≤ 1000) (ha1 : a.1 + 1 ≤ mc) (ha2 : a.2 + (zarr r.1).2 ≤ ms) (hRA : ∀ cA, s.vm.findClass ("[" ++ ty.toString) = some cA → cA = zcy E t)
    {H : Heap} {locs : List Loc} {lsA : Array Slot} (hS : zSt E M H locs) (kk : ∀ H1, zSt E (zal M r) H1 locs → W p (zl E) e R s mm args below meth c H1 locs (a.1 + 1) (a.2 + (zarr r.1).2) Q (F0 mm (pc + 2) lsA (.ref (zad E r) :: rest.map (zcv E)))) : W p (zl E) e R s mm args below meth c H locs a.1 a.2 Q (F0 mm pc lsA (.int x :: rest.map (zcv E))) := by
  obtain ⟨hx, hb, hml, hown, hW, hex, hnm, ⟨hcls, hmB⟩, hR, -⟩ := F
  subst hty
  refine va_newaK hx hb (zword h0 hW hw rfl args) rfl hd rfl hx0 hxn ?_ (by omega) (by omega) rfl fun H1 cA e1 z1 o1 hAr hNm => ?_
  · calc (zarr r.1).2 * componentBytes (newarray.typeOf at9) ≤ 1000 * 8 := Nat.mul_le_mul hn9 hb9
      _ ≤ 536870912 := by decide
  · have hcA := hRA cA hNm
    subst hcA
    obtain ⟨hz, hS1⟩ := zSt_al hS hr z1 o1 (by
      rw [zco_a hrc hrt]
      show H1[H.size]? = some (vp_cell _ _)
      rw [hdef]
      exact e1)
    rw [hz]
    exact kk H1 hS1
end ZA
