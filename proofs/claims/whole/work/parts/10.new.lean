/-! ===== new objects, arrays of references, copies, calls ===== -/
section ZN
variable {E : zEn} {m : zMeth} {d mc ms : Nat} {kr : Option zV → zM → Prop} {kx : String → zM → Prop} {p : Program} {e : Env} {R : Room} {s : State} {mm : MethodId} {args : Array Value} {below : List Frame} {meth : Method} {c : Code} {Q : State → Prop} {ls : zLs} {st : List zV} {M : zM} {a : Nat × Nat} {k : zKt}
theorem zc11 {α : Type} {f : Nat → List α} {c : Nat} {e : α} (he : e ∈ f c) (h : ∀ c, ¬ c < 11 → f c = []) : c < 11 := by
  by_cases hc : c < 11
  · exact hc
  · rw [h c hc] at he
    cases he
theorem zNew_of {c n i : Nat} (h : (zNew c).any (fun e => e.1 == n && e.2.2.1 == i) = true) : i < 8 ∧ Cond.classLink (zcn c) n (zcn i) ∈ lw_tbl ∧ Cond.instantiable (zcn i) (zft i).length ∈ lw_tbl ∧ Cond.initialized (zcn i) ∈ lw_tbl := by
  obtain ⟨e, he, h1⟩ := List.any_eq_true.mp h
  simp only [Bool.and_eq_true, beq_iff_eq] at h1
  obtain ⟨rfl, rfl⟩ := h1
  have hc : c < 11 := zc11 he (fun c hc => by unfold zNew; split <;> first | omega | rfl)
  have h2 := List.all_eq_true.mp (List.all_eq_true.mp zNew_ok c (List.mem_range.mpr hc)) e he
  unfold zNewB at h2
  simp only [Bool.and_eq_true, decide_eq_true_eq] at h2
  exact ⟨h2.2, List.mem_of_getElem? h2.1.1.1, List.mem_of_getElem? h2.1.1.2, List.mem_of_getElem? h2.1.2⟩
theorem zft_def {i : Nat} (h : i < 8) {r : zL} : ∀ j, j < (zft i).length → defaultValue (ztn i j) = vp_V (zfs E (zal M r) r i) j := by
  intro j hj
  have e : vp_V (zfs E (zal M r) r i) j = zfv E (zal M r) r j ((zft i).getD j 0) := by
    unfold vp_V
    rw [List.getD_eq_getElem?_getD, zfs_get hj]
    rfl
  rw [e]
  have h10 : (List.range 8).all (fun i => (List.range (zft i).length).all (fun j => match (zft i).getD j 0, ztn i j with
    | 0, .int => true
    | 3, .boolean => true
    | 2, .long => true
    | 1, .object _ => true
    | 1, .array _ => true
    | _, _ => false)) = true := by decide +kernel
  have h11 := List.all_eq_true.mp (List.all_eq_true.mp h10 i (List.mem_range.mpr h)) j (List.mem_range.mpr hj)
  have e0 : ∀ {α : Type} (x y : α), (if (r.1 = r.1 ∧ r.2.1 = r.2.1 ∧ r.2.2 = r.2.2) then x else y) = x := fun x y => if_pos ⟨rfl, rfl, rfl⟩
  revert h11
  generalize (zft i).getD j 0 = t
  generalize ztn i j = ty
  intro h11
  have z1 : ∀ x, zfv E (zal M r) r j 1 = x ↔ Value.null = x := by
    intro x
    have : zfv E (zal M r) r j 1 = .null := by
      show va_rf (Option.map _ (if _ then _ else _)) = _
      rw [e0]
      rfl
    rw [this]
  split at h11
  · show _ = Value.int (if _ then _ else _)
    rw [e0]
    rfl
  · show _ = Value.int (if _ then _ else _)
    rw [e0]
    rfl
  · show _ = Value.long (if _ then _ else _)
    rw [e0]
    rfl
  · rw [(z1 _).mpr rfl]
    rfl
  · rw [(z1 _).mpr rfl]
    rfl
  · cases h11
theorem zst_new (h0 : zOk E) (F : zFr E m d mc ms kr kx p e R s mm args below meth c Q) {pc n i : Nat} (hd : decode m.2.1 pc = .ok (.new n, 3)) (hn : (zNew m.2.2.2.2.1).any (fun e => e.1 == n && e.2.2.1 == i) = true) {r : zL} (hr : zNm[M.2.2.2.2]? = some r) (hrc : zcls r.1 = i) (ha1 : a.1 + 1 ≤ mc) (ha2 : a.2 + (zft i).length ≤ ms)
    {H : Heap} {locs : List Loc} {lsA : Array Slot} {stk : List Value} (hS : zSt E M H locs) (kk : ∀ H1, zSt E (zal M r) H1 locs → W p (zl E) e R s mm args below meth c H1 locs (a.1 + 1) (a.2 + (zft i).length) Q (F0 mm (pc + 3) lsA (.ref (zad E r) :: stk))) : W p (zl E) e R s mm args below meth c H locs a.1 a.2 Q (F0 mm pc lsA stk) := by
  obtain ⟨hx, hb, hml, hown, hW, hex, hnm, ⟨hcls, hmB⟩, hR, -⟩ := F
  obtain ⟨h8, w1, w2, w3⟩ := zNew_of hn
  rw [hcls] at hown
  have hK := zK h0 hW
  have hKn := hK.1 i _ (zCl_at h8)
  refine W.newcK hx hb hown (zword h0 hW w1 rfl args) (zword h0 hW w2 rfl args) (zword h0 hW w3 rfl args) rfl hd (by omega) (by omega) hKn.2.1 rfl fun H1 kC hkC e1 z1 o1 => ?_
  obtain ⟨hz, hS1⟩ := zSt_al hS hr z1 o1 (by
    rw [zco_o hrc h8]
    exact ⟨_, zCl_at h8, (u_born (ztn i) (zhts (args := args) h0 hW) (zLays_in h8) hKn hkC e1 (fun k hk => (zTn_all h8 hk).2.1)).to (zft_def h8)⟩)
  rw [hz]
  exact kk H1 hS1
theorem zCll_of {c n : Nat} {X : String} (h : (zCll c).any (fun e => e.1 == n && e.2.2 == X) = true) : Cond.classLink (zcn c) n X ∈ lw_tbl := by
  obtain ⟨e, he, h1⟩ := List.any_eq_true.mp h
  simp only [Bool.and_eq_true, beq_iff_eq] at h1
  obtain ⟨rfl, rfl⟩ := h1
  have hc : c < 11 := zc11 he (fun c hc => by unfold zCll; split <;> first | omega | rfl)
  have h2 := List.all_eq_true.mp (List.all_eq_true.mp zCll_ok c (List.mem_range.mpr hc)) e he
  unfold zCllB at h2
  simp only [decide_eq_true_eq] at h2
  exact List.mem_of_getElem? h2
theorem zAO (h0 : zOk E) (hW : (zs E).WarmedH s.vm) {C : String} (hm : Cond.arrayOver (.object C) ∈ lw_tbl) : va_AO C s := va_AO.moved hW.alike (h0.1 _ hm)
theorem zst_anew (h0 : zOk E) (F : zFr E m d mc ms kr kx p e R s mm args below meth c Q) {pc n t : Nat} {C : String} (hd : decode m.2.1 pc = .ok (.anewarray n, 3)) (hn : Cond.classLink (zcn m.2.2.2.2.1) n C ∈ lw_tbl) (hao : Cond.arrayOver (.object C) ∈ lw_tbl) (ht : 4 ≤ t ∧ t < 8) (hty : (ztys E)[t]? = some (zcy E t, .object C)) {r : zL} {rest : List zV} {x : Int32} (hr : zNm[M.2.2.2.2]? = some r) (hrc : zcls r.1 = 8) (hrt : (zarr r.1).1 = t) (hx0 : ¬ x < 0) (hxn : x.toNatClampNeg = (zarr r.1).2) (hn9 : (zarr r.1).2 ≤ 1000) (ha1 : a.1 + 1 ≤ mc) (ha2 : a.2 + (zarr r.1).2 ≤ ms)
    {H : Heap} {locs : List Loc} {lsA : Array Slot} (hS : zSt E M H locs) (kk : ∀ H1, zSt E (zal M r) H1 locs → W p (zl E) e R s mm args below meth c H1 locs (a.1 + 1) (a.2 + (zarr r.1).2) Q (F0 mm (pc + 3) lsA (.ref (zad E r) :: rest.map (zcv E)))) : W p (zl E) e R s mm args below meth c H locs a.1 a.2 Q (F0 mm pc lsA (.int x :: rest.map (zcv E))) := by
  obtain ⟨hx, hb, hml, hown, hW, hex, hnm, ⟨hcls, hmB⟩, hR, -⟩ := F
  rw [hcls] at hown
  have hK := zK h0 hW
  refine W.anew hx hb hown (zword h0 hW hn rfl args) (va_AO.use (zAO h0 hW hao)) rfl hd rfl hx0 (by rw [hxn]; omega) (by omega) (by omega) fun cA kA comp f1 f2 f3 f4 => ?_
  have hRA := (hK.2 t _ hty).2
  obtain ⟨kA2, comp2, k1, k2, k3, k4⟩ := hRA
  have hcA : cA = zcy E t := Option.some.inj (f1.symm.trans k4)
  subst hcA
  generalize hH1 : H.push ({ cls := zcy E t, slots := Array.replicate x.toNatClampNeg .null, vm := .none } : Cell) = H1
  have z1 : H1.size = H.size + 1 := by rw [← hH1, Array.size_push]
  have e1 : H1[H.size]? = some (arrV (zcy E t) x.toNatClampNeg (fun _ => .null)) := by rw [← hH1, Array.getElem?_push_size, ← arrV_new]
  have o1 : ∀ q : Nat, q < H.size → H1[q]? = H[q]? := fun q hq => by rw [← hH1, Array.getElem?_push, if_neg (Nat.ne_of_lt hq)]
  obtain ⟨hz, hS1⟩ := zSt_al hS hr z1 o1 (by
    rw [zco_a hrc hrt]
    show H1[H.size]? = some (vp_cell _ _)
    rw [e1, zac_al ht.2, hxn]
    match t, ht with
    | 4, _ => rfl
    | 5, _ => rfl
    | 6, _ => rfl
    | 7, _ => rfl)
  rw [hz, hxn]
  exact kk H1 hS1
theorem zst_q (h0 : zOk E) (F : zFr E m d mc ms kr kx p e R s mm args below meth c Q) {pc t i : Nat} (hd : decode m.2.1 pc = .ok (.aastore, 1)) (hti : 4 ≤ t ∧ t < 8) (h8 : i < 8) (hty : (ztys E)[t]? = some (zcy E t, .object (zcn i))) {r w : zL} {rest : List zV} {x : Int32} (ht : (zarr r.1).1 = t) (hm : r ∈ zNm.take M.2.2.2.2) (hw : w ∈ zNm.take M.2.2.2.2) (hwc : zcls w.1 = i) (hi : vp_in x (zarr r.1).2)
    {H : Heap} {locs : List Loc} {lsA : Array Slot} (hS : zSt E M H locs) (kk : ∀ H1 locs1, zSt E (zpr M r x.toNatClampNeg (some w)) H1 locs1 → W p (zl E) e R s mm args below meth c H1 locs1 a.1 a.2 Q (F0 mm (pc + 1) lsA (rest.map (zcv E)))) : W p (zl E) e R s mm args below meth c H locs a.1 a.2 Q (F0 mm pc lsA (.ref (zad E w) :: .int x :: .ref (zad E r) :: rest.map (zcv E))) := by
  obtain ⟨hx, hb, hml, hown, hW, -⟩ := F
  have hK := zK h0 hW
  have hlt : x.toNatClampNeg < (zarr r.1).2 := Nat.not_le.mp fun q => hi (Or.inr q)
  have hx0 : ¬ x < 0 := fun q => hi (Or.inl q)
  have hpw := hS.1 _ _ (zws_get (E := E) hw)
  rw [zco_o hwc h8] at hpw
  obtain ⟨r', hr', cellV, g1, g2, g3, -⟩ := hpw
  have hcls := (hK.1 i _ (zCl_at h8)).2
  obtain ⟨kA, comp, k1, k2, k3, -⟩ := (hK.2 t _ hty).2
  have hcomp : comp = (zD E).1 i := Option.some.inj (k3.symm.trans hcls.1)
  subst hcomp
  obtain ⟨kC, hkC, -⟩ := hcls.2
  have hzr : zac E M r t = .inr (.inr (.inr (.inr (fun n => (M.2.2.2.1 r.1 r.2.1 r.2.2 n).map (zad E))))) := by
    match t, hti with
    | 4, _ => rfl
    | 5, _ => rfl
    | 6, _ => rfl
    | 7, _ => rfl
  have hcell := zat_a hS hm ht hti.2
  rw [hzr] at hcell
  refine W.aast hx hb hcell (fun q h => by cases h) (fun h => by cases h) k1 k2 rfl hkC ⟨hx0, by show _ < (arrV _ _ _).slots.size; rw [arrV_size]; exact hlt⟩ g1 (fun q h => by rw [g3] at h; cases h) (by rw [g2]; exact hkC) (by rw [g2]; exact va_assign hcls) rfl rfl hd fun H1 e1 z oq => ?_
  refine kk H1 _ (zSt_put hS rfl hm (zco_a (zcls_a (zNm_tk hm) (by rw [ht]; exact hti.2)) ht) (fun q hq => zco_pr hq) ?_ z oq)
  have hzr2 : zac E (zpr M r x.toNatClampNeg (some w)) r t = .inr (.inr (.inr (.inr (fun n => ((zpr M r x.toNatClampNeg (some w)).2.2.2.1 r.1 r.2.1 r.2.2 n).map (zad E))))) := by
    match t, hti with
    | 4, _ => rfl
    | 5, _ => rfl
    | 6, _ => rfl
    | 7, _ => rfl
  show H1[zad E r]? = some (vp_cell _ _)
  rw [e1, hzr2]
  rw [vp_cell_q, vp_cell_q, arrV_store]
  congr 2
  funext q
  by_cases hq : q = x.toNatClampNeg
  · subst hq
    simp [updV, zpr, zu, va_rf]
  · simp [updV, zpr, zu, hq]
theorem zInt_of {c n i : Nat} (h : (zInt c).any (fun e => e.1 == n && e.2.1 == i) = true) : ∃ e, zIntB c e = true ∧ e.1 = n ∧ e.2.1 = i := by
  obtain ⟨e, he, h1⟩ := List.any_eq_true.mp h
  simp only [Bool.and_eq_true, beq_iff_eq] at h1
  have hc : c < 11 := zc11 he (fun c hc => by unfold zInt; split <;> first | omega | rfl)
  exact ⟨e, List.all_eq_true.mp (List.all_eq_true.mp zInt_ok c (List.mem_range.mpr hc)) e he, h1⟩
theorem zIntW {c n i : Nat} {y : MethodName} (h : (zInt c).any (fun e => e.1 == n && e.2.1 == i) = true) (hy : zIntN i = y) : Cond.methodLink (zcn c) n y ∈ lw_tbl := by
  obtain ⟨e, h1, rfl, rfl⟩ := zInt_of h
  unfold zIntB at h1
  simp only [decide_eq_true_eq] at h1
  rw [← hy]
  exact List.mem_of_getElem? h1
theorem zcp_i (h0 : zOk E) (F : zFr E m d mc ms kr kx p e R s mm args below meth c Q) {pc index : Nat} (hd : decode m.2.1 pc = .ok (.invokestatic index, 3)) (hint : (zInt m.2.2.2.2.1).any (fun e => e.1 == index && e.2.1 == 3) = true) {r q0 : zL} {rest : List zV} {sp dp n : Int32} (hrs : (rest.map zcat).sum ≤ 100) (ht : (zarr r.1).1 = 0) (ht0 : (zarr q0.1).1 = 0) (hm : r ∈ zNm.take M.2.2.2.2) (hm0 : q0 ∈ zNm.take M.2.2.2.2) (h1 : ¬ sp < 0) (h2 : ¬ dp < 0) (h3 : ¬ n < 0) (h4 : sp.toNatClampNeg + n.toNatClampNeg ≤ (zarr q0.1).2) (h5 : dp.toNatClampNeg + n.toNatClampNeg ≤ (zarr r.1).2) (hne : q0 ≠ r)
    (wl1 : Cond.native arraycopyName ∈ lw_tbl) (wl2 : Cond.static arraycopyName ∈ lw_tbl) (wl3 : Cond.initialized "java/lang/System" ∈ lw_tbl)
    {H : Heap} {locs : List Loc} {lsA : Array Slot} (hsz : lsA.size = m.2.2.1) (hS : zSt E M H locs) (kk : ∀ H1 locs1, zSt E (zcp M q0 r sp.toNatClampNeg dp.toNatClampNeg n.toNatClampNeg) H1 locs1 → W p (zl E) e R s mm args below meth c H1 locs1 a.1 a.2 Q (F0 mm (pc + 3) lsA (rest.map (zcv E)))) : W p (zl E) e R s mm args below meth c H locs a.1 a.2 Q (F0 mm pc lsA (.int n :: .int dp :: .ref (zad E r) :: .int sp :: .ref (zad E q0) :: rest.map (zcv E))) := by
  obtain ⟨hx, hb, hml, hown, hW, hex, hnm, ⟨hcls, hmB⟩, hR, -⟩ := F
  rw [hcls] at hown
  have hK := zK h0 hW
  have nn : ∀ z : Int32, ¬ z < 0 → z.toInt = (z.toNatClampNeg : Int) := by
    intro z hz
    have hz0 : (0 : Int) ≤ z.toInt := by
      have := Int32.not_lt.mp hz
      simpa using Int32.le_iff_toInt_le.mp this
    show z.toInt = ((z.toInt.toNat : Nat) : Int)
    omega
  have hcs : (List.map (fun v => v.category) (rest.map (zcv E))).sum ≤ 100 := by
    rw [List.map_map]
    have : ((fun v : Value => v.category) ∘ zcv E) = zcat := funext fun v => zcat_cv E v
    rw [this]
    exact hrs
  intro T hT X
  have hc0 : H[zad E q0]? = some (vp_cell (zcy E 0) ((zarr q0.1).2, .inl (M.1 q0.1 q0.2.1 q0.2.2))) := zat_a hS hm0 ht0 (by decide)
  have hc1 : H[zad E r]? = some (vp_cell (zcy E 0) ((zarr r.1).2, .inl (M.1 r.1 r.2.1 r.2.2))) := zat_a hS hm ht (by decide)
  obtain ⟨-, k0, hk0, cm0, hkk0⟩ := (hK.2 0 _ rfl).1 (zarr q0.1).2 (fun j => .int (M.1 q0.1 q0.2.1 q0.2.2 j))
  obtain ⟨-, k1, hk1, cm1, hkk1⟩ := (hK.2 0 _ rfl).1 (zarr r.1).2 (fun j => .int (M.1 r.1 r.2.1 r.2.2 j))
  obtain ⟨vm', X', step⟩ := X.arraycopy hx hown (zword h0 hW (zIntW hint rfl) rfl args) (zword h0 hW wl1 rfl args) (zword h0 hW wl2 rfl args) (zword h0 hW wl3 rfl args) (src := zad E q0) (dst := zad E r) (cs := vp_cell (zcy E 0) ((zarr q0.1).2, .inl (M.1 q0.1 q0.2.1 q0.2.2))) (cd := vp_cell (zcy E 0) ((zarr r.1).2, .inl (M.1 r.1 r.2.1 r.2.2))) (srcPos := sp) (destPos := dp) (n := n) (by rw [hT]; exact hc0) (by rw [hT]; exact hc1)
    (fun _ h => by cases h) (fun _ h => by cases h) (fun h => by cases h) (fun h => by cases h) hk0 hk1 hkk0 hkk1 (by simp [refKind]) h1 h2 h3
    (by rw [nn sp h1, nn n h3]; show ¬ _ > ((arrV (zcy E 0) (zarr q0.1).2 (fun j => .int (M.1 q0.1 q0.2.1 q0.2.2 j))).slots.size : Int); rw [arrV_size]; omega)
    (by rw [nn dp h2, nn n h3]; show ¬ _ > ((arrV (zcy E 0) (zarr r.1).2 (fun j => .int (M.1 r.1 r.2.1 r.2.2 j))).slots.size : Int); rw [arrV_size]; omega)
    (fun vm₁ _ i hi => by
      have e : (vp_cell (zcy E 0) ((zarr q0.1).2, .inl (M.1 q0.1 q0.2.1 q0.2.2))).slots.getD (sp.toNatClampNeg + i) .null = .int (M.1 q0.1 q0.2.1 q0.2.2 (sp.toNatClampNeg + i)) := by
        show (arrV (zcy E 0) (zarr q0.1).2 (fun j => .int (M.1 q0.1 q0.2.1 q0.2.2 j))).slots.getD _ _ = _
        rw [Array.getD_eq_getD_getElem?, arrV_read _ _ (by omega)]
        rfl
      refine ⟨?_, ?_⟩
      · rw [e]
        rfl
      · rw [e]
        exact trivial)
    (g := F0 mm pc lsA (.int n :: .int dp :: .ref (zad E r) :: .int sp :: .ref (zad E q0) :: rest.map (zcv E))) rfl (by show lsA.size = _; rw [hml, hsz]) (rest := rest.map (zcv E)) rfl (by rw [hb]; exact hd) (by omega) (by
      show 2 * 0 + _ + (nativeFrameWords "java/lang/System" "arraycopy" 5 + 11) ≤ _
      have : nativeFrameWords "java/lang/System" "arraycopy" 5 + 11 ≤ 200 := by decide +kernel
      omega)
  have e1 : copied (vp_cell (zcy E 0) ((zarr q0.1).2, .inl (M.1 q0.1 q0.2.1 q0.2.2))) (vp_cell (zcy E 0) ((zarr r.1).2, .inl (M.1 r.1 r.2.1 r.2.2))) sp dp n = vp_cell (zcy E 0) ((zarr r.1).2, .inl (va_cpy (M.1 q0.1 q0.2.1 q0.2.2) (M.1 r.1 r.2.1 r.2.2) sp.toNatClampNeg dp.toNatClampNeg n.toNatClampNeg)) := va_copied (fun z => .int z) (zcy E 0) (zcy E 0) (M.1 q0.1 q0.2.1 q0.2.2) (M.1 r.1 r.2.1 r.2.2) h4
  rw [e1] at X' step
  have hl : zad E r < H.size := (Array.getElem?_eq_some_iff.mp hc1).1
  generalize hZ : vp_cell (zcy E 0) ((zarr r.1).2, .inl (va_cpy (M.1 q0.1 q0.2.1 q0.2.2) (M.1 r.1 r.2.1 r.2.2) sp.toNatClampNeg dp.toNatClampNeg n.toNatClampNeg)) = Z at X' step
  have hheap : ((T.setVm vm').setCell (zad E r) Z).heap = H.setIfInBounds (zad E r) Z := by rw [← hT]; rfl
  have oq : ∀ q : Nat, q ≠ zad E r → (H.setIfInBounds (zad E r) Z)[q]? = H[q]? := fun q hq => by simp [Array.getElem?_setIfInBounds, Ne.symm hq]
  have hat : va_at (zD E) zCl (zad E r, .inl (zcy E 0, (zarr r.1).2, zac E (zcp M q0 r sp.toNatClampNeg dp.toNatClampNeg n.toNatClampNeg) r 0)) (H.setIfInBounds (zad E r) Z) := by
    show (H.setIfInBounds (zad E r) Z)[zad E r]? = some (vp_cell _ _)
    have : (H.setIfInBounds (zad E r) Z)[zad E r]? = some Z := by simp [Array.getElem?_setIfInBounds, hl]
    rw [this, ← hZ]
    congr 2
    show ((zarr r.1).2, Sum.inl _) = ((zarr r.1).2, Sum.inl _)
    congr 2
    funext x
    unfold va_cpy zcp
    by_cases g : dp.toNatClampNeg ≤ x ∧ x < dp.toNatClampNeg + n.toNatClampNeg
    · rw [if_pos g]
      show _ = if _ then _ else _
      rw [if_pos ⟨rfl, rfl, rfl, g⟩]
    · rw [if_neg g]
      show _ = if _ then _ else _
      rw [if_neg (fun h => g h.2.2.2)]
  have hS2 := zSt_put (n := 0) hS (M' := zcp M q0 r sp.toNatClampNeg dp.toNatClampNeg n.toNatClampNeg) rfl hm (zco_a (zcls_a (zNm_tk hm) (by rw [ht]; decide)) ht) (fun q hq => zco_cp hq) hat (by simp) oq
  obtain ⟨t, a1, b1⟩ := kk (H.setIfInBounds (zad E r) Z) _ ⟨hS2.1, ⟨hS2.2.1.1, hS2.2.1.2.1, fun q hq => by
      rcases List.mem_append.mp hq with h | h
      · exact hS.2.1.2.2 q h
      · obtain ⟨z, -, hz⟩ := List.mem_map.mp h
        rw [← hz]
        exact (zws_D E M).2 _ _ (zws_get hm)⟩, hS2.2.2⟩ _ hheap X'
  exact ⟨t, step t a1, b1⟩
end ZN
