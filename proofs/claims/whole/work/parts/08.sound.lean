/-! ===== the machine goes as the abstract machine says ===== -/
abbrev zcL (E : zEn) (ls : zLs) : List (Nat × Value) := ls.map (fun q => (q.1, zcv E q.2))
def zrins (ins : Instr) (v : Option zV) : Prop := (ins = .return_ ∧ v = none) ∨ (ins = .ireturn ∧ ∃ x, v = some (.inl (.int x))) ∨ (ins = .lreturn ∧ ∃ x, v = some (.inl (.long x))) ∨ (ins = .freturn ∧ ∃ x, v = some (.inl (.float x))) ∨ (ins = .dreturn ∧ ∃ x, v = some (.inl (.double x))) ∨ (ins = .areturn ∧ ∃ x, v = some (.inr x))
/-- where a frame of the method m stands, and that its ends lead to Q -/
def zFr (E : zEn) (m : zMeth) (d mc ms : Nat) (kr : Option zV → zM → Prop) (kx : String → zM → Prop) (p : Program) (e : Env) (R : Room) (s : State) (mm : MethodId) (args : Array Value) (below : List Frame) (meth : Method) (c : Code) (Q : State → Prop) : Prop :=
  p.tables.exec = Jvm.exec ∧ c.code = m.2.1 ∧ c.maxLocals = m.2.2.1 ∧ s.vm.findClass m.1.cls = some mm.cls ∧ (zs E).WarmedH s.vm ∧ c.exceptionTable.toList = tableOf m.2.2.2.2.2 ∧ meth.name = m.1.name ∧ (m.1.cls = zcn m.2.2.2.2.1 ∧ zmB m = true) ∧ (d + 8 ≤ R.frames ∧ 40 * d + 400 ≤ R.locals ∧ mc ≤ R.cells ∧ ms ≤ R.slots) ∧
  (∀ (H : Heap) (locs : List Loc) (lsA : Array Slot) (M : zM) (a : Nat × Nat) (v : Option zV) (pc : Nat) (ins : Instr), zSt E M H locs → kr v M → zretok m.2.2.2.1 v → a.1 ≤ mc → a.2 ≤ ms → decode m.2.1 pc = .ok (ins, 1) → zrins ins v → W p (zl E) e R s mm args below meth c H locs a.1 a.2 Q (F0 mm pc lsA (v.map (zcv E)).toList)) ∧
  (∀ (H : Heap) (locs : List Loc) (lsA : Array Slot) (M : zM) (a : Nat × Nat) (pc n : Nat) (i j t : Nat) (cc : Int32) (tx : String) (rest : List Value), zSt E M H locs → 176 ≤ M.2.2.2.2 → kx tx M → a.1 + 1 ≤ mc → a.2 + 6 ≤ ms → (rest.map fun v => v.category).sum ≤ 100 → lsA.size = m.2.2.1 → ¬ i < 8 → zrb m (pc, .new n, 3, (i, j, t), cc, tx) = true → W p (zl E) e R s mm args below meth c H locs a.1 a.2 Q (F0 mm pc lsA rest)) ∧
  (∀ (X : String) (H : Heap) (locs : List Loc) (lsA : Array Slot) (M : zM) (a : Nat × Nat) (pc : Nat) (w : Nat) (ce : Cell) (rest : List Value), zSt E M H locs → kx X M → a.1 ≤ mc → a.2 ≤ ms → H[w]? = some ce → ce.vm = .none → s.vm.findClass X = some ce.cls → zhand m pc X = none → vx_W p (zl E) e R s mm args below meth c H locs a.1 a.2 Q (F0 mm pc lsA rest) w)
/-- at an abstract state: from every heap that holds it, the machine comes to Q -/
def zWw (E : zEn) (m : zMeth) (mc ms : Nat) (p : Program) (e : Env) (R : Room) (s : State) (mm : MethodId) (args : Array Value) (below : List Frame) (meth : Method) (c : Code) (Q : State → Prop) : zKt := fun pc ls st M a =>
  ∀ (H : Heap) (locs : List Loc) (lsA : Array Slot), zSt E M H locs → lv_has lsA m.2.2.1 (zcL E ls) → a.1 ≤ mc → a.2 ≤ ms → W p (zl E) e R s mm args below meth c H locs a.1 a.2 Q (F0 mm pc lsA (st.map (zcv E)))
theorem zrb_len {m : zMeth} {q : zIn} (h : zrb m q = true) : decode m.2.1 q.1 = .ok (q.2.1, q.2.2.1) := by
  obtain ⟨pc, ins, len, ⟨i, j, t⟩, c, tx⟩ := q
  unfold zrb at h
  simp only [Bool.and_eq_true, decide_eq_true_eq] at h
  exact h.1
theorem zSt_put {E : zEn} {M M' : zM} {H H1 : Heap} {locs : List Loc} {q : zL} {e : va_E} {n : Nat} (hS : zSt E M H locs) (hc : M'.2.2.2.2 = M.2.2.2.2) (hq : q ∈ zNm.take M.2.2.2.2) (he : zco E M' q = e) (ho : ∀ r : zL, r ≠ q → zco E M' r = zco E M r) (hat : va_at (zD E) zCl (zad E q, e) H1) (z : H1.size = H.size) (oq : ∀ a : Nat, a ≠ zad E q → H1[a]? = H[a]?) : zSt E M' H1 (locs ++ [⟨zad E q, n⟩]) := by
  obtain ⟨hP, hS, hz⟩ := hS
  refine ⟨?_, hS.put z oq ((zws_D E M).2 _ _ (zws_get hq)), by rw [hc, z]; exact hz⟩
  rw [← zws_set hc hq he ho]
  exact hP.set (zws_D E M) (zws_get hq) hat oq
theorem zSt_locs {E : zEn} {M : zM} {H : Heap} {locs : List Loc} (h : zSt E M H locs) : zSt E M H [] := ⟨h.1, ⟨h.2.1.1, h.2.1.2.1, fun _ h => by cases h⟩, h.2.2⟩
theorem zSt_back {E : zEn} {M : zM} {H : Heap} {locs L : List Loc} (h : zSt E M H []) (h1 : ∀ z ∈ locs, zA E z.base) (h2 : ∀ z ∈ L, zA E z.base) : zSt E M H (locs ++ L) := ⟨h.1, ⟨h.2.1.1, h.2.1.2.1, fun z hz => (List.mem_append.mp hz).elim (h1 z) (h2 z)⟩, h.2.2⟩
section ZS
variable {E : zEn} {m : zMeth} {d mc ms : Nat} {kr : Option zV → zM → Prop} {kx : String → zM → Prop} {p : Program} {e : Env} {R : Room} {s : State} {mm : MethodId} {args : Array Value} {below : List Frame} {meth : Method} {c : Code} {Q : State → Prop} {ls : zLs} {st : List zV} {M : zM} {a : Nat × Nat} {k : zKt}
theorem zFld_of {c n i j t : Nat} (h : (zFld c).any (fun e => e.1 == n && e.2.2.1 == i && e.2.2.2.1 == j && e.2.2.2.2.1 == t) = true) : i < 8 ∧ j < (zft i).length ∧ (zft i).getD j 0 = t ∧ (zTn i j).2.2.2 = (t == 1) ∧ (Cond.fieldLink (zcn c) n (zcn i) (zTn i j).2.1 (zTn i j).2.2.1 ∈ lw_tbl ∨ ∃ host, Cond.fieldLinkNest (zcn c) n (zcn i) (zTn i j).2.1 (zTn i j).2.2.1 host ∈ lw_tbl) := by
  obtain ⟨e, he, h1⟩ := List.any_eq_true.mp h
  simp only [Bool.and_eq_true, beq_iff_eq] at h1
  obtain ⟨⟨⟨rfl, rfl⟩, rfl⟩, rfl⟩ := h1
  have hc : c < 11 := by
    by_cases hc : c < 11
    · exact hc
    · exfalso
      have : zFld c = [] := by
        unfold zFld
        split <;> first | omega | rfl
      rw [this] at he
      cases he
  have h2 := List.all_eq_true.mp (List.all_eq_true.mp zFld_ok c (List.mem_range.mpr hc)) e he
  unfold zFldB at h2
  simp only [Bool.and_eq_true, decide_eq_true_eq, beq_iff_eq] at h2
  obtain ⟨⟨⟨⟨h3, h4⟩, h5⟩, h6⟩, h7⟩ := h2
  refine ⟨h4, h5, h6, h7, ?_⟩
  by_cases hh : e.2.2.2.2.2 = ""
  · rw [if_pos hh] at h3
    exact Or.inl (List.mem_of_getElem? h3)
  · rw [if_neg hh] at h3
    exact Or.inr ⟨_, List.mem_of_getElem? h3⟩
theorem zCl_at {i : Nat} (h : i < 8) : zCl[i]? = some (zcn i, zTn i, (zft i).length) := by
  match i, h with
  | 0, _ => rfl
  | 1, _ => rfl
  | 2, _ => rfl
  | 3, _ => rfl
  | 4, _ => rfl
  | 5, _ => rfl
  | 6, _ => rfl
  | 7, _ => rfl
theorem zLays_in {i : Nat} (h : i < 8) : ∀ w ∈ u_ws (zcn i) (zTn i) (zft i).length, w ∈ lw_tbl.filter goodWord := by
  intro w hw
  have h1 := List.all_eq_true.mp zLays_ok i (List.mem_range.mpr h)
  unfold zLaysB at h1
  have h2 := List.all_eq_true.mp h1 w hw
  simp only [Bool.and_eq_true, decide_eq_true_eq] at h2
  exact List.mem_filter.mpr h2
theorem zhts (h0 : zOk E) (hW : (zs E).WarmedH s.vm) : ∀ w ∈ lw_tbl.filter goodWord, w.before args s = true := fun w hw => zword h0 hW (List.mem_filter.mp hw).1 (List.mem_filter.mp hw).2 args
theorem zTn_all {i j : Nat} (h : i < 8) (hj : j < (zft i).length) : (zTn i j).1 = zcn i ∧ parseFieldDescriptor (zTn i j).2.2.1 = some (ztn i j) ∧ ∀ k, k < (zft i).length → k ≠ j → (zTn i j).2.1 ≠ (zTn i k).2.1 := by
  have h1 := List.all_eq_true.mp (List.all_eq_true.mp zTn_c i (List.mem_range.mpr h)) j (List.mem_range.mpr hj)
  simp only [Bool.and_eq_true, beq_iff_eq, decide_eq_true_eq] at h1
  refine ⟨h1.1.1, h1.1.2, fun k hk hne => ?_⟩
  have h2 := List.all_eq_true.mp h1.2 k (List.mem_range.mpr hk)
  simp only [Bool.or_eq_true, beq_iff_eq, bne_iff_ne] at h2
  exact h2.resolve_left hne
theorem zwordF (h0 : zOk E) (hW : (zs E).WarmedH s.vm) {b n f : String} {i : Nat} {o h : String} (hm : Cond.fieldLinkNest o i b n f h ∈ lw_tbl) : (Cond.fieldLinkNest o i b n f h).before args s = true := va_Nw.use rfl (va_Nw.warmF hW (va_Nw.of rfl (h0.1 _ hm)))
theorem zwordM (h0 : zOk E) (hW : (zs E).WarmedH s.vm) {i : Nat} {o h : String} {y : MethodName} (hm : Cond.methodLinkNest o i y h ∈ lw_tbl) : (Cond.methodLinkNest o i y h).before args s = true := va_Nw.use rfl (va_Nw.warmM hW (va_Nw.of rfl (h0.1 _ hm)))
set_option maxHeartbeats 1000000 in
theorem zs_getfield (h0 : zOk E) (F : zFr E m d mc ms kr kx p e R s mm args below meth c Q) {pc n i j t : Nat} (hd : decode m.2.1 pc = .ok (.getfield n, 3)) (hf : (zFld m.2.2.2.2.1).any (fun e => e.1 == n && e.2.2.1 == i && e.2.2.2.1 == j && e.2.2.2.2.1 == t) = true)
    {r : zL} {rest : List zV} {v : Value} (hr : zcls r.1 = i) (hm : r ∈ zNm.take M.2.2.2.2) (hv : zfv E M r j t = v) {H : Heap} {locs : List Loc} {lsA : Array Slot} (hS : zSt E M H locs) (kk : W p (zl E) e R s mm args below meth c H locs a.1 a.2 Q (F0 mm (pc + 3) lsA (v :: rest.map (zcv E)))) : W p (zl E) e R s mm args below meth c H locs a.1 a.2 Q (F0 mm pc lsA ((.inr r :: rest).map (zcv E))) := by
  obtain ⟨hx, hb, hml, hown, hW, hex, hnm, ⟨hcls, hmB⟩, hR, h1, h2, h3⟩ := F
  obtain ⟨g1, g2, g3, g4, g5⟩ := zFld_of hf
  rw [hcls] at hown
  have hts := zhts (args := args) h0 hW
  have hK := zK h0 hW
  have hpl := zws_get (E := E) hm
  rw [zco_o hr g1] at hpl
  have hv2 : (zfs E M r i)[j]? = some v := by rw [zfs_get g2, g3, hv]
  have e9 := (zTn_all g1 g2).1
  rcases g5 with g5 | ⟨host, g5⟩
  · exact va_get (C := zcn i) (T := zTn i) hx hb hts (zLays_in g1) hown hK hS.1 _ hpl (zCl_at g1) j g2 (zword h0 hW g5 rfl args) (fun x9 h9 => by rw [e9] at h9; exact h9) hv2 hd kk
  · exact va_getN (C := zcn i) (T := zTn i) hx hb hts (zLays_in g1) hown hK hS.1 _ hpl (zCl_at g1) j g2 (zwordF h0 hW g5) (fun x9 h9 => by rw [e9] at h9; exact h9) hv2 hd kk
set_option maxHeartbeats 1000000 in
theorem zs_putfield (h0 : zOk E) (F : zFr E m d mc ms kr kx p e R s mm args below meth c Q) {pc n i j t : Nat} (hd : decode m.2.1 pc = .ok (.putfield n, 3)) (hf : (zFld m.2.2.2.2.1).any (fun e => e.1 == n && e.2.2.1 == i && e.2.2.2.1 == j && e.2.2.2.2.1 == t) = true)
    {r : zL} {rest : List zV} {v : Value} {M' : zM} (hr : zcls r.1 = i) (hm : r ∈ zNm.take M.2.2.2.2) (ht : t ≠ 1) (hn : narrow (ztn i j) v = v) (hfit : fits (ztn i j) v = true) (hc : M'.2.2.2.2 = M.2.2.2.2) (hM : (zfs E M r i).set j v = zfs E M' r i) (ho : ∀ q : zL, q ≠ r → zco E M' q = zco E M q)
    {H : Heap} {locs : List Loc} {lsA : Array Slot} (hS : zSt E M H locs) (kk : ∀ H1 locs1, zSt E M' H1 locs1 → W p (zl E) e R s mm args below meth c H1 locs1 a.1 a.2 Q (F0 mm (pc + 3) lsA (rest.map (zcv E)))) : W p (zl E) e R s mm args below meth c H locs a.1 a.2 Q (F0 mm pc lsA (v :: .ref (zad E r) :: rest.map (zcv E))) := by
  obtain ⟨hx, hb, hml, hown, hW, hex, hnm, ⟨hcls, hmB⟩, hR, h1, h2, h3⟩ := F
  obtain ⟨g1, g2, g3, g4, g5⟩ := zFld_of hf
  rw [hcls] at hown
  have hts := zhts (args := args) h0 hW
  have hK := zK h0 hW
  have hpl := zws_get (E := E) hm
  rw [zco_o hr g1] at hpl
  obtain ⟨e9, hty, -⟩ := zTn_all g1 g2
  have hfin : (zTn i j).2.2.2 = false := by rw [g4]; simpa using ht
  have hap := va_apart (own := zcn m.2.2.2.2.1) hts (zLays_in g1) (ztn i) (fun k hk => (zTn_all g1 hk).2.1) (fun x hx y hy hxy => (zTn_all g1 hx).2.2 y hy (fun h => hxy h.symm)) hK (zCl_at g1)
  obtain ⟨r9, h1', cell, q1, q2, q3, q4⟩ := hS.1 _ _ hpl
  have hr9 : r9 = (zcn i, zTn i, (zft i).length) := Option.some.inj (h1'.symm.trans (zCl_at g1))
  subst hr9
  obtain ⟨hS9, hfc, kC, hkC, hkind⟩ := hK.1 i _ (zCl_at g1)
  obtain ⟨cf, kf, fi, f, hi, hsl⟩ := hS9 j g2
  have hlay := hts _ (zLays_in g1 _ (u_in_lay g2))
  unfold u_lay at hlay
  rw [if_neg (by rw [hfin]; decide)] at hlay
  have hst := (u_facts hfc hkC (u_lays hts (zLays_in g1) g2) hi).1
  have h6 := u_store hfc hkC hkind hlay hi hty hn hfit
  have hll : j < (zfs E M r i).length := by
    have := zfs_get (E := E) (M := M) (q := r) g2
    exact (List.getElem?_eq_some_iff.mp this).1
  have fin : ∀ H', H'[zad E r]? = some (cell.setSlot f.slot v) → H'.size = H.size → (∀ q, q ≠ zad E r → H'[q]? = H[q]?) → W p (zl E) e R s mm args below meth c H' (locs ++ [⟨zad E r, f.slot⟩]) a.1 a.2 Q (F0 mm (pc + 3) lsA (rest.map (zcv E))) := by
    intro H' e1 e2 e3
    refine kk H' _ (zSt_put hS hc hm (zco_o hr g1) ho ?_ e2 e3)
    rw [← hM]
    rw [hsl] at e1
    exact ⟨_, zCl_at g1, t_OB.to (V := updV (vp_V (zfs E M r i)) j v) ⟨_, e1, q2, q3, t_set q4 hap g2 v⟩ (fun j9 _ => vp_updV_set hll v j9)⟩
  rcases g5 with g5 | ⟨host, g5⟩
  · exact W.putK hx hb (f := f) ⟨hown, zword h0 hW g5 rfl args, ⟨_, _, _, by rw [e9] at hi; exact hi⟩, hst⟩ (by rw [q2]; exact h6) q1 q3 (by rw [hsl]; exact k2_hasslot (q4 j g2)) rfl rfl hd fin
  · exact va_WputK hx hb (f := f) hown (zwordF h0 hW g5) (by rw [e9] at hi; exact hi) hst (by rw [q2]; exact h6) q1 q3 (by rw [hsl]; exact k2_hasslot (q4 j g2)) rfl rfl hd fin
set_option maxHeartbeats 1000000 in
theorem zs_putref (h0 : zOk E) (F : zFr E m d mc ms kr kx p e R s mm args below meth c Q) {pc n i j : Nat} (hd : decode m.2.1 pc = .ok (.putfield n, 3)) (hf : (zFld m.2.2.2.2.1).any (fun e => e.1 == n && e.2.2.1 == i && e.2.2.2.1 == j && e.2.2.2.2.1 == 1) = true) (hf2 : (zFld m.2.2.2.2.1).any (fun e => e.1 == n && e.2.2.1 == i && e.2.2.2.1 == j && e.2.2.2.2.2 == "") = true)
    {r w : zL} {rest : List zV} (hr : zcls r.1 = i) (hm : r ∈ zNm.take M.2.2.2.2) (hin : m.1.name = "<init>") (hcl : zcn i = m.1.cls)
    {H : Heap} {locs : List Loc} {lsA : Array Slot} (hS : zSt E M H locs) (kk : ∀ H1 locs1, zSt E (zpr M r j (some w)) H1 locs1 → W p (zl E) e R s mm args below meth c H1 locs1 a.1 a.2 Q (F0 mm (pc + 3) lsA (rest.map (zcv E)))) : W p (zl E) e R s mm args below meth c H locs a.1 a.2 Q (F0 mm pc lsA (.ref (zad E w) :: .ref (zad E r) :: rest.map (zcv E))) := by
  obtain ⟨hx, hb, hml, hown, hW, hex, hnm, ⟨hcls, hmB⟩, hR, h1, h2, h3⟩ := F
  obtain ⟨g1, g2, g3, g4, -⟩ := zFld_of hf
  have g5 : Cond.fieldLink (zcn m.2.2.2.2.1) n (zcn i) (zTn i j).2.1 (zTn i j).2.2.1 ∈ lw_tbl := by
    obtain ⟨e, he, h1⟩ := List.any_eq_true.mp hf2
    simp only [Bool.and_eq_true, beq_iff_eq] at h1
    obtain ⟨⟨⟨rfl, rfl⟩, rfl⟩, hh⟩ := h1
    have hc : m.2.2.2.2.1 < 11 := by
      by_cases hc : m.2.2.2.2.1 < 11
      · exact hc
      · exfalso
        have : zFld m.2.2.2.2.1 = [] := by
          unfold zFld
          split <;> first | omega | rfl
        rw [this] at he
        cases he
    have h2 := List.all_eq_true.mp (List.all_eq_true.mp zFld_ok _ (List.mem_range.mpr hc)) e he
    unfold zFldB at h2
    simp only [Bool.and_eq_true, decide_eq_true_eq, beq_iff_eq] at h2
    obtain ⟨⟨⟨⟨h3, -⟩, -⟩, -⟩, -⟩ := h2
    rw [if_pos hh] at h3
    exact List.mem_of_getElem? h3
  rw [hcls] at hown
  have hts := zhts (args := args) h0 hW
  have hK := zK h0 hW
  have hpl := zws_get (E := E) hm
  rw [zco_o hr g1] at hpl
  obtain ⟨e9, hty, -⟩ := zTn_all g1 g2
  have hfin : (zTn i j).2.2.2 = true := by rw [g4]; rfl
  have hap := va_apart (own := zcn m.2.2.2.2.1) hts (zLays_in g1) (ztn i) (fun k hk => (zTn_all g1 hk).2.1) (fun x hx y hy hxy => (zTn_all g1 hx).2.2 y hy (fun h => hxy h.symm)) hK (zCl_at g1)
  obtain ⟨r9, h1', cell, q1, q2, q3, q4⟩ := hS.1 _ _ hpl
  have hr9 : r9 = (zcn i, zTn i, (zft i).length) := Option.some.inj (h1'.symm.trans (zCl_at g1))
  subst hr9
  obtain ⟨hS9, hfc, kC, hkC, hkind⟩ := hK.1 i _ (zCl_at g1)
  obtain ⟨cf, kf, fi, f, hi, hsl⟩ := hS9 j g2
  have hlay := hts _ (zLays_in g1 _ (u_in_lay g2))
  unfold u_lay at hlay
  rw [if_pos hfin] at hlay
  have hst := (u_facts hfc hkC (u_lays hts (zLays_in g1) g2) hi).1
  have hcf : mm.cls = cf := by
    obtain ⟨_, _, c', _, _, _, -, -, hf', -, -, -, hown2, -⟩ := Cond.laysFinal_spec hlay
    have e1 : c' = cf := by have := hi.symm.trans hf'; simp at this; exact this.1.symm
    rw [e9, hcl, hcls] at hown2
    rw [← e1]; exact Option.some.inj (hown.symm.trans hown2)
  have hnf : narrow (ztn i j) (.ref (zad E w)) = .ref (zad E w) ∧ fits (ztn i j) (.ref (zad E w)) = true := by
    have h7 : ∀ i, i < 8 → ∀ j, j < (zft i).length → (zft i).getD j 0 = 1 → narrow (ztn i j) (.ref (zad E w)) = .ref (zad E w) ∧ fits (ztn i j) (.ref (zad E w)) = true := by
      intro i hi j hj hg
      have h8 : ∀ ty : FieldType, ((∃ n, ty = .object n) ∨ ∃ t, ty = .array t) → narrow ty (.ref (zad E w)) = .ref (zad E w) ∧ fits ty (.ref (zad E w)) = true := by
        intro ty h
        rcases h with ⟨n, rfl⟩ | ⟨t, rfl⟩ <;> exact ⟨rfl, rfl⟩
      refine h8 _ ?_
      have h10 : (List.range 8).all (fun i => (List.range (zft i).length).all (fun j => (zft i).getD j 0 != 1 || (match ztn i j with | .object _ => true | .array _ => true | _ => false))) = true := by decide +kernel
      have h11 := List.all_eq_true.mp (List.all_eq_true.mp h10 i (List.mem_range.mpr hi)) j (List.mem_range.mpr hj)
      rw [hg] at h11
      revert h11
      cases ztn i j <;> intro h12 <;> first | exact Or.inl ⟨_, rfl⟩ | exact Or.inr ⟨_, rfl⟩ | cases h12
    exact h7 i g1 j g2 g3
  have h6 := u_fits hfc hkC hkind (Or.inr hlay) hi hty hnf.1 hnf.2
  have hll : j < (zfs E M r i).length := by
    have := zfs_get (E := E) (M := M) (q := r) g2
    exact (List.getElem?_eq_some_iff.mp this).1
  refine W.putFinK hx hb hown (zword h0 hW g5 rfl args) (by rw [e9] at hi; exact hi) hst hcf (hnm.trans hin) (by rw [q2]; exact h6) q1 q3 (by rw [hsl]; exact k2_hasslot (q4 j g2)) rfl rfl hd fun H' e1 e2 e3 => ?_
  refine kk H' _ (zSt_put hS rfl hm (zco_o hr g1) (fun q hq => zco_pr hq) ?_ e2 e3)
  rw [← zfs_pr g3]
  rw [hsl] at e1
  exact ⟨_, zCl_at g1, t_OB.to (V := updV (vp_V (zfs E M r i)) j (.ref (zad E w))) ⟨_, e1, q2, q3, t_set q4 hap g2 _⟩ (fun j9 _ => vp_updV_set hll _ j9)⟩
end ZS
