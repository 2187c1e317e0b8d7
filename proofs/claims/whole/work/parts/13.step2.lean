/-! ===== one step ===== -/
theorem zI1_of {st : List zV} {k : Int32 → List zV → Prop} (h : zI1 st k) : ∃ x rest, st = .inl (.int x) :: rest ∧ k x rest := by
  unfold zI1 at h
  split at h
  · exact ⟨_, _, rfl, h⟩
  · exact h.elim
theorem zI2_of {st : List zV} {k : Int32 → Int32 → List zV → Prop} (h : zI2 st k) : ∃ x y rest, st = .inl (.int y) :: .inl (.int x) :: rest ∧ k x y rest := by
  unfold zI2 at h
  split at h
  · exact ⟨_, _, _, rfl, h⟩
  · exact h.elim
theorem zR1_of {st : List zV} {k : zL → List zV → Prop} (h : zR1 st k) : ∃ q rest, st = .inr q :: rest ∧ k q rest := by
  unfold zR1 at h
  split at h
  · exact ⟨_, _, rfl, h⟩
  · exact h.elim
theorem zarr_le : (List.range 80).all (fun k => decide ((zarr k).2 ≤ 1000)) = true := by decide +kernel
theorem zarr_le' {q : zL} (hm : q ∈ zNm) : (zarr q.1).2 ≤ 1000 := by
  have h1 := List.all_eq_true.mp zNm_80 q hm
  simp only [decide_eq_true_eq] at h1
  have h2 := List.all_eq_true.mp zarr_le q.1 (List.mem_range.mpr h1)
  simpa using h2
theorem zty_nar : (List.range 8).all (fun i => (List.range (zft i).length).all (fun j => match (zft i).getD j 0, ztn i j with
    | 0, .int => true
    | 3, .boolean => true
    | 2, .long => true
    | 1, _ => true
    | _, _ => false)) = true := by decide +kernel
theorem zwm (w : Cond) (h : decide (w ∈ lw_tbl) = true) : w ∈ lw_tbl := of_decide_eq_true h
set_option maxRecDepth 100000 in
theorem zw_arr : decide (Cond.arrayClass .int ∈ lw_tbl) && decide (Cond.arrayClass .boolean ∈ lw_tbl) && decide (Cond.arrayClass .long ∈ lw_tbl) && decide (Cond.arrayClass .double ∈ lw_tbl) && decide (Cond.arrayOver (.object "Patternroom$Page") ∈ lw_tbl) && decide (Cond.arrayOver (.object "Patternroom$Snapshot") ∈ lw_tbl) && decide (Cond.arrayOver (.object "Patternroom$View") ∈ lw_tbl) && decide (Cond.arrayOver (.array .int) ∈ lw_tbl) &&
  decide (Cond.native arraycopyName ∈ lw_tbl) && decide (Cond.static arraycopyName ∈ lw_tbl) && decide (Cond.initialized "java/lang/System" ∈ lw_tbl) && decide (Cond.initialized "java/lang/Math" ∈ lw_tbl) && decide (Cond.static ⟨"java/lang/Math", "abs", "(I)I"⟩ ∈ lw_tbl) && decide (Cond.static ⟨"java/lang/Math", "min", "(II)I"⟩ ∈ lw_tbl) && decide (Cond.static ⟨"java/lang/Math", "max", "(II)I"⟩ ∈ lw_tbl) && decide (Cond.instanceMethod Lib.objectInit ∈ lw_tbl) = true := by decide +kernel
set_option maxRecDepth 100000 in
theorem zcd_abs : Cond.code Lib.Math.abs.name Lib.Math.abs.code 1 (some .int) ∈ lw_tbl := List.mem_of_getElem? (i := 381) rfl
set_option maxRecDepth 100000 in
theorem zcd_min : Cond.code Lib.Math.min.name Lib.Math.min.code 2 (some .int) ∈ lw_tbl := List.mem_of_getElem? (i := 397) rfl
set_option maxRecDepth 100000 in
theorem zcd_max : Cond.code Lib.Math.max.name Lib.Math.max.code 2 (some .int) ∈ lw_tbl := List.mem_of_getElem? (i := 400) rfl
set_option maxRecDepth 100000 in
theorem zcd_obj : Cond.code Lib.objectInit ⟨#[0xb1]⟩ 1 none ∈ lw_tbl := List.mem_of_getElem? (i := 119) rfl
section ZT
variable {E : zEn} {m : zMeth} {d mc ms : Nat} {kr : Option zV → zM → Prop} {kx : String → zM → Prop} {p : Program} {e : Env} {R : Room} {s : State} {mm : MethodId} {args : Array Value} {below : List Frame} {meth : Method} {c : Code} {Q : State → Prop} {ls : zLs} {st : List zV} {M : zM} {a : Nat × Nat} {k : zKt}
set_option maxHeartbeats 8000000 in
set_option maxRecDepth 10000 in
theorem zstep (h0 : zOk E) (F : zFr E m d mc ms kr kx p e R s mm args below meth c Q) (hk : ∀ pc ls st M a, k pc ls st M a → zWw E m mc ms p e R s mm args below meth c Q pc ls st M a) (q : zIn) (hq : zrb m q = true) (h : zst E m d mc ms q ls st M a k kr kx) : zWw E m mc ms p e R s mm args below meth c Q q.1 ls st M a := by
  intro H locs lsA hS hl ha1 ha2
  obtain ⟨pc, ins, len, ⟨i, j, t⟩, c9, tx⟩ := q
  have F9 := F
  obtain ⟨hx, hb, hml, hown, hW, hex, hnm, ⟨hcls, hmB⟩, hR, hr1, hr2, hr3⟩ := F9
  have hown9 := hown
  rw [hcls] at hown9
  have hK := zK h0 hW
  have hcsum : ∀ rest : List zV, (List.map (fun v : Value => v.category) (rest.map (zcv E))).sum = (rest.map zcat).sum := by
    intro rest
    rw [List.map_map]
    have : ((fun v : Value => v.category) ∘ zcv E) = zcat := funext fun v => zcat_cv E v
    rw [this]
  have hw9 := zw_arr
  simp only [Bool.and_eq_true, decide_eq_true_eq] at hw9
  obtain ⟨⟨⟨⟨⟨⟨⟨⟨⟨⟨⟨⟨⟨⟨⟨w1, w2⟩, w3⟩, w4⟩, w5⟩, w6⟩, w7⟩, w8⟩, w9⟩, w10⟩, w11⟩, w12⟩, w13⟩, w14⟩, w15⟩, w16⟩ := hw9
  have hG := fun (w : Cond) (hm : w ∈ lw_tbl) (hg : goodWord w = true) => zword h0 hW hm hg args
  have K := fun {pc : Nat} {ls : zLs} {st : List zV} {M : zM} {a : Nat × Nat} (g : k pc ls st M a) => hk pc ls st M a g
  have hd := zrb_len hq
  dsimp only at hd
  unfold zrb at hq
  unfold zst at h
  dsimp only at h ⊢
  rw [Bool.and_eq_true] at hq
  replace hq := hq.2
  cases ins
  case aload w =>
    dsimp only at h hq
    simp only [Bool.and_eq_true, beq_iff_eq, decide_eq_true_eq] at hq
    obtain ⟨rfl, rfl⟩ := hq
    split at h
    · rename_i r heq
      exact lv_aload hx hb hd (zlk_at hl heq) (K h H locs lsA hS hl ha1 ha2)
    · exact h.elim
  case aload_n w =>
    dsimp only at h hq
    simp only [Bool.and_eq_true, beq_iff_eq, decide_eq_true_eq] at hq
    obtain ⟨rfl, rfl⟩ := hq
    split at h
    · rename_i r heq
      exact lv_aload_n hx hb hd rfl (zlk_at hl heq) (K h H locs lsA hS hl ha1 ha2)
    · exact h.elim
  case iload w =>
    dsimp only at h hq
    simp only [Bool.and_eq_true, beq_iff_eq, decide_eq_true_eq] at hq
    obtain ⟨rfl, rfl⟩ := hq
    split at h
    · rename_i r heq
      exact lv_iload hx hb hd (zlk_at hl heq) (K h H locs lsA hS hl ha1 ha2)
    · exact h.elim
  case iload_n w =>
    dsimp only at h hq
    simp only [Bool.and_eq_true, beq_iff_eq, decide_eq_true_eq] at hq
    obtain ⟨rfl, rfl⟩ := hq
    split at h
    · rename_i r heq
      exact lv_iload_n hx hb hd rfl (zlk_at hl heq) (K h H locs lsA hS hl ha1 ha2)
    · exact h.elim
  case fload w =>
    dsimp only at h hq
    simp only [Bool.and_eq_true, beq_iff_eq, decide_eq_true_eq] at hq
    obtain ⟨rfl, rfl⟩ := hq
    split at h
    · rename_i r heq
      exact lv_fload hx hb hd (zlk_at hl heq) (K h H locs lsA hS hl ha1 ha2)
    · exact h.elim
  case fload_n w =>
    dsimp only at h hq
    simp only [Bool.and_eq_true, beq_iff_eq, decide_eq_true_eq] at hq
    obtain ⟨rfl, rfl⟩ := hq
    split at h
    · rename_i r heq
      exact lv_fload_n hx hb hd rfl (zlk_at hl heq) (K h H locs lsA hS hl ha1 ha2)
    · exact h.elim
  case dload w =>
    dsimp only at h hq
    simp only [Bool.and_eq_true, beq_iff_eq, decide_eq_true_eq] at hq
    obtain ⟨rfl, rfl⟩ := hq
    split at h
    · rename_i r heq
      exact lv_dload hx hb hd (zlk_at hl heq) (K h H locs lsA hS hl ha1 ha2)
    · exact h.elim
  case dload_n w =>
    dsimp only at h hq
    simp only [Bool.and_eq_true, beq_iff_eq, decide_eq_true_eq] at hq
    obtain ⟨rfl, rfl⟩ := hq
    split at h
    · rename_i r heq
      exact lv_dload_n hx hb hd rfl (zlk_at hl heq) (K h H locs lsA hS hl ha1 ha2)
    · exact h.elim
  case istore w =>
    dsimp only at h hq
    simp only [Bool.and_eq_true, beq_iff_eq, decide_eq_true_eq] at hq
    obtain ⟨rfl, rfl⟩ := hq
    obtain ⟨hi, h⟩ := h
    obtain ⟨x, rest, rfl, h⟩ := zI1_of h
    exact lv_istore hx hb hd hl hi (zcL_store (v := .inl (.int x))) (fun ls' hl' => K h H locs ls' hS hl' ha1 ha2)
  case istore_n w =>
    dsimp only at h hq
    simp only [Bool.and_eq_true, beq_iff_eq, decide_eq_true_eq] at hq
    obtain ⟨rfl, rfl⟩ := hq
    obtain ⟨hi, h⟩ := h
    obtain ⟨x, rest, rfl, h⟩ := zI1_of h
    exact lv_istore_n hx hb hd rfl hl hi (zcL_store (v := .inl (.int x))) (fun ls' hl' => K h H locs ls' hS hl' ha1 ha2)
  case astore w =>
    dsimp only at h hq
    simp only [Bool.and_eq_true, beq_iff_eq, decide_eq_true_eq] at hq
    obtain ⟨rfl, rfl⟩ := hq
    obtain ⟨hi, h⟩ := h
    split at h
    · exact lv_astore hx hb hd hl hi (zcL_store (v := .inr _)) (fun ls' hl' => K h H locs ls' hS hl' ha1 ha2)
    · exact lv_astore hx hb hd hl hi (zcL_store (v := .inl (.ref _))) (fun ls' hl' => K h H locs ls' hS hl' ha1 ha2)
    · exact h.elim
  case astore_n w =>
    dsimp only at h hq
    simp only [Bool.and_eq_true, beq_iff_eq, decide_eq_true_eq] at hq
    obtain ⟨rfl, rfl⟩ := hq
    obtain ⟨hi, h⟩ := h
    split at h
    · exact lv_astore_n hx hb hd rfl hl hi (zcL_store (v := .inr _)) (fun ls' hl' => K h H locs ls' hS hl' ha1 ha2)
    · exact lv_astore_n hx hb hd rfl hl hi (zcL_store (v := .inl (.ref _))) (fun ls' hl' => K h H locs ls' hS hl' ha1 ha2)
    · exact h.elim
  case fstore w =>
    dsimp only at h hq
    simp only [Bool.and_eq_true, beq_iff_eq, decide_eq_true_eq] at hq
    obtain ⟨rfl, rfl⟩ := hq
    obtain ⟨hi, h⟩ := h
    split at h
    · exact lv_fstore hx hb hd hl hi (zcL_store (v := .inl (.float _))) (fun ls' hl' => K h H locs ls' hS hl' ha1 ha2)
    · exact h.elim
  case fstore_n w =>
    dsimp only at h hq
    simp only [Bool.and_eq_true, beq_iff_eq, decide_eq_true_eq] at hq
    obtain ⟨rfl, rfl⟩ := hq
    obtain ⟨hi, h⟩ := h
    split at h
    · exact lv_fstore_n hx hb hd rfl hl hi (zcL_store (v := .inl (.float _))) (fun ls' hl' => K h H locs ls' hS hl' ha1 ha2)
    · exact h.elim
  case dstore w =>
    dsimp only at h hq
    simp only [Bool.and_eq_true, beq_iff_eq, decide_eq_true_eq] at hq
    obtain ⟨rfl, rfl⟩ := hq
    obtain ⟨hi, h⟩ := h
    split at h
    · exact lv_dstore hx hb hd hl hi (zcL_store2 (v := .inl (.double _))) (fun ls' hl' => K h H locs ls' hS hl' ha1 ha2)
    · exact h.elim
  case iconst n =>
    dsimp only at h hq
    simp only [Bool.and_eq_true, beq_iff_eq, decide_eq_true_eq] at hq
    obtain ⟨hc, rfl⟩ := hq
    exact lv_iconst hx hb hd hc (K h H locs lsA hS hl ha1 ha2)
  case bipush n =>
    dsimp only at h hq
    simp only [Bool.and_eq_true, beq_iff_eq, decide_eq_true_eq] at hq
    obtain ⟨hc, rfl⟩ := hq
    exact lv_bipush hx hb hd hc (K h H locs lsA hS hl ha1 ha2)
  case sipush n =>
    dsimp only at h hq
    simp only [Bool.and_eq_true, beq_iff_eq, decide_eq_true_eq] at hq
    obtain ⟨hc, rfl⟩ := hq
    exact lv_sipush hx hb hd hc (K h H locs lsA hS hl ha1 ha2)
  case ldc_w n =>
    dsimp only at h hq
    rw [Bool.and_eq_true, beq_iff_eq] at hq
    obtain ⟨rfl, hq⟩ := hq
    obtain ⟨rfl, h⟩ := h
    simp only [bne_self_eq_false, Bool.false_or] at hq
    obtain ⟨e9, he9, h9⟩ := List.any_eq_true.mp hq
    simp only [Bool.and_eq_true, beq_iff_eq, decide_eq_true_eq] at h9
    obtain ⟨rfl, rfl⟩ := h9
    have hc11 : m.2.2.2.2.1 < 11 := zc11 he9 (fun c hc => by unfold zCon; split <;> first | omega | rfl)
    have h2 := List.all_eq_true.mp (List.all_eq_true.mp zCon_ok _ (List.mem_range.mpr hc11)) e9 he9
    unfold zConB at h2
    simp only [decide_eq_true_eq] at h2
    exact lv_ldcw hx hb hown9 (hG _ (List.mem_of_getElem? h2) rfl) hd (K h H locs lsA hS hl ha1 ha2)
  case lconst n =>
    dsimp only at h hq
    simp only [Bool.and_eq_true, beq_iff_eq, decide_eq_true_eq] at hq
    subst hq
    exact lv_lconst hx hb hd rfl (K h H locs lsA hS hl ha1 ha2)
  case fconst n =>
    dsimp only at h hq
    simp only [Bool.and_eq_true, beq_iff_eq, decide_eq_true_eq] at hq
    subst hq
    obtain ⟨rfl, h⟩ := h
    exact lv_fconst0 hx hb hd (K h H locs lsA hS hl ha1 ha2)
  case dconst n =>
    dsimp only at h hq
    simp only [Bool.and_eq_true, beq_iff_eq, decide_eq_true_eq] at hq
    subst hq
    obtain ⟨rfl, h⟩ := h
    exact lv_dconst0 hx hb hd (K h H locs lsA hS hl ha1 ha2)
  case iinc w n =>
    dsimp only at h hq
    simp only [Bool.and_eq_true, beq_iff_eq, decide_eq_true_eq] at hq
    obtain ⟨⟨rfl, rfl⟩, rfl⟩ := hq
    split at h
    · rename_i x heq
      obtain ⟨hi, h⟩ := h
      have h9 := heq
      unfold zlk at h9
      obtain ⟨q9, hq9, hv9⟩ := Option.map_eq_some_iff.mp h9
      have hm9 := List.mem_of_find?_eq_some hq9
      have hi9 := List.find?_some hq9
      simp only [beq_iff_eq] at hi9
      obtain ⟨z9, hz9⟩ := List.getElem?_of_mem hm9
      refine lv_iinc (k := z9) hx hb hd hl ?_ rfl hi (zcL_store (v := .inl (.int _))) (fun ls' hl' => K h H locs ls' hS hl' ha1 ha2)
      rw [List.getElem?_map, hz9]
      show some (q9.1, zcv E q9.2) = _
      rw [hi9, hv9]
      rfl
    · exact h.elim
  case iadd =>
    dsimp only at h hq
    simp only [Bool.and_eq_true, beq_iff_eq, decide_eq_true_eq] at hq
    subst hq
    obtain ⟨x, y, rest, rfl, h⟩ := zI2_of h
    exact lv_iadd hx hb hd (K h H locs lsA hS hl ha1 ha2)
  case isub =>
    dsimp only at h hq
    simp only [Bool.and_eq_true, beq_iff_eq, decide_eq_true_eq] at hq
    subst hq
    obtain ⟨x, y, rest, rfl, h⟩ := zI2_of h
    exact lv_isub hx hb hd (K h H locs lsA hS hl ha1 ha2)
  case imul =>
    dsimp only at h hq
    simp only [Bool.and_eq_true, beq_iff_eq, decide_eq_true_eq] at hq
    subst hq
    obtain ⟨x, y, rest, rfl, h⟩ := zI2_of h
    exact lv_imul hx hb hd (K h H locs lsA hS hl ha1 ha2)
  case iand =>
    dsimp only at h hq
    simp only [Bool.and_eq_true, beq_iff_eq, decide_eq_true_eq] at hq
    subst hq
    obtain ⟨x, y, rest, rfl, h⟩ := zI2_of h
    exact lv_iand hx hb hd (K h H locs lsA hS hl ha1 ha2)
  case ior =>
    dsimp only at h hq
    simp only [Bool.and_eq_true, beq_iff_eq, decide_eq_true_eq] at hq
    subst hq
    obtain ⟨x, y, rest, rfl, h⟩ := zI2_of h
    exact lv_ior hx hb hd (K h H locs lsA hS hl ha1 ha2)
  case ixor =>
    dsimp only at h hq
    simp only [Bool.and_eq_true, beq_iff_eq, decide_eq_true_eq] at hq
    subst hq
    obtain ⟨x, y, rest, rfl, h⟩ := zI2_of h
    exact lv_ixor hx hb hd (K h H locs lsA hS hl ha1 ha2)
  case ishl =>
    dsimp only at h hq
    simp only [Bool.and_eq_true, beq_iff_eq, decide_eq_true_eq] at hq
    subst hq
    obtain ⟨x, y, rest, rfl, h⟩ := zI2_of h
    exact lv_ishl hx hb hd (K h H locs lsA hS hl ha1 ha2)
  case iushr =>
    dsimp only at h hq
    simp only [Bool.and_eq_true, beq_iff_eq, decide_eq_true_eq] at hq
    subst hq
    obtain ⟨x, y, rest, rfl, h⟩ := zI2_of h
    exact lv_iushr hx hb hd rfl (K h H locs lsA hS hl ha1 ha2)
  case idiv =>
    dsimp only at h hq
    simp only [Bool.and_eq_true, beq_iff_eq, decide_eq_true_eq] at hq
    subst hq
    obtain ⟨x, y, rest, rfl, hne, h⟩ := zI2_of h
    exact lv_idiv hx hb hd hne (K h H locs lsA hS hl ha1 ha2)
  case irem =>
    dsimp only at h hq
    simp only [Bool.and_eq_true, beq_iff_eq, decide_eq_true_eq] at hq
    subst hq
    obtain ⟨x, y, rest, rfl, hne, h⟩ := zI2_of h
    exact lv_irem hx hb hd hne (K h H locs lsA hS hl ha1 ha2)
  case ineg =>
    dsimp only at h hq
    simp only [Bool.and_eq_true, beq_iff_eq, decide_eq_true_eq] at hq
    subst hq
    obtain ⟨x, rest, rfl, h⟩ := zI1_of h
    exact lv_ineg hx hb hd (K h H locs lsA hS hl ha1 ha2)
  case ladd =>
    dsimp only at h hq
    simp only [Bool.and_eq_true, beq_iff_eq, decide_eq_true_eq] at hq
    subst hq
    split at h
    · exact lv_ladd hx hb hd (K h H locs lsA hS hl ha1 ha2)
    · exact h.elim
  case lcmp =>
    dsimp only at h hq
    simp only [Bool.and_eq_true, beq_iff_eq, decide_eq_true_eq] at hq
    subst hq
    split at h
    · exact W.lcmp hx hb hd (K h H locs lsA hS hl ha1 ha2)
    · exact h.elim
  case fcmp op =>
    dsimp only at h hq
    simp only [Bool.and_eq_true, beq_iff_eq, decide_eq_true_eq] at hq
    subst hq
    split at h
    · exact lv_fcmp hx hb hd (K h H locs lsA hS hl ha1 ha2)
    · exact h.elim
  case dcmp op =>
    dsimp only at h hq
    simp only [Bool.and_eq_true, beq_iff_eq, decide_eq_true_eq] at hq
    subst hq
    split at h
    · exact lv_dcmp hx hb hd (K h H locs lsA hS hl ha1 ha2)
    · exact h.elim
  case fdiv =>
    dsimp only at h hq
    simp only [Bool.and_eq_true, beq_iff_eq, decide_eq_true_eq] at hq
    subst hq
    split at h
    · exact lv_fdiv hx hb hd h.1 (K h.2 H locs lsA hS hl ha1 ha2)
    · exact h.elim
  case ddiv =>
    dsimp only at h hq
    simp only [Bool.and_eq_true, beq_iff_eq, decide_eq_true_eq] at hq
    subst hq
    split at h
    · exact lv_ddiv hx hb hd h.1 (K h.2 H locs lsA hS hl ha1 ha2)
    · exact h.elim
  case f2d =>
    dsimp only at h hq
    simp only [Bool.and_eq_true, beq_iff_eq, decide_eq_true_eq] at hq
    subst hq
    split at h
    · exact lv_f2d hx hb hd h.1 (K h.2 H locs lsA hS hl ha1 ha2)
    · exact h.elim
  case i2l =>
    dsimp only at h hq
    simp only [Bool.and_eq_true, beq_iff_eq, decide_eq_true_eq] at hq
    subst hq
    obtain ⟨x, rest, rfl, h⟩ := zI1_of h
    exact lv_i2l hx hb hd rfl (K h H locs lsA hS hl ha1 ha2)
  case i2f =>
    dsimp only at h hq
    simp only [Bool.and_eq_true, beq_iff_eq, decide_eq_true_eq] at hq
    subst hq
    obtain ⟨x, rest, rfl, h⟩ := zI1_of h
    exact lv_i2f hx hb hd (K h H locs lsA hS hl ha1 ha2)
  case i2d =>
    dsimp only at h hq
    simp only [Bool.and_eq_true, beq_iff_eq, decide_eq_true_eq] at hq
    subst hq
    obtain ⟨x, rest, rfl, h⟩ := zI1_of h
    exact lv_i2d hx hb hd (K h H locs lsA hS hl ha1 ha2)
  case ifCond co off =>
    dsimp only at h hq
    simp only [Bool.and_eq_true, beq_iff_eq, decide_eq_true_eq] at hq
    obtain ⟨ht, rfl⟩ := hq
    obtain ⟨x, rest, rfl, h⟩ := zI1_of h
    cases co
    · exact lv_if_eq hx hb hd ht (fun g => K (h.1 g) H locs lsA hS hl ha1 ha2) (fun g => K (h.2 g) H locs lsA hS hl ha1 ha2)
    · exact lv_if_ne hx hb hd ht (fun g => K (h.1 g) H locs lsA hS hl ha1 ha2) (fun g => K (h.2 g) H locs lsA hS hl ha1 ha2)
    · exact lv_if_lt hx hb hd ht (fun g => K (h.1 g) H locs lsA hS hl ha1 ha2) (fun g => K (h.2 g) H locs lsA hS hl ha1 ha2)
    · exact lv_if_ge hx hb hd ht (fun g => K (h.1 g) H locs lsA hS hl ha1 ha2) (fun g => K (h.2 g) H locs lsA hS hl ha1 ha2)
    · exact lv_if_gt hx hb hd ht (fun g => K (h.1 g) H locs lsA hS hl ha1 ha2) (fun g => K (h.2 g) H locs lsA hS hl ha1 ha2)
    · exact lv_if_le hx hb hd ht (fun g => K (h.1 g) H locs lsA hS hl ha1 ha2) (fun g => K (h.2 g) H locs lsA hS hl ha1 ha2)
  case if_icmp co off =>
    dsimp only at h hq
    simp only [Bool.and_eq_true, beq_iff_eq, decide_eq_true_eq] at hq
    obtain ⟨ht, rfl⟩ := hq
    obtain ⟨x, y, rest, rfl, h⟩ := zI2_of h
    cases co
    · exact lv_icmp_eq hx hb hd ht (fun g => K (h.1 g) H locs lsA hS hl ha1 ha2) (fun g => K (h.2 g) H locs lsA hS hl ha1 ha2)
    · exact lv_icmp_ne hx hb hd ht (fun g => K (h.1 g) H locs lsA hS hl ha1 ha2) (fun g => K (h.2 g) H locs lsA hS hl ha1 ha2)
    · exact lv_icmp_lt hx hb hd ht (fun g => K (h.1 g) H locs lsA hS hl ha1 ha2) (fun g => K (h.2 g) H locs lsA hS hl ha1 ha2)
    · exact lv_icmp_ge hx hb hd ht (fun g => K (h.1 g) H locs lsA hS hl ha1 ha2) (fun g => K (h.2 g) H locs lsA hS hl ha1 ha2)
    · exact lv_icmp_gt hx hb hd ht (fun g => K (h.1 g) H locs lsA hS hl ha1 ha2) (fun g => K (h.2 g) H locs lsA hS hl ha1 ha2)
    · exact lv_icmp_le hx hb hd ht (fun g => K (h.1 g) H locs lsA hS hl ha1 ha2) (fun g => K (h.2 g) H locs lsA hS hl ha1 ha2)
  case goto off =>
    dsimp only at h hq
    simp only [Bool.and_eq_true, beq_iff_eq, decide_eq_true_eq] at hq
    obtain ⟨ht, rfl⟩ := hq
    exact lv_goto hx hb hd ht (K h H locs lsA hS hl ha1 ha2)
  case tableswitch dflt lo hi offs =>
    dsimp only at h hq
    obtain ⟨hsz9, h⟩ := h
    replace h := zI1_of h
    obtain ⟨x, rest, rfl, h⟩ := h
    by_cases g1 : x.toInt < lo ∨ hi < x.toInt
    · obtain ⟨g2, h⟩ := h.1 g1
      exact lv_tableOut hx hb hd g1 (by omega) (K h H locs lsA hS hl ha1 ha2)
    · have g2 : ¬ x.toInt < lo := fun g => g1 (Or.inl g)
      have g3 : ¬ hi < x.toInt := fun g => g1 (Or.inr g)
      by_cases g4 : (x.toInt - lo).toNat < offs.size
      · have g5 : offs[(x.toInt - lo).toNat]? = some offs[(x.toInt - lo).toNat] := Array.getElem?_eq_getElem g4
        obtain ⟨g6, h⟩ := h.2 _ _ g5 (by omega)
        exact lv_tableIn hx hb hd g2 g3 g5 (by omega) (K h H locs lsA hS hl ha1 ha2)
      · omega
  case dup =>
    dsimp only at h hq
    simp only [Bool.and_eq_true, beq_iff_eq, decide_eq_true_eq] at hq
    subst hq
    split at h
    · exact lv_dup hx hb hd (by rw [zcat_cv]; exact h.1) (K h.2 H locs lsA hS hl ha1 ha2)
    · exact h.elim
  case pop =>
    dsimp only at h hq
    simp only [Bool.and_eq_true, beq_iff_eq, decide_eq_true_eq] at hq
    subst hq
    split at h
    · exact lv_pop hx hb hd (by rw [zcat_cv]; exact h.1) (K h.2 H locs lsA hS hl ha1 ha2)
    · exact h.elim
  case dup2 =>
    dsimp only at h hq
    simp only [Bool.and_eq_true, beq_iff_eq, decide_eq_true_eq] at hq
    subst hq
    split at h
    · exact lv_dup2_11 hx hb hd (by rw [zcat_cv]; exact h.1) (by rw [zcat_cv]; exact h.2.1) (K h.2.2 H locs lsA hS hl ha1 ha2)
    · exact h.elim
  case getfield n =>
    dsimp only at h hq
    rw [Bool.and_eq_true, beq_iff_eq] at hq
    obtain ⟨rfl, hf⟩ := hq
    obtain ⟨r, rest, rfl, hr, hm, h⟩ := zR1_of h
    split at h
    · split at h
      · rename_i r' heq
        refine zs_getfield h0 F hd hf hr hm (v := .ref (zad E r')) ?_ hS (K h H locs lsA hS hl ha1 ha2)
        show va_rf (Option.map _ _) = _
        rw [heq]
        rfl
      · exact h.elim
    · exact zs_getfield h0 F hd hf hr hm rfl hS (K h H locs lsA hS hl ha1 ha2)
    · refine zs_getfield h0 F hd hf hr hm (v := .int (M.1 r.1 r.2.1 r.2.2 j)) ?_ hS (K h H locs lsA hS hl ha1 ha2)
      unfold zfv
      split
      · exact absurd rfl ‹_›
      · exact absurd rfl ‹_›
      · rfl
  case putfield n =>
    dsimp only at h hq
    rw [Bool.and_eq_true, Bool.and_eq_true, beq_iff_eq] at hq
    obtain ⟨⟨rfl, hf⟩, hf2⟩ := hq
    have hfo := zFld_of hf
    obtain ⟨g1, g2, g3, -, -⟩ := hfo
    have hty := List.all_eq_true.mp (List.all_eq_true.mp zty_nar i (List.mem_range.mpr g1)) j (List.mem_range.mpr g2)
    rw [g3] at hty
    split at h
    · rename_i x r rest
      obtain ⟨hr, hm, rfl, h⟩ := h
      have hty2 : ztn i j = .long := by
        revert hty
        cases ztn i j <;> simp
      exact zs_putfield (M' := zpl M r j x) (v := .long x) h0 F hd hf hr hm (by decide) (by rw [hty2]; rfl) (by rw [hty2]; rfl) rfl (zfs_pl g3) (fun q hq => zco_pl hq) hS (fun H1 locs1 hS1 => K h H1 locs1 lsA hS1 hl ha1 ha2)
    · rename_i x r rest
      obtain ⟨hr, hm, hfit, h⟩ := h
      have ht : (t = 0 ∧ ztn i j = .int) ∨ (t = 3 ∧ ztn i j = .boolean ∧ (x = 0 ∨ x = 1)) := by
        unfold zfit at hfit
        split at hfit
        · refine Or.inl ⟨rfl, ?_⟩
          revert hty
          cases ztn i j <;> simp
        · rename_i x9 heq
          cases heq
          refine Or.inr ⟨rfl, ?_, hfit⟩
          revert hty
          cases ztn i j <;> simp
        · exact hfit.elim
      rcases ht with ⟨rfl, ht⟩ | ⟨rfl, ht, ht2⟩
      · exact zs_putfield (M' := zpi M r j x) (v := .int x) h0 F hd hf hr hm (by decide) (by rw [ht]; rfl) (by rw [ht]; rfl) rfl (zfs_pi (by rw [g3]; decide)) (fun q hq => zco_pi hq) hS (fun H1 locs1 hS1 => K h H1 locs1 lsA hS1 hl ha1 ha2)
      · exact zs_putfield (M' := zpi M r j x) (v := .int x) h0 F hd hf hr hm (by decide) (by rw [ht]; rcases ht2 with rfl | rfl <;> rfl) (by rw [ht]; rcases ht2 with rfl | rfl <;> rfl) rfl (zfs_pi (by rw [g3]; decide)) (fun q hq => zco_pi hq) hS (fun H1 locs1 hS1 => K h H1 locs1 lsA hS1 hl ha1 ha2)
    · rename_i v r rest
      obtain ⟨hr, hm, rfl, hin, hcl, h⟩ := h
      simp only [bne_self_eq_false, Bool.false_or] at hf2
      exact zs_putref h0 F hd hf hf2 hr hm hin hcl hS (fun H1 locs1 hS1 => K h H1 locs1 lsA hS1 hl ha1 ha2)
    · exact h.elim
  case iaload =>
    dsimp only at h hq
    simp only [Bool.and_eq_true, beq_iff_eq, decide_eq_true_eq] at hq
    subst hq
    split at h
    · rename_i x r rest
      split at h
      · rename_i h70
        obtain ⟨hi, h⟩ := h
        have e70 : zad E r = zb E := by
          unfold zad
          rw [if_pos h70]
        have hbl := h0.2.2.2.1
        show W p (zl E) e R s mm args below meth c H locs a.1 a.2 Q (F0 mm pc lsA (.int x :: .ref (zad E r) :: rest.map (zcv E)))
        rw [e70]
        exact va_sld hx hb (va_X.moved hW.alike h0.2.2.1) hbl (fun h9 => absurd hbl (Nat.not_lt.mpr h9)) hS.2.1 hi hd (K h H locs lsA hS hl ha1 ha2)
      · obtain ⟨ht, hm, hi, h⟩ := h
        have hpl := zws_get (E := E) hm
        rw [zco_a (zcls_a (zNm_tk hm) (by rw [ht]; decide)) ht] at hpl
        exact va_iald hx hb hK hS.1 _ 0 hpl rfl hi hd (K h H locs lsA hS hl ha1 ha2)
    · exact h.elim
  case baload =>
    dsimp only at h hq
    simp only [Bool.and_eq_true, beq_iff_eq, decide_eq_true_eq] at hq
    subst hq
    split at h
    · obtain ⟨ht, hm, hi, h⟩ := h
      have hpl := zws_get (E := E) hm
      rw [zco_a (zcls_a (zNm_tk hm) (by rw [ht]; decide)) ht] at hpl
      exact va_zald hx hb hK hS.1 _ 1 hpl rfl hi hd (K h H locs lsA hS hl ha1 ha2)
    · exact h.elim
  case laload =>
    dsimp only at h hq
    simp only [Bool.and_eq_true, beq_iff_eq, decide_eq_true_eq] at hq
    subst hq
    split at h
    · obtain ⟨ht, hm, hi, h⟩ := h
      have hpl := zws_get (E := E) hm
      rw [zco_a (zcls_a (zNm_tk hm) (by rw [ht]; decide)) ht] at hpl
      exact va_lald hx hb hK hS.1 _ 2 hpl rfl hi hd (K h H locs lsA hS hl ha1 ha2)
    · exact h.elim
  case daload =>
    dsimp only at h hq
    simp only [Bool.and_eq_true, beq_iff_eq, decide_eq_true_eq] at hq
    subst hq
    split at h
    · obtain ⟨ht, hm, hi, h⟩ := h
      have hpl := zws_get (E := E) hm
      rw [zco_a (zcls_a (zNm_tk hm) (by rw [ht]; decide)) ht] at hpl
      exact va_dald hx hb hK hS.1 _ 3 hpl rfl hi hd (K h H locs lsA hS hl ha1 ha2)
    · exact h.elim
  case aaload =>
    dsimp only at h hq
    simp only [Bool.and_eq_true, beq_iff_eq, decide_eq_true_eq] at hq
    subst hq
    split at h
    · rename_i x r rest
      obtain ⟨⟨g1, g2⟩, hm, hi, h⟩ := h
      split at h
      · rename_i r' heq
        have hcell := zat_a hS hm rfl g2
        have hlt : x.toNatClampNeg < (zarr r.1).2 := Nat.not_le.mp fun q => hi (Or.inr q)
        have hzr : zac E M r (zarr r.1).1 = .inr (.inr (.inr (.inr (fun n => (M.2.2.2.1 r.1 r.2.1 r.2.2 n).map (zad E))))) := by
          generalize (zarr r.1).1 = t9 at g1 g2
          match t9, g1, g2 with
          | 4, _, _ => rfl
          | 5, _, _ => rfl
          | 6, _, _ => rfl
          | 7, _, _ => rfl
        rw [hzr] at hcell
        have hty : ∃ ty : FieldType, (ztys E)[(zarr r.1).1]? = some (zcy E (zarr r.1).1, ty) ∧ ty.isReference = true := by
          generalize (zarr r.1).1 = t9 at g1 g2
          match t9, g1, g2 with
          | 4, _, _ => exact ⟨_, rfl, rfl⟩
          | 5, _, _ => exact ⟨_, rfl, rfl⟩
          | 6, _, _ => exact ⟨_, rfl, rfl⟩
          | 7, _, _ => exact ⟨_, rfl, rfl⟩
        obtain ⟨ty, hty1, hty2⟩ := hty
        have hv : va_rf ((M.2.2.2.1 r.1 r.2.1 r.2.2 x.toNatClampNeg).map (zad E)) = .ref (zad E r') := by
          rw [heq]
          rfl
        refine W.aald (v := .ref (zad E r')) hx hb hcell ((hK.2 _ _ hty1).1 (zarr r.1).2 (fun n => va_rf ((M.2.2.2.1 r.1 r.2.1 r.2.2 n).map (zad E)))) hty2 (fun q => by cases q) (by show ¬ (x < 0 ∨ (arrV _ _ _).slots.size ≤ _); rw [arrV_size]; exact hi) ?_ rfl rfl hd (K h H locs lsA hS hl ha1 ha2)
        show (arrV _ _ _).slots[_]? = _
        rw [arrV_read _ _ hlt, hv]
      · exact h.elim
    · exact h.elim
  case iastore =>
    dsimp only at h hq
    simp only [Bool.and_eq_true, beq_iff_eq, decide_eq_true_eq] at hq
    subst hq
    split at h
    · obtain ⟨ht, hm, hi, h⟩ := h
      exact zst_i h0 F hd ht hm hi hS (fun H1 locs1 hS1 => K h H1 locs1 lsA hS1 hl ha1 ha2)
    · exact h.elim
  case lastore =>
    dsimp only at h hq
    simp only [Bool.and_eq_true, beq_iff_eq, decide_eq_true_eq] at hq
    subst hq
    split at h
    · obtain ⟨ht, hm, hi, h⟩ := h
      exact zst_l h0 F hd ht hm hi hS (fun H1 locs1 hS1 => K h H1 locs1 lsA hS1 hl ha1 ha2)
    · exact h.elim
  case dastore =>
    dsimp only at h hq
    simp only [Bool.and_eq_true, beq_iff_eq, decide_eq_true_eq] at hq
    subst hq
    split at h
    · obtain ⟨ht, hm, hi, h⟩ := h
      exact zst_d h0 F hd ht hm hi hS (fun H1 locs1 hS1 => K h H1 locs1 lsA hS1 hl ha1 ha2)
    · exact h.elim
  case bastore =>
    dsimp only at h hq
    simp only [Bool.and_eq_true, beq_iff_eq, decide_eq_true_eq] at hq
    subst hq
    split at h
    · obtain ⟨ht, hm, hi, hv, h⟩ := h
      exact zst_z h0 F hd ht hm hi hv hS (fun H1 locs1 hS1 => K h H1 locs1 lsA hS1 hl ha1 ha2)
    · exact h.elim
  case aastore =>
    dsimp only at h hq
    simp only [Bool.and_eq_true, beq_iff_eq, decide_eq_true_eq] at hq
    subst hq
    split at h
    · obtain ⟨ht, hm, hw, hi, h⟩ := h
      rcases ht with ⟨ht, hwc⟩ | ⟨ht, hwc⟩ | ⟨ht, hwc⟩
      · exact zst_q (t := 5) (i := 2) h0 F hd (by decide) (by decide) rfl ht hm hw hwc hi hS (fun H1 locs1 hS1 => K h H1 locs1 lsA hS1 hl ha1 ha2)
      · exact zst_q (t := 6) (i := 3) h0 F hd (by decide) (by decide) rfl ht hm hw hwc hi hS (fun H1 locs1 hS1 => K h H1 locs1 lsA hS1 hl ha1 ha2)
      · exact zst_q (t := 7) (i := 5) h0 F hd (by decide) (by decide) rfl ht hm hw hwc hi hS (fun H1 locs1 hS1 => K h H1 locs1 lsA hS1 hl ha1 ha2)
    · exact h.elim
  case arraylength =>
    dsimp only at h hq
    simp only [Bool.and_eq_true, beq_iff_eq, decide_eq_true_eq] at hq
    subst hq
    replace h := zR1_of h
    obtain ⟨r, rest, rfl, h⟩ := h
    split at h
    · rename_i h70
      have e70 : zad E r = zb E := by
        unfold zad
        rw [if_pos h70]
      have hbl := h0.2.2.2.1
      show W p (zl E) e R s mm args below meth c H locs a.1 a.2 Q (F0 mm pc lsA (.ref (zad E r) :: rest.map (zcv E)))
      rw [e70]
      exact va_slen hx hb (va_X.moved hW.alike h0.2.2.1) hbl (fun h9 => absurd hbl (Nat.not_lt.mpr h9)) hS.2.1 hd (K h H locs lsA hS hl ha1 ha2)
    · obtain ⟨g1, g2, hm, h⟩ := h
      have hpl := zws_get (E := E) hm
      rw [zco_a g2 rfl] at hpl
      have hty : ∃ ty : FieldType, (ztys E)[(zarr r.1).1]? = some (zcy E (zarr r.1).1, ty) := by
        generalize (zarr r.1).1 = t9 at g1
        match t9, g1 with
        | 0, _ => exact ⟨_, rfl⟩
        | 1, _ => exact ⟨_, rfl⟩
        | 2, _ => exact ⟨_, rfl⟩
        | 3, _ => exact ⟨_, rfl⟩
        | 4, _ => exact ⟨_, rfl⟩
        | 5, _ => exact ⟨_, rfl⟩
        | 6, _ => exact ⟨_, rfl⟩
        | 7, _ => exact ⟨_, rfl⟩
      obtain ⟨ty, hty⟩ := hty
      exact va_alen hx hb hK hS.1 _ _ hpl hty rfl hd (K h H locs lsA hS hl ha1 ha2)
  case newarray ty =>
    dsimp only at h hq
    rw [Bool.and_eq_true, beq_iff_eq] at hq
    obtain ⟨rfl, hty⟩ := hq
    obtain ⟨x, rest, rfl, h⟩ := zI1_of h
    split at h
    · rename_i r hr
      obtain ⟨hrc, hrt, hi4, hx0, hxn, b1, b2, h⟩ := h
      have hn9 := zarr_le' (List.mem_of_getElem? hr)
      have hRA : ∀ (t9 : Nat) (ty9 : FieldType), (ztys E)[t9]? = some (zcy E t9, ty9) → (match ty9 with
        | .object _ => False
        | _ => True) → ∀ cA, s.vm.findClass ("[" ++ ty9.toString) = some cA → cA = zcy E t9 := by
        intro t9 ty9 h1 h2 cA h3
        have h4 := (hK.2 t9 _ h1).2
        cases ty9 <;> first | exact False.elim h2 | exact Option.some.inj (h3.symm.trans h4)
      have KK := fun H1 (hS1 : zSt E (zal M r) H1 locs) => K h H1 locs lsA hS1 hl b1 b2
      cases ty <;> first | (simp only [beq_iff_eq] at hty; subst hty) | cases hty
      · exact zst_newa (t := 1) h0 F rfl hd w2 (by decide) (by decide) (fun cA n r => by rw [zac_al (by decide)]; rfl) hr hrc hrt hx0 hxn hn9 b1 b2 (hRA 1 _ rfl trivial) hS KK
      · exact zst_newa (t := 3) h0 F rfl hd w4 (by decide) (by decide) (fun cA n r => by rw [zac_al (by decide)]; rfl) hr hrc hrt hx0 hxn hn9 b1 b2 (hRA 3 _ rfl trivial) hS KK
      · exact zst_newa (t := 0) h0 F rfl hd w1 (by decide) (by decide) (fun cA n r => by rw [zac_al (by decide)]; rfl) hr hrc hrt hx0 hxn hn9 b1 b2 (hRA 0 _ rfl trivial) hS KK
      · exact zst_newa (t := 2) h0 F rfl hd w3 (by decide) (by decide) (fun cA n r => by rw [zac_al (by decide)]; rfl) hr hrc hrt hx0 hxn hn9 b1 b2 (hRA 2 _ rfl trivial) hS KK
    · exact h.elim
  case anewarray n =>
    dsimp only at h hq
    rw [Bool.and_eq_true, beq_iff_eq] at hq
    obtain ⟨rfl, hn⟩ := hq
    obtain ⟨x, rest, rfl, h⟩ := zI1_of h
    split at h
    · rename_i r hr
      obtain ⟨hrc, hrt, hi5, hi8, hx0, hxn, b1, b2, h⟩ := h
      have hn9 := zarr_le' (List.mem_of_getElem? hr)
      have KK := fun H1 (hS1 : zSt E (zal M r) H1 locs) => K h H1 locs lsA hS1 hl b1 b2
      have hC : ∀ X : String, (∀ e : Nat × Nat × String, ((i == 5 && e.2.2 == "Patternroom$Page") || (i == 6 && e.2.2 == "Patternroom$Snapshot") || (i == 7 && e.2.2 == "Patternroom$View")) = true → e.2.2 = X) → Cond.classLink (zcn m.2.2.2.2.1) n X ∈ lw_tbl := by
        intro X hX
        obtain ⟨e9, he9, h9⟩ := List.any_eq_true.mp hn
        rw [Bool.and_eq_true, beq_iff_eq] at h9
        exact zCll_of (List.any_eq_true.mpr ⟨e9, he9, by rw [h9.1, hX e9 h9.2]; simp⟩)
      match i, hi5, hi8 with
      | 5, _, _ => exact zst_anew (t := 5) h0 F hd (hC _ (fun e9 h9 => by simpa using h9)) w5 (by decide) rfl hr hrc hrt hx0 hxn hn9 b1 b2 hS KK
      | 6, _, _ => exact zst_anew (t := 6) h0 F hd (hC _ (fun e9 h9 => by simpa using h9)) w6 (by decide) rfl hr hrc hrt hx0 hxn hn9 b1 b2 hS KK
      | 7, _, _ => exact zst_anew (t := 7) h0 F hd (hC _ (fun e9 h9 => by simpa using h9)) w7 (by decide) rfl hr hrc hrt hx0 hxn hn9 b1 b2 hS KK
    · exact h.elim
  case multianewarray n dd =>
    dsimp only at h hq
    rw [Bool.and_eq_true, Bool.and_eq_true, beq_iff_eq, beq_iff_eq] at hq
    obtain ⟨⟨rfl, rfl⟩, hn⟩ := hq
    split at h
    · split at h
      · rename_i x n9 rest r hr
        obtain ⟨hrc, hrt, hx0, hn0, hyn, b1, b2, hx100, hrow, h⟩ := h
        exact zst_mna h0 F hd (zCll_of hn) w8 w1 hr hrc hrt hx0 hn0 hyn b1 b2 hx100 (zarr_le' (List.mem_of_getElem? hr)) hrow hS (fun H1 hS1 => K h H1 locs lsA hS1 hl b1 b2)
      · exact h.elim
    · exact h.elim
  case new n =>
    dsimp only at h hq
    rw [Bool.and_eq_true, beq_iff_eq] at hq
    obtain ⟨rfl, hn⟩ := hq
    split at h
    · rename_i hi8
      rw [if_pos hi8] at hn
      split at h
      · rename_i r hr
        obtain ⟨hrc, b1, b2, h⟩ := h
        exact zst_new h0 F hd hn hr hrc b1 b2 hS (fun H1 hS1 => K h H1 locs lsA hS1 hl b1 b2)
      · exact h.elim
    · rename_i hi8
      obtain ⟨hsum, b1, b2, hfl, h⟩ := h
      rw [if_neg hi8] at hn
      refine hr2 H locs lsA M a pc n i j t c9 tx _ hS hfl h b1 b2 (by rw [hcsum]; exact hsum) hl.1 hi8 ?_
      unfold zrb
      rw [Bool.and_eq_true, decide_eq_true_eq]
      refine ⟨hd, ?_⟩
      rw [Bool.and_eq_true]
      refine ⟨rfl, ?_⟩
      rw [if_neg hi8]
      exact hn
  case invokestatic n =>
    dsimp only at h hq
    rw [Bool.and_eq_true, beq_iff_eq] at hq
    obtain ⟨rfl, hq⟩ := hq
    split at h
    · split at h
      · rename_i e9 he9
        simp only [he9, Bool.and_eq_true, beq_iff_eq, Bool.or_eq_true] at hq
        obtain ⟨rfl, hw⟩ := hq
        exact zs_call h0 F hk he9 (Or.inr (Or.inl ⟨hd, by rcases hw with (hw | hw) | hw <;> simp [hw]⟩)) hS hl ha1 ha2 h
      · exact h.elim
    · rename_i ht1
      split at hq
      · exact absurd rfl ‹_›
      · rw [Bool.and_eq_true] at hq
        obtain ⟨hi4, hint⟩ := hq
        split at h
        · obtain ⟨x, rest, rfl, hsum, h⟩ := zI1_of h
          exact va_mabs hx hb (hml.trans hl.1.symm) hown9 (hG _ (zIntW hint rfl) rfl) (hG _ w13 rfl) (hG _ w12 rfl) (hG _ zcd_abs rfl) (by omega) (by rw [hcsum]; omega) (by omega) (by omega) hd (K h H locs lsA hS hl ha1 ha2)
        · obtain ⟨x, y, rest, rfl, hsum, h⟩ := zI2_of h
          exact va_mmin hx hb (hml.trans hl.1.symm) hown9 (hG _ (zIntW hint rfl) rfl) (hG _ w14 rfl) (hG _ w12 rfl) (hG _ zcd_min rfl) (by omega) (by rw [hcsum]; omega) (by omega) (by omega) hd (K h H locs lsA hS hl ha1 ha2)
        · obtain ⟨x, y, rest, rfl, hsum, h⟩ := zI2_of h
          exact va_mmax hx hb (hml.trans hl.1.symm) hown9 (hG _ (zIntW hint rfl) rfl) (hG _ w15 rfl) (hG _ w12 rfl) (hG _ zcd_max rfl) (by omega) (by rw [hcsum]; omega) (by omega) (by omega) hd (K h H locs lsA hS hl ha1 ha2)
        · have hi3 : i = 3 := by
            simp only [decide_eq_true_eq] at hi4
            have z0 : ¬ i = 0 := ‹i = 0 → False›
            have z1 : ¬ i = 1 := ‹i = 1 → False›
            have z2 : ¬ i = 2 := ‹i = 2 → False›
            omega
          subst hi3
          split at h
          · obtain ⟨hsum, ht, ht0, hm, hm0, hne, g1, g2, g3, g4, g5, h⟩ := h
            exact zcp_i h0 F hd hint hsum ht ht0 hm hm0 g1 g2 g3 g4 g5 hne w9 w10 w11 hl.1 hS (fun H1 locs1 hS1 => K h H1 locs1 lsA hS1 hl ha1 ha2)
          · exact h.elim
  case invokevirtual n =>
    dsimp only at h hq
    rw [Bool.and_eq_true, beq_iff_eq] at hq
    obtain ⟨rfl, hq⟩ := hq
    split at h
    · rename_i e9 he9
      simp only [he9, Bool.and_eq_true, beq_iff_eq, Bool.or_eq_true] at hq
      obtain ⟨rfl, hw⟩ := hq
      exact zs_call h0 F hk he9 (Or.inl ⟨hd, hw⟩) hS hl ha1 ha2 h
    · exact h.elim
  case invokespecial n =>
    dsimp only at h hq
    rw [Bool.and_eq_true, beq_iff_eq] at hq
    obtain ⟨rfl, hq⟩ := hq
    split at h
    · split at h
      · rename_i e9 he9
        simp only [he9, Bool.and_eq_true, beq_iff_eq, Bool.or_eq_true] at hq
        obtain ⟨rfl, hw⟩ := hq
        exact zs_call h0 F hk he9 (Or.inr (Or.inr ⟨hd, hw⟩)) hS hl ha1 ha2 h
      · exact h.elim
    · split at hq
      · exact absurd rfl ‹_›
      · obtain ⟨r, rest, rfl, hsum, h⟩ := zR1_of h
        exact W.objInit hx hb hown9 (hG _ (zIntW hq rfl) rfl) (hG _ w16 rfl) (hG _ zcd_obj rfl) rfl (hl.1.trans hml.symm) rfl hd (by omega) (by rw [hcsum]; show 2 * 0 + _ + 12 ≤ _; omega) (K h H locs lsA hS hl ha1 ha2)
  case ireturn =>
    dsimp only at h hq
    simp only [Bool.and_eq_true, beq_iff_eq, decide_eq_true_eq] at hq
    subst hq
    split at h
    · exact hr1 H locs lsA M a _ pc _ hS h.2 h.1 ha1 ha2 hd (Or.inr (Or.inl ⟨rfl, _, rfl⟩))
    · exact h.elim
  case lreturn =>
    dsimp only at h hq
    simp only [Bool.and_eq_true, beq_iff_eq, decide_eq_true_eq] at hq
    subst hq
    split at h
    · exact hr1 H locs lsA M a _ pc _ hS h.2 h.1 ha1 ha2 hd (Or.inr (Or.inr (Or.inl ⟨rfl, _, rfl⟩)))
    · exact h.elim
  case freturn =>
    dsimp only at h hq
    simp only [Bool.and_eq_true, beq_iff_eq, decide_eq_true_eq] at hq
    subst hq
    split at h
    · exact hr1 H locs lsA M a _ pc _ hS h.2 h.1 ha1 ha2 hd (Or.inr (Or.inr (Or.inr (Or.inl ⟨rfl, _, rfl⟩))))
    · exact h.elim
  case dreturn =>
    dsimp only at h hq
    simp only [Bool.and_eq_true, beq_iff_eq, decide_eq_true_eq] at hq
    subst hq
    split at h
    · exact hr1 H locs lsA M a _ pc _ hS h.2 h.1 ha1 ha2 hd (Or.inr (Or.inr (Or.inr (Or.inr (Or.inl ⟨rfl, _, rfl⟩)))))
    · exact h.elim
  case areturn =>
    dsimp only at h hq
    simp only [Bool.and_eq_true, beq_iff_eq, decide_eq_true_eq] at hq
    subst hq
    split at h
    · exact hr1 H locs lsA M a _ pc _ hS h.2 h.1 ha1 ha2 hd (Or.inr (Or.inr (Or.inr (Or.inr (Or.inr ⟨rfl, _, rfl⟩)))))
    · exact h.elim
  case return_ =>
    dsimp only at h hq
    simp only [Bool.and_eq_true, beq_iff_eq, decide_eq_true_eq] at hq
    subst hq
    split at h
    · exact hr1 H locs lsA M a _ pc _ hS h.2 h.1 ha1 ha2 hd (Or.inl ⟨rfl, rfl⟩)
    · exact h.elim
  all_goals exact h.elim
end ZT
