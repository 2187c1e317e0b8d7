/-! ===== calls ===== -/
set_option maxRecDepth 100000 in
theorem zExs_nc : zExs.all (fun X => zExs.all (fun Y => X == Y || decide (Cond.not (.castable X Y) ∈ flatC (Jvm.Cond.and given_1 narrow_1)))) = true := by decide +kernel
set_option maxRecDepth 100000 in
theorem zExs_c : zExs.all (fun X => decide (Cond.castable X X ∈ lw_tbl)) = true := by decide +kernel
theorem zcw_at {c : Nat} (hc : c < 11) : (zCal c).map (fun e => lw_tbl[e.2.2.1.2.2.2.2]?) = (zCal c).map (fun e => some (zcw e.2.2.2.2.1)) := by
  match c, hc with
  | 0, _ => exact zcw_0
  | 1, _ => exact zcw_1
  | 2, _ => exact zcw_2
  | 3, _ => exact zcw_3
  | 4, _ => exact zcw_4
  | 5, _ => exact zcw_5
  | 6, _ => exact zcw_6
  | 7, _ => exact zcw_7
  | 8, _ => exact zcw_8
  | 9, _ => rfl
  | 10, _ => rfl
theorem zCal_of {c j : Nat} {e : Nat × Nat × (Nat × Nat × Nat × Nat × Nat) × Nat × zMeth × String} (h : (zCal c)[j]? = some e) : zCalB c e = true ∧ zcw e.2.2.2.2.1 ∈ lw_tbl := by
  have he : e ∈ zCal c := List.mem_of_getElem? h
  have hc : c < 11 := zc11 he (fun c hc => by unfold zCal; split <;> first | omega | rfl)
  refine ⟨List.all_eq_true.mp (List.all_eq_true.mp zCal_ok c (List.mem_range.mpr hc)) e he, ?_⟩
  have h1 := congrArg (fun l => l[j]?) (zcw_at hc)
  simp only [List.getElem?_map, h, Option.map_some] at h1
  exact List.mem_of_getElem? (Option.some.inj h1)
theorem zcw_good (y : zMeth) : goodWord (zcw y) = true := by
  unfold zcw
  split <;> rfl
theorem zback_k {E : zEn} {ret : Option FieldType} {k : List zV → zM → Prop} {v : Option zV} {M : zM} (h : zback ret k v M) : ∃ l, k l M ∧ l.map (zcv E) = (v.map (zcv E)).toList := by
  unfold zback at h
  split at h
  · obtain ⟨rfl, h⟩ := h
    exact ⟨_, h, rfl⟩
  · obtain ⟨r, rfl, h⟩ := h
    exact ⟨_, h, rfl⟩
  · obtain ⟨r, rfl, h⟩ := h
    exact ⟨_, h, rfl⟩
  · obtain ⟨r, rfl, h⟩ := h
    exact ⟨_, h, rfl⟩
  · obtain ⟨r, rfl, h⟩ := h
    exact ⟨_, h, rfl⟩
  · obtain ⟨r, rfl, h⟩ := h
    exact ⟨_, h, rfl⟩
theorem zpc_blind {E : zEn} {as : List zV} {M : zM} : FrameBlind (zpc E as M) := fun _ _ _ _ h => h
section ZL
variable {E : zEn} {m : zMeth} {d mc ms : Nat} {kr : Option zV → zM → Prop} {kx : String → zM → Prop} {p : Program} {e : Env} {R : Room} {s : State} {mm : MethodId} {args : Array Value} {below : List Frame} {meth : Method} {c : Code} {Q : State → Prop} {ls : zLs} {st : List zV} {M : zM} {a : Nat × Nat} {k : zKt}
theorem zrun {H : Heap} {locs : List Loc} {cells slots mc' ms' pc : Nat} {lsA : Array Slot} {st0 rest : List Value} {kr' : Option zV → zM → Prop} {kx' : String → zM → Prop} {a9 : Array Value}
    (hr : vx_Run p (zl E) e R s mm args below meth c H locs cells slots mc' ms' (F0 mm pc lsA st0) rest (zqc E kr' a9) (zxc E kx') (zA E)) (hS : zSt E M H locs)
    (kk : ∀ (v : Option zV) (M' : zM) (H1 : Heap) (locs1 : List Loc), kr' v M' → zSt E M' H1 locs1 → W p (zl E) e R s mm args below meth c H1 locs1 (cells + mc') (slots + ms') Q (F0 mm (pc + 3) lsA ((v.map (zcv E)).toList ++ rest)))
    (kxx : ∀ (X : String) (M' : zM) (H1 : Heap) (locs1 : List Loc) (w : Nat) (ce : Cell), kx' X M' → zSt E M' H1 locs1 → H1[w]? = some ce → ce.vm = .none → s.vm.findClass X = some ce.cls → vx_W p (zl E) e R s mm args below meth c H1 locs1 (cells + mc') (slots + ms') Q (F0 mm pc lsA rest) w) : W p (zl E) e R s mm args below meth c H locs cells slots Q (F0 mm pc lsA st0) := by
  intro T hT X
  rcases hr T hT X with ⟨v, st₀, t, T', L, h0, X', hL, e1, e2, ⟨v', M', hv, hp, hb⟩, st⟩ | ⟨q, st₀, t, T', L, X9, ce, h0, X', hL, e1, e2, ⟨M', hp, hb⟩, hce, hcv, hcl, st⟩
  · cases hv
    obtain ⟨t2, a1, b1⟩ := kk v' M' T'.heap (locs ++ L) hp (by rw [e1]; exact zSt_back hb hS.2.1.2.2 hL) T' rfl X'
    exact ⟨t2, st t2 a1, b1⟩
  · obtain ⟨t2, a1, b1⟩ := kxx X9 M' T'.heap (locs ++ L) q ce hp (by rw [e1]; exact zSt_back hb hS.2.1.2.2 hL) (by rw [e1]; exact hce) hcv hcl T' rfl X'
    exact ⟨t2, st.trans a1, b1⟩
theorem zhand_some {pc h : Nat} {X : String} (hz : zhand m pc X = some h) : ∃ (pre : List (Nat × Nat × Nat × Nat)) (x : Nat × Nat × Nat × Nat) (suf : List (Nat × Nat × Nat × Nat)), m.2.2.2.2.2 = pre ++ x :: suf ∧ x.2.2.1 = h ∧ (x.1 ≤ pc ∧ pc < x.2.1 ∧ (zCll m.2.2.2.2.1).any (fun e => e.1 == x.2.2.2 && e.2.2 == X) = true) ∧ ∀ z ∈ pre, ¬ (z.1 ≤ pc ∧ pc < z.2.1) ∨ (zCll m.2.2.2.2.1).any (fun e => e.1 == z.2.2.2 && e.2.2 == X) = false := by
  unfold zhand at hz
  obtain ⟨x, hx, rfl⟩ := Option.map_eq_some_iff.mp hz
  obtain ⟨h1, pre, suf, h2, h3⟩ := List.find?_eq_some_iff_append.mp hx
  simp only [Bool.and_eq_true, decide_eq_true_eq] at h1
  refine ⟨pre, x, suf, h2, rfl, ⟨h1.1.1, h1.1.2, h1.2⟩, fun z hz => ?_⟩
  have := h3 z hz
  simp only [Bool.not_eq_true', Bool.and_eq_false_iff, decide_eq_false_iff_not] at this
  rcases this with (h | h) | h
  · exact Or.inl (fun g => h g.1)
  · exact Or.inl (fun g => h g.2)
  · exact Or.inr h
theorem zEx_of {n : Nat} (hb : (zCll 8).any (fun e => e.1 == n) = true) (ha : (zCll 8).all (fun e => e.1 != n || zExs.contains e.2.2) = true) : ∃ Y, Y ∈ zExs ∧ (zCll 8).any (fun e => e.1 == n && e.2.2 == Y) = true := by
  obtain ⟨e, he, h1⟩ := List.any_eq_true.mp hb
  have h2 := List.all_eq_true.mp ha e he
  simp only [beq_iff_eq] at h1
  simp only [Bool.or_eq_true, bne_iff_ne, List.contains_iff_mem] at h2
  exact ⟨e.2.2, h2.resolve_left (fun h => h h1), List.any_eq_true.mpr ⟨e, he, by simp [h1]⟩⟩
theorem zEx_in {n : Nat} {X : String} (h : (zCll 8).any (fun e => e.1 == n && e.2.2 == X) = true) (ha : (zCll 8).all (fun e => e.1 != n || zExs.contains e.2.2) = true) : X ∈ zExs := by
  obtain ⟨e, he, h1⟩ := List.any_eq_true.mp h
  simp only [Bool.and_eq_true, beq_iff_eq] at h1
  obtain ⟨h1, rfl⟩ := h1
  have h2 := List.all_eq_true.mp ha e he
  simp only [Bool.or_eq_true, bne_iff_ne, List.contains_iff_mem] at h2
  exact h2.resolve_left (fun h => h h1)
theorem zs_catch (h0 : zOk E) (F : zFr E m d mc ms kr kx p e R s mm args below meth c Q) {pc h w cells slots : Nat} {X : String} {ce : Cell} {H : Heap} {locs : List Loc} {lsA : Array Slot} {rest : List Value} (hz : zhand m pc X = some h) (hce : H[w]? = some ce) (hcv : ce.vm = .none) (hcl : s.vm.findClass X = some ce.cls)
    (kk : W p (zl E) e R s mm args below meth c H locs cells slots Q (F0 mm h lsA [.ref w])) : vx_W p (zl E) e R s mm args below meth c H locs cells slots Q (F0 mm pc lsA rest) w := by
  obtain ⟨hx, hb, hml, hown, hW, hex, hnm, ⟨hcls, hmB⟩, hR, -⟩ := F
  obtain ⟨pre, x, suf, h1, rfl, ⟨g1, g2, g3⟩, h4⟩ := zhand_some hz
  have hB : m.2.2.2.2.1 = 8 ∧ ∀ z ∈ pre ++ x :: suf, zhhB z = true := by
    unfold zmB at hmB
    rw [h1] at hmB
    simp only [Bool.or_eq_true, Bool.and_eq_true, beq_iff_eq] at hmB
    rcases hmB with hmB | hmB
    · exact absurd hmB (by simp)
    · exact ⟨hmB.1, List.all_eq_true.mp hmB.2⟩
  obtain ⟨hc8, hB⟩ := hB
  rw [hcls, hc8] at hown
  rw [hc8] at g3 h4
  have hh : ∀ z ∈ pre ++ x :: suf, z.2.2.2 ≠ 0 ∧ (zCll 8).any (fun e => e.1 == z.2.2.2) = true ∧ (zCll 8).all (fun e => e.1 != z.2.2.2 || zExs.contains e.2.2) = true := by
    intro z hz
    have := hB z hz
    unfold zhhB at this
    simp only [Bool.and_eq_true, bne_iff_ne] at this
    exact ⟨this.1.1, this.1.2, this.2⟩
  have hXx := zEx_in g3 (hh x (by simp)).2.2
  have w0 := fun (a : List Cond) (w : Cond) (hw : w ∈ a) => hw
  refine vx_catch hown (tableOf pre) ⟨x.1, x.2.1, x.2.2.1, x.2.2.2⟩ (tableOf suf) ?_ (fun z hz => ?_) ?_ (hh x (by simp)).1 (zword h0 hW (zCll_of g3) rfl args) ?_ hce hcv hcl kk
  · rw [hex, h1]
    unfold tableOf
    rw [List.map_append]
    rfl
  · unfold tableOf at hz
    obtain ⟨z9, hz9, rfl⟩ := List.mem_map.mp hz
    obtain ⟨k1, k2, k3⟩ := hh z9 (List.mem_append_left _ hz9)
    rcases h4 z9 hz9 with g | g
    · refine Or.inl ?_
      show (decide (z9.1 ≤ pc) && decide (pc < z9.2.1)) = false
      by_cases a1 : z9.1 ≤ pc
      · have a2 : ¬ pc < z9.2.1 := fun a2 => g ⟨a1, a2⟩
        simp [a2]
      · simp [a1]
    · refine Or.inr ⟨k1, ?_⟩
      obtain ⟨Y, hY, hYn⟩ := zEx_of k2 k3
      refine ⟨Y, zword h0 hW (zCll_of hYn) rfl args, ?_⟩
      have hne : X ≠ Y := by
        intro e
        subst e
        rw [hYn] at g
        cases g
      have h9 := List.all_eq_true.mp (List.all_eq_true.mp zExs_nc X hXx) Y hY
      simp only [Bool.or_eq_true, beq_iff_eq, decide_eq_true_eq] at h9
      exact va_Nc.moved hW.alike (va_Nc.of (flat_of_before _ h0.2.2.2.2.2 _ (h9.resolve_left hne)))
  · show (decide (x.1 ≤ pc) && decide (pc < x.2.1)) = true
    simp [g1, g2]
  · have h9 := List.all_eq_true.mp zExs_c X hXx
    simp only [decide_eq_true_eq] at h9
    exact va_Nw.use rfl (va_Nw.warmC hW (va_Nw.of rfl (h0.1 _ h9)))
set_option maxHeartbeats 1000000 in
theorem zs_call (h0 : zOk E) (F : zFr E m d mc ms kr kx p e R s mm args below meth c Q) (hk : ∀ pc ls st M a, k pc ls st M a → zWw E m mc ms p e R s mm args below meth c Q pc ls st M a) {pc j : Nat} {e9 : Nat × Nat × (Nat × Nat × Nat × Nat × Nat) × Nat × zMeth × String} (hj : (zCal m.2.2.2.2.1)[j]? = some e9)
    (hd : (decode m.2.1 pc = .ok (.invokevirtual e9.1, 3) ∧ (e9.2.1 = 0 ∨ e9.2.1 = 1)) ∨ (decode m.2.1 pc = .ok (.invokestatic e9.1, 3) ∧ (e9.2.1 = 2 ∨ e9.2.1 = 3 ∨ e9.2.1 = 6)) ∨ (decode m.2.1 pc = .ok (.invokespecial e9.1, 3) ∧ (e9.2.1 = 4 ∨ e9.2.1 = 5)))
    {H : Heap} {locs : List Loc} {lsA : Array Slot} (hS : zSt E M H locs) (hl : lv_has lsA m.2.2.1 (zcL E ls)) (ha1 : a.1 ≤ mc) (ha2 : a.2 ≤ ms) (h : zcall E m d mc ms pc e9.2.1 e9.2.2.2.1 e9.2.2.2.2.1 ls st M a k kx) : W p (zl E) e R s mm args below meth c H locs a.1 a.2 Q (F0 mm pc lsA (st.map (zcv E))) := by
  have F9 := F
  obtain ⟨hx, hb, hml, hown, hW, hex, hnm, ⟨hcls, hmB⟩, hR, hr1, hr2, hr3⟩ := F9
  rw [hcls] at hown
  obtain ⟨hB, hcw⟩ := zCal_of hj
  obtain ⟨idx, way, ⟨w1, w2, w3, w4, w5⟩, n, y, host⟩ := e9
  unfold zCalB at hB
  simp only [Bool.and_eq_true, decide_eq_true_eq, beq_iff_eq, Bool.or_eq_true, Bool.not_eq_true'] at hB
  dsimp only at hd h hcw
  obtain ⟨hn, h⟩ := h
  -- the words
  have hG := fun (w : Cond) (hm : w ∈ lw_tbl) (hg : goodWord w = true) => zword h0 hW hm hg args
  have hyG : ∀ w ∈ [zcw y], ∀ (a' : Array Value) (U : State), s.WarmedH U.vm → w.before a' U = true := by
    intro w hw a' U hU
    rw [List.mem_singleton.mp hw]
    exact zword h0 (State.WarmedH.trans hW hU) hcw (zcw_good y) a'
  obtain ⟨⟨⟨⟨⟨⟨⟨⟨⟨⟨⟨b1, b2⟩, b3⟩, b4⟩, b5⟩, b6⟩, b7⟩, b8⟩, b9⟩, b10⟩, b11⟩, b12⟩ := hB
  have hcsum : ∀ rest : List zV, (List.map (fun v : Value => v.category) (rest.map (zcv E))).sum = (rest.map zcat).sum := by
    intro rest
    rw [List.map_map]
    have : ((fun v : Value => v.category) ∘ zcv E) = zcat := funext fun v => zcat_cv E v
    rw [this]
  have hlen : ((st.take n).reverse.map (zcv E)).length = n := by simp; omega
  have hst : st.map (zcv E) = ((st.take n).reverse.map (zcv E)).reverse ++ (st.drop n).map (zcv E) := by
    rw [← List.map_reverse, List.reverse_reverse, ← List.map_append, List.take_append_drop]
  have hsel : (way = 0 ∨ way = 1) → (Cond.selects y.1.cls y.1 y.1).before args s = true := by
    intro hw
    have h1 : lw_tbl[w3]? = some (.selects y.1.cls y.1 y.1) := by
      rcases b3 with b3 | b3
      · rcases hw with rfl | rfl <;> simp at b3
      · exact b3
    exact hG _ (List.mem_of_getElem? h1) rfl
  have hini : (Cond.initialized y.1.cls).before args s = true := hG _ (List.mem_of_getElem? b4) rfl
  have hpar : ∀ sig, parseMethodDescriptor y.1.desc = some sig → n = sig.parameters.length := by
    intro sig hs
    rw [hs] at b7
    exact (Option.some.inj b7).symm
  have hne : y.1.cls ≠ "java/lang/invoke/MethodHandle" ∧ y.1.cls ≠ "java/lang/invoke/VarHandle" := by simpa using b9
  have fin : ∀ (rest : List zV) (mc' ms' : Nat) (a9 : Array Value), a.1 + mc' ≤ mc → a.2 + ms' ≤ ms → vx_Run p (zl E) e R s mm args below meth c H locs a.1 a.2 mc' ms' (F0 mm pc lsA (st.map (zcv E))) (rest.map (zcv E)) (zqc E (zback y.2.2.2.1 (fun v M' => k (pc + 3) ls (v ++ rest) M' (a.1 + mc', a.2 + ms'))) a9) (zxc E (fun X M' => match zhand m pc X with
        | some h => ∀ w : Nat, k h ls [.inl (.ref w)] M' (a.1 + mc', a.2 + ms')
        | none => kx X M')) (zA E) → W p (zl E) e R s mm args below meth c H locs a.1 a.2 Q (F0 mm pc lsA (st.map (zcv E))) := by
    intro rest mc' ms' a9 g1 g2 hr
    refine zrun hr hS (fun v M' H1 locs1 hv hS1 => ?_) (fun X M' H1 locs1 w ce hX hS1 hce hcv hcl => ?_)
    · obtain ⟨l9, hkl, hl9⟩ := zback_k (E := E) hv
      have := hk _ _ _ _ _ hkl H1 locs1 lsA hS1 hl g1 g2
      rw [List.map_append, hl9] at this
      exact this
    · cases hz : zhand m pc X with
      | some h9 =>
        rw [hz] at hX
        exact zs_catch h0 F hz hce hcv hcl (hk _ _ _ _ _ (hX w) H1 locs1 lsA hS1 hl g1 g2)
      | none =>
        rw [hz] at hX
        exact hr3 X H1 locs1 lsA M' (a.1 + mc', a.2 + ms') pc w ce _ hS1 hX g1 g2 hce hcv hcl hz
  have hrm : 1 ≤ d → (zrm (d - 1) 0 0).frames + 1 ≤ R.frames ∧ 8 + (y.2.2.1 + 11) + (40 * (d - 1) + 400) ≤ R.locals := by
    intro hd1
    refine ⟨?_, ?_⟩
    · show d - 1 + 8 + 1 ≤ _
      omega
    · omega
  have hcode6 : (way = 6 ↔ y.2.2.2.2.2 ≠ []) := by
    by_cases g : way = 6
    · subst g
      simpa using b6
    · have : (way == 6) = false := by simpa using g
      rw [this] at b6
      simp only [g, false_iff]
      simpa using b6.symm
  have hzcw : way ≠ 6 → zcw y = .code y.1 y.2.1 y.2.2.1 y.2.2.2.1 := by
    intro g
    have : y.2.2.2.2.2 = [] := by
      by_cases h9 : y.2.2.2.2.2 = []
      · exact h9
      · exact absurd (hcode6.mpr h9) g
    unfold zcw
    rw [if_pos this]
  have hpre : ∀ (as9 : List zV) (U : State), U.heap = H → s.WarmedH U.vm → zpc E as9 M (as9.map (zcv E)).toArray U := fun as9 U hU hWU => ⟨rfl, State.WarmedH.trans hW hWU, by rw [hU]; exact zSt_locs hS⟩
  have hlink0 : host = "" → (Cond.methodLink (zcn m.2.2.2.2.1) idx y.1).before args s = true := by
    intro hh
    rw [if_pos hh] at b1
    exact hG _ (List.mem_of_getElem? b1) rfl
  have hlink1 : host ≠ "" → (Cond.methodLinkNest (zcn m.2.2.2.2.1) idx y.1 host).before args s = true := by
    intro hh
    rw [if_neg hh] at b1
    exact zwordM h0 hW (List.mem_of_getElem? b1)
  have zR : ∀ {k9 : zL → List zV → Prop}, zR1 (st.drop n) k9 → ∃ q rest, st.drop n = .inr q :: rest ∧ k9 q rest := by
    intro k9 h9
    unfold zR1 at h9
    split at h9
    · exact ⟨_, _, by assumption, h9⟩
    · exact h9.elim
  rcases hd with ⟨hd, hw⟩ | ⟨hd, hw⟩ | ⟨hd, hw⟩
  · have hinst : (Cond.instanceMethod y.1).before args s = true := by
      rw [if_neg (by omega)] at b2
      exact hG _ (List.mem_of_getElem? b2) rfl
    have hse := hsel hw
    rcases hw with rfl | rfl
    · obtain ⟨q, rest, hdr, hqc, hqm, hsum, hd1, mc', ms', ⟨g1, g2⟩, hC⟩ := zR h
      have hpl := zws_get (E := E) hqm
      have h8 : y.2.2.2.2.1 < 8 := by
        rcases b12 with h9 | h9
        · simp at h9
        · exact h9
      rw [zco_o hqc h8] at hpl
      have hrv := va_recv (zK h0 hW) hS.1 (zCl_at h8) hpl
      have e11 : y.1.cls = zcn y.2.2.2.2.1 := b11
      have hz := hzcw (by decide)
      rw [hdr] at hst
      refine fin rest mc' ms' _ g1 g2 (vx_runV (C := y.1.cls) (b := zad E q) (As := (st.take n).reverse.map (zcv E)) (rest := rest.map (zcv E)) (n := n) (bytes := y.2.1) (maxL := y.2.2.1) (ret := y.2.2.2.1) ⟨hx, hb, hml, hown, fun w hw => absurd hw List.not_mem_nil⟩ hC ⟨⟨rfl, rfl, (hrm hd1).1, (hrm hd1).2, hyG, by rw [hz]; exact List.mem_singleton.mpr rfl, by rw [← hz]; exact hG _ hcw (zcw_good y), hini, hne, hpar, hlink0 (by simpa using b5)⟩, hinst, hse⟩ ⟨zpc_blind, by rw [e11]; exact hrv, fun U hU hWU => hpre (.inr q :: (st.take n).reverse) U hU hWU⟩ rfl hlen hl.1 hst (by show 2 * 0 + _ ≤ 8; rw [hcsum]; omega) hd ⟨by omega, by omega⟩)
    · obtain ⟨q, rest, hdr, hqc, hqm, hsum, hd1, mc', ms', ⟨g1, g2⟩, hC⟩ := zR h
      have hpl := zws_get (E := E) hqm
      have h8 : y.2.2.2.2.1 < 8 := by
        rcases b12 with h9 | h9
        · simp at h9
        · exact h9
      rw [zco_o hqc h8] at hpl
      have hrv := va_recv (zK h0 hW) hS.1 (zCl_at h8) hpl
      have e11 : y.1.cls = zcn y.2.2.2.2.1 := b11
      have hz := hzcw (by decide)
      rw [hdr] at hst
      refine fin rest mc' ms' _ g1 g2 (vx_runVN (C := y.1.cls) (b := zad E q) (As := (st.take n).reverse.map (zcv E)) (rest := rest.map (zcv E)) (n := n) (bytes := y.2.1) (maxL := y.2.2.1) (ret := y.2.2.2.1) ⟨hx, hb, hml, hown, fun w hw => absurd hw List.not_mem_nil⟩ hC ⟨⟨⟨rfl, rfl, (hrm hd1).1, (hrm hd1).2, hyG, by rw [hz]; exact List.mem_singleton.mpr rfl⟩, by rw [← hz]; exact hG _ hcw (zcw_good y), hini, hne, hpar, hlink1 (by simpa using b5)⟩, hinst, hse⟩ ⟨zpc_blind, by rw [e11]; exact hrv, fun U hU hWU => hpre (.inr q :: (st.take n).reverse) U hU hWU⟩ rfl hlen hl.1 hst (by show 2 * 0 + _ ≤ 8; rw [hcsum]; omega) hd ⟨by omega, by omega⟩)
  · have hstat : (Cond.static y.1).before args s = true := by
      rw [if_pos (by omega)] at b2
      exact hG _ (List.mem_of_getElem? b2) rfl
    rcases hw with rfl | rfl | rfl
    · obtain ⟨hsum, hd1, mc', ms', ⟨g1, g2⟩, hC⟩ := h
      have hz := hzcw (by decide)
      refine fin (st.drop n) mc' ms' _ g1 g2 (vx_runS (As := (st.take n).reverse.map (zcv E)) (rest := (st.drop n).map (zcv E)) (n := n) (bytes := y.2.1) (maxL := y.2.2.1) (ret := y.2.2.2.1) ⟨hx, hb, hml, hown, fun w hw => absurd hw List.not_mem_nil⟩ hC ⟨⟨rfl, rfl, (hrm hd1).1, (hrm hd1).2, hyG, by rw [hz]; exact List.mem_singleton.mpr rfl, by rw [← hz]; exact hG _ hcw (zcw_good y), hini, hne, hpar, hlink0 (by simpa using b5)⟩, hstat⟩ ⟨zpc_blind, fun U hU hWU => hpre (st.take n).reverse U hU hWU⟩ rfl hlen hl.1 hst (by show 2 * 0 + _ ≤ 8; rw [hcsum]; omega) hd ⟨by omega, by omega⟩)
    · obtain ⟨hsum, hd1, mc', ms', ⟨g1, g2⟩, hC⟩ := h
      have hz := hzcw (by decide)
      refine fin (st.drop n) mc' ms' _ g1 g2 (vx_runSN (As := (st.take n).reverse.map (zcv E)) (rest := (st.drop n).map (zcv E)) (n := n) (bytes := y.2.1) (maxL := y.2.2.1) (ret := y.2.2.2.1) ⟨hx, hb, hml, hown, fun w hw => absurd hw List.not_mem_nil⟩ hC ⟨⟨⟨rfl, rfl, (hrm hd1).1, (hrm hd1).2, hyG, by rw [hz]; exact List.mem_singleton.mpr rfl⟩, by rw [← hz]; exact hG _ hcw (zcw_good y), hini, hne, hpar, hlink1 (by simpa using b5)⟩, hstat, trivial⟩ ⟨zpc_blind, fun U hU hWU => hpre (st.take n).reverse U hU hWU⟩ rfl hlen hl.1 hst (by show 2 * 0 + _ ≤ 8; rw [hcsum]; omega) hd ⟨by omega, by omega⟩)
    · obtain ⟨hsum, hd1, mc', ms', ⟨g1, g2⟩, hC⟩ := h
      have hz : zcw y = .codeWith y.1 y.2.1 y.2.2.1 y.2.2.2.1 y.2.2.2.2.2 := by
        unfold zcw
        rw [if_neg (hcode6.mp rfl)]
      refine fin (st.drop n) mc' ms' _ g1 g2 (vx_runSX (hh := y.2.2.2.2.2) (As := (st.take n).reverse.map (zcv E)) (rest := (st.drop n).map (zcv E)) (n := n) (bytes := y.2.1) (maxL := y.2.2.1) (ret := y.2.2.2.1) ⟨hx, hb, hml, hown, fun w hw => absurd hw List.not_mem_nil⟩ hC ⟨⟨rfl, rfl, (hrm hd1).1, (hrm hd1).2, hyG, by rw [hz]; exact List.mem_singleton.mpr rfl⟩, by rw [← hz]; exact hG _ hcw (zcw_good y), hini, hne, hpar, hlink0 (by simpa using b5), hstat⟩ ⟨zpc_blind, fun U hU hWU => hpre (st.take n).reverse U hU hWU⟩ rfl hlen hl.1 hst (by show 2 * 0 + _ ≤ 8; rw [hcsum]; omega) hd ⟨by omega, by omega⟩)
  · have hinst : (Cond.instanceMethod y.1).before args s = true := by
      rw [if_neg (by omega)] at b2
      exact hG _ (List.mem_of_getElem? b2) rfl
    have hb10 : y.1.name = "<init>" ∧ y.2.2.2.1 = none := by
      rcases b10 with h9 | h9
      · rcases hw with rfl | rfl <;> simp at h9
      · exact h9
    rcases hw with rfl | rfl
    · obtain ⟨q, rest, hdr, hsum, hd1, mc', ms', ⟨g1, g2⟩, hC⟩ := zR h
      have hz := hzcw (by decide)
      rw [hdr] at hst
      rw [hb10.2] at hz
      refine fin rest mc' ms' _ g1 g2 (vx_runI (b := zad E q) (As := (st.take n).reverse.map (zcv E)) (rest := rest.map (zcv E)) (n := n) (bytes := y.2.1) (maxL := y.2.2.1) ⟨hx, hb, hml, hown, fun w hw => absurd hw List.not_mem_nil⟩ hC ⟨⟨rfl, rfl, (hrm hd1).1, (hrm hd1).2, hyG, by rw [hz]; exact List.mem_singleton.mpr rfl, by rw [← hz]; exact hG _ hcw (zcw_good y), hini, hne, hpar, hlink0 (by simpa using b5)⟩, hb10.1, hinst⟩ ⟨zpc_blind, fun U hU hWU => hpre (.inr q :: (st.take n).reverse) U hU hWU⟩ rfl hlen hl.1 hst (by show 2 * 0 + _ ≤ 8; rw [hcsum]; omega) hd ⟨by omega, by omega⟩)
    · obtain ⟨q, rest, hdr, hsum, hd1, mc', ms', ⟨g1, g2⟩, hC⟩ := zR h
      have hz := hzcw (by decide)
      rw [hdr] at hst
      rw [hb10.2] at hz
      refine fin rest mc' ms' _ g1 g2 (vx_runIN (b := zad E q) (As := (st.take n).reverse.map (zcv E)) (rest := rest.map (zcv E)) (n := n) (bytes := y.2.1) (maxL := y.2.2.1) ⟨hx, hb, hml, hown, fun w hw => absurd hw List.not_mem_nil⟩ hC ⟨⟨⟨rfl, rfl, (hrm hd1).1, (hrm hd1).2, hyG, by rw [hz]; exact List.mem_singleton.mpr rfl⟩, by rw [← hz]; exact hG _ hcw (zcw_good y), hini, hne, hpar, hlink1 (by simpa using b5)⟩, hb10.1, hinst⟩ ⟨zpc_blind, fun U hU hWU => hpre (.inr q :: (st.take n).reverse) U hU hWU⟩ rfl hlen hl.1 hst (by show 2 * 0 + _ ≤ 8; rw [hcsum]; omega) hd ⟨by omega, by omega⟩)
end ZL
