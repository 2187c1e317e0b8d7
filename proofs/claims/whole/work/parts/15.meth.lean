/-! ===== a stretch of code, a method ===== -/
def zgt (w : Cond) : Bool := goodWord w || (match w with
  | .privateMethod _ => true
  | .castable _ _ => true
  | .declares _ => true
  | _ => false)
theorem zwordT {E : zEn} (h0 : zOk E) {s : State} (hW : (zs E).WarmedH s.vm) {w : Cond} (hm : w ∈ lw_tbl) (hg : zgt w = true) (args : Array Value) : w.before args s = true := by
  unfold zgt at hg
  rw [Bool.or_eq_true] at hg
  rcases hg with hg | hg
  · exact zword h0 hW hm hg args
  · have h1 := h0.1 _ hm
    split at hg
    · exact Cond.privateMethod_warm hW h1
    · exact va_Nw.use rfl (va_Nw.warmC hW (va_Nw.of rfl h1))
    · exact va_Nw.use rfl (va_Nw.warmD hW (va_Nw.of rfl h1))
    · cases hg
abbrev zNs : List String := ["java/lang/RuntimeException", "java/lang/Exception"]
/-- of a throw: the constructor's entry and the class -/
def zThx : List (Nat × String) := [(95, "java/lang/IllegalArgumentException"), (112, "java/util/NoSuchElementException"), (162, "java/lang/UnsupportedOperationException"), (238, "java/lang/IllegalStateException"), (314, "java/lang/ArithmeticException"), (330, "java/lang/IndexOutOfBoundsException")]
def zAtW (ic : Nat) (X : String) : List Cond := if ic = 112 then zatX "Patternroom" ic X zNs else vx_atS "Patternroom" ic X zNs
set_option maxRecDepth 100000 in
theorem zThx_ok : zThx.all (fun q => (zAtW q.1 q.2).all (fun w => decide (w ∈ lw_tbl) && zgt w && vx_ot w) && Bundle.fit q.2 && decide (Cond.initialized q.2 ∈ lw_tbl)) = true := by decide +kernel
set_option maxRecDepth 100000 in
theorem zThr_ok : (zThr 6).all (fun e => zThx.contains (e.2.2.1, e.2.2.2.2.1) && (zCll 6).any (fun f => f.1 == e.1 && f.2.2 == e.2.2.2.2.1) && decide (Cond.stringRef "Patternroom" e.2.1 e.2.2.2.2.2 ∈ lw_tbl) && decide (Cond.exactly (.string "Patternroom" e.2.1) "java/lang/String" ∈ flatC (Jvm.Cond.and given_1 narrow_1))) = true := by decide +kernel
theorem zNs_fit : ∀ n ∈ zNs, Bundle.fit n = true := by decide +kernel
set_option maxRecDepth 100000 in
theorem zTs_ok : decide (Cond.laysStatic Bundle.tN "UNASSIGNED_STACK" Bundle.steD ∈ lw_tbl) && decide (Cond.laysStatic Bundle.tN "SUPPRESSED_SENTINEL" Bundle.listD ∈ lw_tbl) && decide (Cond.initialized Bundle.tN ∈ lw_tbl) && decide (Cond.isRef (.static Bundle.tN "UNASSIGNED_STACK" Bundle.steD) ∈ flatC (Jvm.Cond.and given_1 narrow_1)) && decide (Cond.isRef (.static Bundle.tN "SUPPRESSED_SENTINEL" Bundle.listD) ∈ flatC (Jvm.Cond.and given_1 narrow_1)) = true := by decide +kernel
theorem zStat {E : zEn} (h0 : zOk E) {s : State} (hW : (zs E).WarmedH s.vm) {M : zM} (hS : zSt E M s.heap []) : vx_Zq Bundle.tN "UNASSIGNED_STACK" Bundle.steD (zA E) s s.heap ∧ vx_Zq Bundle.tN "SUPPRESSED_SENTINEL" Bundle.listD (zA E) s s.heap := by
  have h := zTs_ok
  simp only [Bool.and_eq_true, decide_eq_true_eq] at h
  obtain ⟨⟨⟨⟨h1, h2⟩, h3⟩, h4⟩, h5⟩ := h
  have hA : ∀ a : Nat, a < (zs E).heap.size → ¬ zA E a := fun a h9 h10 => absurd h9 (Nat.not_lt.mpr h10)
  have hk : ∀ a : Nat, a < (zs E).heap.size → ¬ zA E a → s.heap[a]? = (zs E).heap[a]? := fun a h9 h10 => hS.2.1.2.1 a h9 h10
  exact ⟨((vx_Zqof (h0.1 _ h1) (h0.1 _ h3) (flat_of_before _ h0.2.2.2.2.2 _ h4) hA).moved hW.alike).kept hk, ((vx_Zqof (h0.1 _ h2) (h0.1 _ h3) (flat_of_before _ h0.2.2.2.2.2 _ h5) hA).moved hW.alike).kept hk⟩
section ZX
variable {E : zEn} {m : zMeth} {d mc ms : Nat} {kr : Option zV → zM → Prop} {kx : String → zM → Prop} {p : Program} {e : Env} {R : Room} {s : State} {mm : MethodId} {args : Array Value} {below : List Frame} {meth : Method} {c : Code} {Q : State → Prop} {ls : zLs} {st : List zV} {M : zM} {a : Nat × Nat} {k : zKt}
/-- the throw of a method of the abstract machine -/
theorem zthrow (h0 : zOk E) {M0 : zM} (hS0 : zSt E M0 s.heap []) (hx : p.tables.exec = Jvm.exec) (hb : c.code = m.2.1) (hml : c.maxLocals = m.2.2.1) (hown : s.vm.findClass m.1.cls = some mm.cls) (hW : (zs E).WarmedH s.vm) (hex : c.exceptionTable.toList = tableOf m.2.2.2.2.2) (hcls : m.1.cls = zcn m.2.2.2.2.1) (hR : d + 8 ≤ R.frames ∧ 40 * d + 400 ≤ R.locals ∧ mc ≤ R.cells ∧ ms ≤ R.slots) (hlocks : meth.locks = false)
    {H : Heap} {locs : List Loc} {lsA : Array Slot} {pc n i j t : Nat} {cc : Int32} {tx : String} {rest : List Value} (hS : zSt E M H locs) (hkx : kx tx M) (b1 : a.1 + 1 ≤ mc) (b2 : a.2 + 6 ≤ ms) (hsum : (rest.map fun v => v.category).sum ≤ 100) (hsz : lsA.size = m.2.2.1) (h8 : ¬ i < 8) (hq : zrb m (pc, .new n, 3, (i, j, t), cc, tx) = true) (hfull : 176 ≤ M.2.2.2.2) :
    W p (zl E) e R s mm args below meth c H locs a.1 a.2 (vx_MQ below (zqc E kr) (zxc E kx) args s mc ms (zA E)) (F0 mm pc lsA rest) := by
  unfold zrb at hq
  simp only [if_neg h8, Bool.and_eq_true, decide_eq_true_eq] at hq
  obtain ⟨hd, -, hh, hq⟩ := hq
  have hh : m.2.2.2.2.2 = [] := by simpa using hh
  obtain ⟨e9, he9, hq9⟩ := List.any_eq_true.mp hq
  clear hq
  simp only [Bool.and_eq_true, beq_iff_eq] at hq9
  obtain ⟨⟨rfl, rfl⟩, hq⟩ := hq9
  have hc6 : m.2.2.2.2.1 = 6 := by
    by_cases h9 : m.2.2.2.2.1 = 6
    · exact h9
    · exfalso
      have : zThr m.2.2.2.2.1 = [] := by
        unfold zThr
        split <;> first | exact absurd ‹_› h9 | rfl
      rw [this] at he9
      cases he9
  rw [hc6] at he9 hcls
  have hcls : m.1.cls = "Patternroom" := hcls
  rw [hcls] at hown
  have h2 := List.all_eq_true.mp zThr_ok e9 he9
  simp only [Bool.and_eq_true, decide_eq_true_eq, List.contains_iff_mem] at h2
  obtain ⟨⟨⟨g1, g2⟩, g3⟩, g4⟩ := h2
  have h3 := List.all_eq_true.mp zThx_ok _ g1
  simp only [Bool.and_eq_true, decide_eq_true_eq] at h3
  obtain ⟨⟨h3, h4⟩, h5⟩ := h3
  have h6 : ∀ w ∈ zAtW e9.2.2.1 e9.2.2.2.2.1, (w ∈ lw_tbl ∧ zgt w = true) ∧ vx_ot w = true := by
    intro w hw
    have := List.all_eq_true.mp h3 w hw
    simpa only [Bool.and_eq_true, decide_eq_true_eq] using this
  obtain ⟨sa, _, _, _, hsa, -⟩ := Cond.exactly_spec (flat_of_before _ h0.2.2.2.2.2 _ g4)
  have hstr : vk_R "Patternroom" e9.2.1 e9.2.2.2.2.2 sa s := vk_R.warm hW (vk_R.of (h0.1 _ g3) hsa)
  obtain ⟨hU, hN⟩ := zStat h0 hW hS0
  have hgood : ∀ w ∈ Cond.classLink "Patternroom" e9.1 e9.2.2.2.2.1 :: Cond.initialized e9.2.2.2.2.1 :: zAtW e9.2.2.1 e9.2.2.2.2.1, vx_ot w = true := by
    intro w hw
    rcases List.mem_cons.mp hw with rfl | hw
    · rfl
    · rcases List.mem_cons.mp hw with rfl | hw
      · rfl
      · exact (h6 w hw).2
  have hnil : c.exceptionTable.toList = [] := by rw [hex, hh]; rfl
  intro T hT X
  have hgr := X.heapGrown
  rw [hT] at hgr
  have hS9 : va_S (zA E) s.heap H locs := ⟨hgr, fun q h1 h2 => by
    have hq : q < (zs E).heap.size := Nat.not_le.mp h2
    rw [hS.2.1.2.1 q hq h2, hS0.2.1.2.1 q hq h2], hS.2.1.2.2⟩
  have hxx : ∀ t : State, s.vm.Alike t.vm → H.size ≤ t.heap.size → (∀ q : Nat, q < H.size → t.heap[q]? = H[q]?) → zxc E kx e9.2.2.2.2.1 s t := by
    intro t _ z o
    refine ⟨M, hkx, fun k q hk9 => ?_, ⟨Nat.le_trans hS.2.1.1 z, fun q h1 h2 => ?_, fun _ h => by cases h⟩, fun h => absurd h (by rw [zNm_len]; exact Nat.not_lt.mpr hfull)⟩
    · have h1 := hS.1 k q hk9
      exact h1.kept (o _ h1.lt)
    · rw [o q (Nat.lt_of_lt_of_le h1 hS.2.1.1)]
      exact hS.2.1.2.1 q h1 h2
  by_cases h112 : e9.2.2.1 = 112
  · have hzz : ∀ (b k : Nat), zAtW e9.2.2.1 e9.2.2.2.2.1 = zatX "Patternroom" e9.2.2.1 e9.2.2.2.2.1 zNs := fun _ _ => by unfold zAtW; rw [if_pos h112]
    rw [hzz 0 0] at h6 hgood
    by_cases hw : e9.2.2.2.1 = true
    · rw [if_pos hw] at hq
      simp only [Bool.and_eq_true, decide_eq_true_eq] at hq
      obtain ⟨⟨⟨d3, d4⟩, d7⟩, d10⟩ := hq
      exact zmakeX (k1 := 7) hx hb h0.2.2.2.2.1 hown h4 zNs_fit (zword h0 hW (zCll_of g2) rfl args) (zword h0 hW h5 rfl args) hstr (fun w hw => zwordT h0 hW (h6 w hw).1.1 (h6 w hw).1.2 args) hgood hU hN hS9 (hsz.trans hml.symm) hd d3 (Or.inr ⟨rfl, d4⟩) d7
        (by show 2 + 3 < _; omega) (by show _ + (13 * (2 + 1) + 43) ≤ _; omega) (by omega) (by omega)
        (fun q ce H1 k1 k2 k3 k4 k5 => vx_athrow hx hb d10 (vx_out (fun x hx => by rw [hnil] at hx; cases hx) hlocks k1 k2 k3 (fun t ht hA => hxx t hA (by rw [ht]; exact k4) (fun q hq => by rw [ht]; exact k5 q hq)) hS.2.1.2.2 b1 b2)) T hT X
    · rw [if_neg hw] at hq
      simp only [Bool.and_eq_true, decide_eq_true_eq] at hq
      obtain ⟨⟨⟨d3, d4⟩, d6⟩, d9⟩ := hq
      exact zmakeX (k1 := 6) hx hb h0.2.2.2.2.1 hown h4 zNs_fit (zword h0 hW (zCll_of g2) rfl args) (zword h0 hW h5 rfl args) hstr (fun w hw => zwordT h0 hW (h6 w hw).1.1 (h6 w hw).1.2 args) hgood hU hN hS9 (hsz.trans hml.symm) hd d3 (Or.inl ⟨rfl, d4⟩) d6
        (by show 2 + 3 < _; omega) (by show _ + (13 * (2 + 1) + 43) ≤ _; omega) (by omega) (by omega)
        (fun q ce H1 k1 k2 k3 k4 k5 => vx_athrow hx hb d9 (vx_out (fun x hx => by rw [hnil] at hx; cases hx) hlocks k1 k2 k3 (fun t ht hA => hxx t hA (by rw [ht]; exact k4) (fun q hq => by rw [ht]; exact k5 q hq)) hS.2.1.2.2 b1 b2)) T hT X
  · have hzz : ∀ (b k : Nat), zAtW e9.2.2.1 e9.2.2.2.2.1 = vx_atS "Patternroom" e9.2.2.1 e9.2.2.2.2.1 zNs := fun _ _ => by unfold zAtW; rw [if_neg h112]
    rw [hzz 0 0] at h6 hgood
    by_cases hw : e9.2.2.2.1 = true
    · rw [if_pos hw] at hq
      simp only [Bool.and_eq_true, decide_eq_true_eq] at hq
      obtain ⟨⟨⟨d3, d4⟩, d7⟩, d10⟩ := hq
      exact vx_throwSW hx hb h0.2.2.2.2.1 hown h4 zNs_fit (zword h0 hW (zCll_of g2) rfl args) (zword h0 hW h5 rfl args) hstr (fun w hw => zwordT h0 hW (h6 w hw).1.1 (h6 w hw).1.2 args) hgood hU hN hS9 (hsz.trans hml.symm) hd d3 d4 d7 d10 (fun x hx => by rw [hnil] at hx; cases hx)
        (by show 2 + 3 < _; omega) (by show _ + (13 * (2 + 1) + 43) ≤ _; omega) (by omega) (by omega) hlocks hxx hS.2.1.2.2 b1 b2 T hT X
    · rw [if_neg hw] at hq
      simp only [Bool.and_eq_true, decide_eq_true_eq] at hq
      obtain ⟨⟨⟨d3, d4⟩, d6⟩, d9⟩ := hq
      exact vx_throwS hx hb h0.2.2.2.2.1 hown h4 zNs_fit (zword h0 hW (zCll_of g2) rfl args) (zword h0 hW h5 rfl args) hstr (fun w hw => zwordT h0 hW (h6 w hw).1.1 (h6 w hw).1.2 args) hgood hU hN hS9 (hsz.trans hml.symm) hd d3 d4 d6 d9 (fun x hx => by rw [hnil] at hx; cases hx)
        (by show 2 + 3 < _; omega) (by show _ + (13 * (2 + 1) + 43) ≤ _; omega) (by omega) (by omega) hlocks hxx hS.2.1.2.2 b1 b2 T hT X
end ZX
