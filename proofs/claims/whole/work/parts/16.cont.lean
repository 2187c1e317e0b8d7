/-! ===== stretches of code, and a method's contract ===== -/
/-- at an abstract state the method is as good as done -/
def zJ (E : zEn) (m : zMeth) (d mc ms : Nat) (kr : Option zV → zM → Prop) (kx : String → zM → Prop) : zKt := fun pc ls st M a =>
  ∀ (p : Program) (e : Env) (R : Room) (s : State) (mm : MethodId) (args : Array Value) (below : List Frame) (meth : Method) (c : Code) (Q : State → Prop), zFr E m d mc ms kr kx p e R s mm args below meth c Q → zWw E m mc ms p e R s mm args below meth c Q pc ls st M a
theorem zdw_head {l : List zIn} {pc : Nat} {r : zIn} {l' : List zIn} (h : l.dropWhile (fun r => r.1 != pc) = r :: l') : r.1 = pc ∧ ∀ x ∈ r :: l', x ∈ l := by
  induction l with
  | nil => cases h
  | cons q l ih =>
    rw [List.dropWhile_cons] at h
    split at h
    · obtain ⟨h1, h2⟩ := ih h
      exact ⟨h1, fun x hx => List.mem_cons_of_mem _ (h2 x hx)⟩
    · rename_i hq
      obtain ⟨rfl, rfl⟩ := List.cons.inj h
      refine ⟨?_, fun x hx => hx⟩
      simpa using hq
theorem zwp_sound {E : zEn} (h0 : zOk E) {m : zMeth} {d mc ms : Nat} {kr : Option zV → zM → Prop} {kx : String → zM → Prop} {p : Program} {e : Env} {R : Room} {s : State} {mm : MethodId} {args : Array Value} {below : List Frame} {meth : Method} {c : Code} {Q : State → Prop} (F : zFr E m d mc ms kr kx p e R s mm args below meth c Q)
    {K : zKt} (hK : ∀ pc ls st M a, K pc ls st M a → zWw E m mc ms p e R s mm args below meth c Q pc ls st M a) : ∀ (n : Nat) (l : List zIn) (ls : zLs) (st : List zV) (M : zM) (a : Nat × Nat), (∀ q ∈ l, zrb m q = true) → zwp E m d mc ms K kr kx n l ls st M a → ∀ q l', l = q :: l' → zWw E m mc ms p e R s mm args below meth c Q q.1 ls st M a := by
  intro n
  induction n with
  | zero => intro l ls st M a _ h; exact h.elim
  | succ n ih =>
    intro l ls st M a hl h q l' e1
    subst e1
    refine zstep h0 F ?_ q (hl q List.mem_cons_self) h
    intro pc' ls' st' M' a' hk
    split at hk
    · exact hK _ _ _ _ _ hk
    · rename_i r l2 hr
      obtain ⟨h1, h2⟩ := zdw_head hr
      have h3 := ih (r :: l2) ls' st' M' a' (fun x hx => hl x (List.mem_cons_of_mem _ (h2 x hx))) hk r l2 rfl
      rw [h1] at h3
      exact h3
/-- a stretch that begins here; where it ends, the method is as good as done -/
theorem zJ_blk {E : zEn} (h0 : zOk E) {m : zMeth} {d mc ms : Nat} {kr : Option zV → zM → Prop} {kx : String → zM → Prop} {pc : Nat} {ls : zLs} {st : List zV} {M : zM} {a : Nat × Nat} (n : Nat) (l : List zIn) (hl : l.all (zrb m) = true) (hpc : (l.head?.map (fun q => q.1)) = some pc) (h : zwp E m d mc ms (zJ E m d mc ms kr kx) kr kx n l ls st M a) : zJ E m d mc ms kr kx pc ls st M a := by
  unfold zJ
  intro p e R s mm args below meth c Q F
  match l, hpc with
  | q :: l', hpc =>
    have h1 := zwp_sound h0 F (K := zJ E m d mc ms kr kx) (fun pc ls st M a h => by unfold zJ at h; exact h p e R s mm args below meth c Q F) n (q :: l') ls st M a (List.all_eq_true.mp hl) h q l' rfl
    have h2 : q.1 = pc := Option.some.inj hpc
    rw [h2] at h1
    exact h1
/-- the same, forward in a stretch; where the stretch ends is left open -/
theorem zJ_at {E : zEn} (h0 : zOk E) {m : zMeth} {d mc ms : Nat} {kr : Option zV → zM → Prop} {kx : String → zM → Prop} {ls : zLs} {st : List zV} {M : zM} {a : Nat × Nat} (n : Nat) {l : List zIn} (hl : l.all (zrb m) = true) {pc : Nat} {q : zIn} {l' : List zIn} (hq : l.dropWhile (fun r => r.1 != pc) = q :: l') (h : ∀ K : zKt, (∀ pc ls st M a, zJ E m d mc ms kr kx pc ls st M a → K pc ls st M a) → zwp E m d mc ms K kr kx n (q :: l') ls st M a) : zJ E m d mc ms kr kx pc ls st M a := by
  obtain ⟨h1, h2⟩ := zdw_head hq
  refine zJ_blk h0 n (q :: l') (List.all_eq_true.mpr fun x hx => List.all_eq_true.mp hl x (h2 x hx)) ?_ (h _ fun _ _ _ _ _ h => h)
  rw [← h1]
  rfl
/-- the locals with which a method begins -/
def zargs : Nat → List zV → zLs
  | _, [] => []
  | i, v :: vs => (i, v) :: zargs (if zcat v = 2 then i + 2 else i + 1) vs
theorem zargs_cv (E : zEn) (as : List zV) : ∀ i, lv_args i (as.map (zcv E)) = zcL E (zargs i as) := by
  induction as with
  | nil => intro i; rfl
  | cons v vs ih =>
    intro i
    show (i, zcv E v) :: lv_args (if (zcv E v).category = 2 then i + 2 else i + 1) (vs.map (zcv E)) = _
    rw [zcat_cv, ih]
    rfl
theorem zsl_len (E : zEn) (as : List zV) : (lg_sl (as.map (zcv E))).length ≤ (as.map zcat).sum := by
  induction as with
  | nil => exact Nat.le_refl 0
  | cons v vs ih =>
    have h1 : lg_sl ((v :: vs).map (zcv E)) = (if (zcv E v).category = 2 then [.val (zcv E v), .second] else [.val (zcv E v)]) ++ lg_sl (vs.map (zcv E)) := by
      unfold lg_sl
      rw [List.map_cons, List.flatMap_cons]
    rw [h1, List.length_append, List.map_cons, List.sum_cons, zcat_cv]
    have h2 : 1 ≤ zcat v := by
      rw [← zcat_cv E]
      cases zcv E v <;> exact Nat.le_of_ble_eq_true rfl
    split
    · rename_i h3
      rw [h3]
      show 2 + _ ≤ _
      omega
    · show 1 + _ ≤ _
      omega
theorem zhand_none {m : zMeth} (h : m.2.2.2.2.2 = []) (pc : Nat) (X : String) : zhand m pc X = none := by
  unfold zhand
  rw [h]
  rfl
/-- the contract of a method out of its code -/
theorem zC_of {E : zEn} (h0 : zOk E) {m : zMeth} {d mc ms : Nat} {kr : Option zV → zM → Prop} {kx : String → zM → Prop} {as : List zV} {M : zM} (hp : (plainName m.1.cls && (m.1.cls == zcn m.2.2.2.2.1) && zmB m) = true) (hsum : (as.map zcat).sum ≤ m.2.2.1) (hkx : m.2.2.2.2.2 = [] ∨ ∀ X M, ¬ kx X M)
    (h : zJ E m d mc ms kr kx 0 (zargs 0 as) [] M (0, 0)) : zC E m d mc ms as M kr kx := by
  simp only [Bool.and_eq_true, beq_iff_eq] at hp
  obtain ⟨⟨hp1, hp2⟩, hp3⟩ := hp
  have key : ∀ (p : Program) (e : Env) (R : Room) (s : State) (mm : MethodId) (args : Array Value) (below : List Frame) (meth : Method) (c : Code), p.tables.exec = Jvm.exec → c.code = m.2.1 → c.maxLocals = m.2.2.1 → s.vm.findClass m.1.cls = some mm.cls → c.exceptionTable.toList = tableOf m.2.2.2.2.2 → meth.name = m.1.name → R = zrm d mc ms → meth.sig.returnType = m.2.2.2.1 → meth.locks = false → zpc E as M args s →
      W p (zl E) e R s mm args below meth c s.heap [] 0 0 (vx_MQ below (zqc E kr) (zxc E kx) args s mc ms (zA E)) (entryFrame mm args m.2.2.1) := by
    intro p e R s mm args below meth c hx hb hml hown hex hnm hR hr hlocks hP
    obtain ⟨ha, hW, hS⟩ := hP
    have hRR : d + 8 ≤ R.frames ∧ 40 * d + 400 ≤ R.locals ∧ mc ≤ R.cells ∧ ms ≤ R.slots := by
      rw [hR]
      exact ⟨Nat.le_refl _, Nat.le_refl _, Nat.le_refl _, Nat.le_refl _⟩
    have F : zFr E m d mc ms kr kx p e R s mm args below meth c (vx_MQ below (zqc E kr) (zxc E kx) args s mc ms (zA E)) := by
      refine ⟨hx, hb, hml, hown, hW, hex, hnm, ⟨hp2, hp3⟩, hRR, ?_, ?_, ?_⟩
      · intro H locs lsA M1 a v pc ins hS1 hk hok ha1 ha2 hd hi
        have hq : ∀ t : State, t.heap = H → s.WarmedH t.vm → zqc E kr args s (.returned (v.map (zcv E))) t := by
          intro t ht _
          exact ⟨v, M1, rfl, hk, by rw [ht]; exact zSt_locs hS1⟩
        refine vx_ret (W.widen ha1 ha2 ?_)
        rcases hi with ⟨rfl, rfl⟩ | ⟨rfl, x, rfl⟩ | ⟨rfl, x, rfl⟩ | ⟨rfl, x, rfl⟩ | ⟨rfl, x, rfl⟩ | ⟨rfl, x, rfl⟩
        · have h9 : m.2.2.2.1 = none := by
            cases h8 : m.2.2.2.1 with
            | none => rfl
            | some ty => rw [h8] at hok; cases ty <;> exact hok.elim
          exact W.vret hx hb (hr.trans h9) hq hS1.2.1.2.2 hd hlocks
        · obtain ⟨ty, h9, h7⟩ : ∃ ty, m.2.2.2.1 = some ty ∧ narrow ty (.int x) = .int x := by
            cases h8 : m.2.2.2.1 with
            | none => rw [h8] at hok; exact hok.elim
            | some ty => rw [h8] at hok; exact ⟨ty, rfl, hok.1⟩
          exact W.zret hx hb (hr.trans h9) h7 hq hS1.2.1.2.2 hd hlocks
        · have h9 : m.2.2.2.1 = some .long := by
            cases h8 : m.2.2.2.1 with
            | none => rw [h8] at hok; exact hok.elim
            | some ty => rw [h8] at hok; cases ty <;> first | rfl | exact hok.elim
          exact W.lret hx hb (hr.trans h9) hq hS1.2.1.2.2 hd hlocks
        · have h9 : m.2.2.2.1 = some .float := by
            cases h8 : m.2.2.2.1 with
            | none => rw [h8] at hok; exact hok.elim
            | some ty => rw [h8] at hok; cases ty <;> first | rfl | exact hok.elim
          exact W.fret hx hb (hr.trans h9) hq hS1.2.1.2.2 hd hlocks
        · have h9 : m.2.2.2.1 = some .double := by
            cases h8 : m.2.2.2.1 with
            | none => rw [h8] at hok; exact hok.elim
            | some ty => rw [h8] at hok; cases ty <;> first | rfl | exact hok.elim
          exact W.dret hx hb (hr.trans h9) hq hS1.2.1.2.2 hd hlocks
        · obtain ⟨n9, h9⟩ : ∃ n, m.2.2.2.1 = some (.object n) := by
            cases h8 : m.2.2.2.1 with
            | none => rw [h8] at hok; exact hok.elim
            | some ty => rw [h8] at hok; cases ty <;> first | exact ⟨_, rfl⟩ | exact hok.elim
          exact W.aret hx hb (hr.trans h9) (Or.inl ⟨_, rfl⟩) (Or.inr ⟨_, rfl⟩) hq hS1.2.1.2.2 hd hlocks
      · intro H locs lsA M1 a pc n i j t cc tx rest hS1 hfull hk b1 b2 hsum9 hsz h8 hq
        exact zthrow h0 hS hx hb hml hown hW hex hp2 hRR hlocks hS1 hk b1 b2 hsum9 hsz h8 hq hfull
      · intro X H locs lsA M1 a pc w ce rest hS1 hk ha1 ha2 h1 h2 h3 hz
        rcases hkx with hkx | hkx
        · refine vx_widen (Nat.le_refl _) (Nat.le_refl _) (vx_out (fun x hx => ?_) hlocks h1 h2 h3 (fun t ht hA => ⟨M1, hk, by rw [ht]; exact zSt_locs hS1⟩) hS1.2.1.2.2 ha1 ha2)
          rw [hex, hkx] at hx
          cases hx
        · exact absurd hk (hkx _ _)
    unfold zJ at h
    have h1 := h p e R s mm args below meth c _ F
    rw [ha, lg_entry_eq]
    have hl := lv_entry (as.map (zcv E)) (n := m.2.2.1) (Nat.le_trans (zsl_len E as) hsum)
    rw [zargs_cv] at hl
    have h2 := h1 s.heap [] _ hS hl (Nat.zero_le _) (Nat.zero_le _)
    rw [ha] at h2
    exact h2
  unfold zC
  by_cases hh : m.2.2.2.2.2 = []
  · refine vx_ofW (cc := m.2.1) (maxL := m.2.2.1) (ret := m.2.2.2.1) (ws' := []) hp1 (by unfold zcw; rw [if_pos hh]) ?_
    intro p e s mm args below meth c s₁ B hml ht hv
    refine key p e _ s mm args below meth c B.exec B.bytes hml (findClass_of_methodNamed B.named) ?_ (name_of_methodNamed B.named B.method).1 rfl B.returns B.notSynchronized hv
    rw [hh]
    cases h9 : c.exceptionTable.toList with
    | nil => rfl
    | cons x y => exact (ht x (by rw [h9]; exact List.mem_cons_self)).elim
  · have hw : [zcw m] = [Cond.codeWith m.1 m.2.1 m.2.2.1 m.2.2.2.1 m.2.2.2.2.2] := by unfold zcw; rw [if_neg hh]
    refine vx_ofWH (cc := m.2.1) (maxL := m.2.2.1) (ret := m.2.2.2.1) (hh := m.2.2.2.2.2) (ws' := []) hp1 hw ?_
    intro p e s mm args below meth c s₁ B hml hv
    refine key p e _ s mm args below meth c B.exec B.bytes hml (findClass_of_methodNamed B.named) ?_ (name_of_methodNamed B.named B.method).1 rfl B.returns B.notSynchronized hv
    exact vx_table (x := m.1) B (atoms_spec (ws := [zcw m]) B.pre _ (by rw [hw]; exact List.mem_singleton.mpr rfl))
