/-! ===== new int[n][k], calls ===== -/
theorem vr_outer (c : ClassId) (N h0 : Nat) : ∀ i : Nat, Jvm.Free.Multi.outerC c N h0 i = arrV c N (fun j => va_rf (if j < i then some (h0 + 1 + j) else none))
  | 0 => by
    show ({ cls := c, slots := Array.replicate N .null, vm := .none } : Cell) = _
    rw [arrV_new]
    refine congrArg (arrV c N) (funext fun j => ?_)
    simp [va_rf]
  | i + 1 => by
    show (Jvm.Free.Multi.outerC c N h0 i).setSlot i (.ref (h0 + 1 + i)) = _
    rw [vr_outer c N h0 i, arrV_store]
    refine congrArg (arrV c N) (funext fun j => ?_)
    by_cases e : j = i
    · subst e
      simp [updV, va_rf]
    · by_cases h : j < i
      · simp [updV, e, h, Nat.lt_succ_of_lt h]
      · simp [updV, e, h, show ¬ j < i + 1 by omega]
/-- the memory behind new int[n][k] -/
def zmn (M : zM) (r : zL) (N : Nat) : zM := (List.range N).foldl (fun M' n' => zpr (zal M' (zNm.getD (M.2.2.2.2 + 1 + n') (0, 0, 0))) r n' zNm[M.2.2.2.2 + 1 + n']?) (zal M r)
theorem zmn_succ (M : zM) (r : zL) (N : Nat) : zmn M r (N + 1) = zpr (zal (zmn M r N) (zNm.getD (M.2.2.2.2 + 1 + N) (0, 0, 0))) r N zNm[M.2.2.2.2 + 1 + N]? := by
  unfold zmn
  rw [List.range_succ, List.foldl_append]
  rfl
theorem zNm_ne {i j : Nat} {q r : zL} (hi : zNm[i]? = some q) (hj : zNm[j]? = some r) (h : i ≠ j) : q ≠ r := by
  intro e
  subst e
  exact h ((zNm_at hi).symm.trans (zNm_at hj))
theorem zmn_spec (E : zEn) {M : zM} {r : zL} (hr : zNm[M.2.2.2.2]? = some r) : ∀ N : Nat, M.2.2.2.2 + 1 + N ≤ zNm.length → (zmn M r N).2.2.2.2 = M.2.2.2.2 + 1 + N ∧ (∀ q, q ≠ r → (∀ i, i < N → zNm[M.2.2.2.2 + 1 + i]? ≠ some q) → zco E (zmn M r N) q = zco E M q) ∧
    (∀ n, (zmn M r N).2.2.2.1 r.1 r.2.1 r.2.2 n = if n < N then zNm[M.2.2.2.2 + 1 + n]? else none) ∧ (∀ i, i < N → ∀ q, zNm[M.2.2.2.2 + 1 + i]? = some q → ∀ n, (zmn M r N).1 q.1 q.2.1 q.2.2 n = 0)
  | 0, _ => by
    refine ⟨rfl, fun q hq _ => zco_al hq, fun n => ?_, fun i hi => absurd hi (Nat.not_lt_zero i)⟩
    rw [if_neg (Nat.not_lt_zero n)]
    show (if _ then _ else _) = _
    rw [if_pos ⟨rfl, rfl, rfl⟩]
  | N + 1, hN => by
    obtain ⟨h1, h2, h3, h4⟩ := zmn_spec E hr N (by omega)
    have hq : zNm[M.2.2.2.2 + 1 + N]? = some (zNm.getD (M.2.2.2.2 + 1 + N) (0, 0, 0)) := by
      rw [List.getD_eq_getElem?_getD, List.getElem?_eq_getElem (by omega)]
      rfl
    generalize zNm.getD (M.2.2.2.2 + 1 + N) (0, 0, 0) = qN at hq
    have hs : zmn M r (N + 1) = zpr (zal (zmn M r N) qN) r N (some qN) := by
      rw [zmn_succ, hq]
      have : zNm.getD (M.2.2.2.2 + 1 + N) (0, 0, 0) = qN := by rw [List.getD_eq_getElem?_getD, hq]; rfl
      rw [this]
    have hne : qN ≠ r := zNm_ne hq hr (by omega)
    rw [hs]
    refine ⟨?_, fun q hqr hqi => ?_, fun n => ?_, fun i hi q hq2 n => ?_⟩
    · show (zmn M r N).2.2.2.2 + 1 = _
      omega
    · rw [zco_pr hqr]
      have hq3 : q ≠ qN := fun e => hqi N (Nat.lt_succ_self N) (by rw [hq, e])
      rw [zco_al hq3]
      exact h2 q hqr (fun i hi => hqi i (Nat.lt_succ_of_lt hi))
    · show (if _ then _ else _) = _
      by_cases e : n = N
      · subst e
        rw [if_pos ⟨rfl, rfl, rfl, rfl⟩, if_pos (Nat.lt_succ_self n), hq]
      · rw [if_neg (fun h => e h.2.2.2)]
        show (if _ then _ else _) = _
        rw [if_neg (zne hne.symm), h3 n]
        by_cases g : n < N
        · rw [if_pos g, if_pos (Nat.lt_succ_of_lt g)]
        · rw [if_neg g, if_neg (by omega)]
    · show (if _ then _ else _) = _
      by_cases e : i = N
      · subst e
        rw [hq] at hq2
        cases hq2
        rw [if_pos ⟨rfl, rfl, rfl⟩]
      · rw [if_neg (zne (zNm_ne hq2 hq (by omega)))]
        exact h4 i (by omega) q hq2 n
section ZM
variable {E : zEn} {m : zMeth} {d mc ms : Nat} {kr : Option zV → zM → Prop} {kx : String → zM → Prop} {p : Program} {e : Env} {R : Room} {s : State} {mm : MethodId} {args : Array Value} {below : List Frame} {meth : Method} {c : Code} {Q : State → Prop} {ls : zLs} {st : List zV} {M : zM} {a : Nat × Nat} {k : zKt}
set_option maxHeartbeats 1000000 in
theorem zst_mna (h0 : zOk E) (F : zFr E m d mc ms kr kx p e R s mm args below meth c Q) {pc n : Nat} (hd : decode m.2.1 pc = .ok (.multianewarray n 2, 4)) (hn : Cond.classLink (zcn m.2.2.2.2.1) n "[[I" ∈ lw_tbl) (hao : Cond.arrayOver (.array .int) ∈ lw_tbl) (hac : Cond.arrayClass .int ∈ lw_tbl) {r : zL} {rest : List zV} {x y : Int32} (hr : zNm[M.2.2.2.2]? = some r) (hrc : zcls r.1 = 8) (hrt : (zarr r.1).1 = 4) (hx0 : ¬ x < 0) (hy0 : ¬ y < 0) (hyn : y.toNatClampNeg = (zarr r.1).2) (ha1 : a.1 + (1 + y.toNatClampNeg) ≤ mc) (ha2 : a.2 + (y.toNatClampNeg + y.toNatClampNeg * x.toNatClampNeg) ≤ ms) (hx100 : x.toNatClampNeg ≤ 100) (hy100 : (zarr r.1).2 ≤ 1000)
    (hrow : ∀ n', n' < y.toNatClampNeg → ∃ r', zNm[M.2.2.2.2 + 1 + n']? = some r' ∧ zcls r'.1 = 8 ∧ (zarr r'.1).1 = 0 ∧ x.toNatClampNeg = (zarr r'.1).2)
    {H : Heap} {locs : List Loc} {lsA : Array Slot} (hS : zSt E M H locs) (kk : ∀ H1, zSt E (zmn M r y.toNatClampNeg) H1 locs → W p (zl E) e R s mm args below meth c H1 locs (a.1 + (1 + y.toNatClampNeg)) (a.2 + (y.toNatClampNeg + y.toNatClampNeg * x.toNatClampNeg)) Q (F0 mm (pc + 4) lsA (.ref (zad E r) :: rest.map (zcv E)))) : W p (zl E) e R s mm args below meth c H locs a.1 a.2 Q (F0 mm pc lsA (.int x :: .int y :: rest.map (zcv E))) := by
  obtain ⟨hx, hb, hml, hown, hW, hex, hnm, ⟨hcls, hmB⟩, hR, -⟩ := F
  rw [hcls] at hown
  have hK := zK h0 hW
  obtain ⟨hP, hS9, hz⟩ := hS
  have hl : M.2.2.2.2 < zNm.length := (List.getElem?_eq_some_iff.mp hr).1
  have hsz := hz hl
  have har : zad E r = H.size := by rw [zad_at hr, hsz]
  intro T hT X
  obtain ⟨vm₁, cA, comp, -, fA, fC, hO, hI, X', step⟩ := X.multianewarray2F hx hown (ty := .int) (zword h0 hW hn rfl args) (over_moved hW.alike (h0.1 _ hao)) (zword h0 hW hac rfl args) (g := F0 mm pc lsA (.int x :: .int y :: rest.map (zcv E))) rfl (by rw [hb]; exact hd) rfl hy0 hx0 (by rw [hyn]; omega) (by show x.toNatClampNeg * 4 ≤ _; omega) (by omega) rfl rfl (by omega) (by omega)
  have eA : cA = zcy E 4 := Option.some.inj (fA.symm.trans (hK.2 4 _ rfl).2)
  have eC : comp = zcy E 0 := Option.some.inj (fC.symm.trans (hK.2 0 _ rfl).2)
  subst eA
  subst eC
  generalize hF : Jvm.Free.Multi.fill (T.setVm vm₁) (zcy E 4) (zcy E 0) y.toNatClampNeg x.toNatClampNeg (defaultValue .int) y.toNatClampNeg = F at X' step
  have hTh : (T.setVm vm₁).heap = H := hT
  obtain ⟨f1, f2, -, -⟩ := Jvm.Free.Multi.fill_facts (T.setVm vm₁) (zcy E 4) (zcy E 0) y.toNatClampNeg x.toNatClampNeg (defaultValue .int) y.toNatClampNeg
  rw [hF, hTh] at f1 f2
  have hold : ∀ z : Nat, z < H.size → F.heap[z]? = H[z]? := fun z hz => by
    have := Jvm.Free.Multi.fill_old (T.setVm vm₁) (zcy E 4) (zcy E 0) y.toNatClampNeg x.toNatClampNeg (defaultValue .int) (a := z) (by rw [hTh]; exact hz) y.toNatClampNeg
    rw [hF, hTh] at this
    exact this
  have hrow9 : ∀ j : Nat, j < y.toNatClampNeg → F.heap[H.size + 1 + j]? = some (vp_cell (zcy E 0) (x.toNatClampNeg, .inl (fun _ => 0))) := fun j hj => by
    have := Jvm.Free.Multi.fill_inner (T.setVm vm₁) (zcy E 4) (zcy E 0) y.toNatClampNeg x.toNatClampNeg (defaultValue .int) y.toNatClampNeg j hj
    rw [hF, hTh] at this
    rw [this]
    show some ({ cls := zcy E 0, slots := Array.replicate x.toNatClampNeg (defaultValue .int), vm := .none } : Cell) = _
    rw [arrV_new]
    rfl
  have hlen : M.2.2.2.2 + 1 + y.toNatClampNeg ≤ zNm.length := by
    by_cases g : y.toNatClampNeg = 0
    · omega
    · obtain ⟨r', h1, -⟩ := hrow (y.toNatClampNeg - 1) (by omega)
      have := (List.getElem?_eq_some_iff.mp h1).1
      omega
  obtain ⟨m1, m2, m3, m4⟩ := zmn_spec E hr y.toNatClampNeg hlen
  have hS1 : zSt E (zmn M r y.toNatClampNeg) F.heap locs := by
    refine ⟨?_, ⟨by rw [f1]; have := hS9.1; omega, fun q h1 h2 => (hold q (Nat.lt_of_lt_of_le h1 hS9.1)).trans (hS9.2.1 q h1 h2), hS9.2.2⟩, fun _ => by rw [m1, f1]; omega⟩
    intro i z hi
    obtain ⟨q, hq, hi2, rfl, -⟩ := zws_of hi
    rw [m1] at hi2
    by_cases e1 : i < M.2.2.2.2
    · have hm : q ∈ zNm.take M.2.2.2.2 := List.mem_of_getElem? (i := i) (by rw [List.getElem?_take, if_pos e1]; exact hq)
      have h1 := hP _ _ (zws_get (E := E) hm)
      rw [m2 q (zNm_ne hq hr (by omega)) (fun j hj h => zNm_ne h hq (by omega) rfl)]
      exact h1.kept (hold _ (va_at.lt h1))
    · by_cases e2 : i = M.2.2.2.2
      · subst e2
        rw [hr] at hq
        cases hq
        rw [zco_a hrc hrt]
        show F.heap[zad E r]? = some (vp_cell _ _)
        rw [har, f2, vr_outer]
        show some (arrV _ _ _) = some (arrV _ _ (fun j => va_rf (((zmn M r y.toNatClampNeg).2.2.2.1 r.1 r.2.1 r.2.2 j).map (zad E))))
        rw [← hyn]
        congr 2
        funext j
        rw [m3 j]
        by_cases g : j < y.toNatClampNeg
        · rw [if_pos g, if_pos g]
          obtain ⟨r', h1, -⟩ := hrow j g
          rw [h1]
          show _ = va_rf (some (zad E r'))
          rw [zad_at h1, hsz]
          congr 2
          omega
        · rw [if_neg g, if_neg g]
          rfl
      · have hj : i = M.2.2.2.2 + 1 + (i - (M.2.2.2.2 + 1)) := by omega
        obtain ⟨r', h1, h2, h3, h4⟩ := hrow (i - (M.2.2.2.2 + 1)) (by omega)
        rw [← hj, hq] at h1
        cases h1
        rw [zco_a h2 h3]
        show F.heap[zad E q]? = some (vp_cell _ _)
        have ha : zad E q = H.size + 1 + (i - (M.2.2.2.2 + 1)) := by rw [zad_at hq]; omega
        rw [ha, hrow9 _ (by omega), h4]
        congr 3
        show Sum.inl _ = Sum.inl _
        congr 1
        funext n9
        exact (m4 (i - (M.2.2.2.2 + 1)) (by omega) q (by rw [← hj]; exact hq) n9).symm
  obtain ⟨t, a1, b1⟩ := kk F.heap hS1 F rfl (by
    have e1 : a.1 + (1 + y.toNatClampNeg) = a.1 + 1 + y.toNatClampNeg := by omega
    have e2 : a.2 + (y.toNatClampNeg + y.toNatClampNeg * x.toNatClampNeg) = a.2 + y.toNatClampNeg + y.toNatClampNeg * x.toNatClampNeg := by omega
    rw [e1, e2]
    exact X')
  refine ⟨t, step t ?_, b1⟩
  have e : T.heap.size = zad E r := by rw [hT, har]
  rw [e]
  exact a1
end ZM
