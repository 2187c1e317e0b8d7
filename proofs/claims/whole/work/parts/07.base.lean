/-! ===== the memory on the heap ===== -/
theorem zNm_len : zNm.length = 176 := by decide +kernel
set_option maxRecDepth 100000 in
theorem zNm_ix : (List.range 176).all (fun i => zNm.idxOf (zNm.getD i (0, 0, 0)) == i) = true := by decide +kernel
set_option maxRecDepth 100000 in
theorem zNm_70 : zNm.all (fun q => q.1 != 70) = true := by decide +kernel
theorem zNm_at {q : zL} {i : Nat} (h : zNm[i]? = some q) : zNm.idxOf q = i := by
  have hi : i < zNm.length := (List.getElem?_eq_some_iff.mp h).1
  rw [zNm_len] at hi
  have h1 := List.all_eq_true.mp zNm_ix i (List.mem_range.mpr hi)
  rw [beq_iff_eq] at h1
  rw [List.getD_eq_getElem?_getD, h] at h1
  exact h1
theorem zNm_n70 {q : zL} (h : q ∈ zNm) : ¬ q.1 = 70 := by
  have h1 := List.all_eq_true.mp zNm_70 q h
  simpa using h1
theorem zNm_tk {q : zL} {n : Nat} (h : q ∈ zNm.take n) : q ∈ zNm := List.mem_of_mem_take h
theorem zad_at {E : zEn} {q : zL} {i : Nat} (h : zNm[i]? = some q) : zad E q = zsz E + i := by
  unfold zad
  rw [if_neg (zNm_n70 (List.mem_of_getElem? h)), zNm_at h]
theorem ztk_get {q : zL} {n : Nat} (h : q ∈ zNm.take n) : zNm.idxOf q < n ∧ zNm[zNm.idxOf q]? = some q := by
  obtain ⟨i, hi⟩ := List.getElem?_of_mem h
  rw [List.getElem?_take] at hi
  by_cases h1 : i < n
  · rw [if_pos h1] at hi
    rw [zNm_at hi]
    exact ⟨h1, hi⟩
  · rw [if_neg h1] at hi
    cases hi
theorem zws_get {E : zEn} {M : zM} {q : zL} (h : q ∈ zNm.take M.2.2.2.2) : (zws E M)[zNm.idxOf q]? = some (zad E q, zco E M q) := by
  obtain ⟨h1, h2⟩ := ztk_get h
  unfold zws
  rw [List.getElem?_map, List.getElem?_take, if_pos h1, h2]
  rfl
theorem zws_of {E : zEn} {M : zM} {i : Nat} {x : Nat × va_E} (h : (zws E M)[i]? = some x) : ∃ q, zNm[i]? = some q ∧ i < M.2.2.2.2 ∧ x = (zad E q, zco E M q) ∧ x.1 = zsz E + i := by
  unfold zws at h
  rw [List.getElem?_map, List.getElem?_take] at h
  by_cases h1 : i < M.2.2.2.2
  · rw [if_pos h1] at h
    cases hq : zNm[i]? with
    | none => rw [hq] at h; cases h
    | some q =>
      rw [hq] at h
      cases h
      exact ⟨q, rfl, h1, rfl, zad_at hq⟩
  · rw [if_neg h1] at h
    cases h
theorem zws_D (E : zEn) (M : zM) : va_D (zA E) (zws E M) := by
  refine ⟨fun i j p q hi hj hpq => ?_, fun k q hk => ?_⟩
  · obtain ⟨_, _, _, _, e1⟩ := zws_of hi
    obtain ⟨_, _, _, _, e2⟩ := zws_of hj
    rw [e1, e2] at hpq
    omega
  · obtain ⟨_, _, _, _, e1⟩ := zws_of hk
    show zsz E ≤ q.1
    omega
theorem zws_set {E : zEn} {M M' : zM} {q : zL} {e : va_E} (hc : M'.2.2.2.2 = M.2.2.2.2) (hq : q ∈ zNm.take M.2.2.2.2) (he : zco E M' q = e) (ho : ∀ r : zL, r ≠ q → zco E M' r = zco E M r) : (zws E M).set (zNm.idxOf q) (zad E q, e) = zws E M' := by
  obtain ⟨h1, h2⟩ := ztk_get hq
  apply List.ext_getElem?
  intro i
  by_cases hi : i = zNm.idxOf q
  · subst hi
    have hl : zNm.idxOf q < (zws E M).length := (List.getElem?_eq_some_iff.mp (zws_get hq)).1
    rw [List.getElem?_set_self hl, zws_get (by rw [hc]; exact hq), he]
  · rw [List.getElem?_set_ne (fun h => hi h.symm)]
    unfold zws
    rw [List.getElem?_map, List.getElem?_map, hc]
    cases hz : (zNm.take M.2.2.2.2)[i]? with
    | none => rfl
    | some r =>
      have hr : r ≠ q := by
        intro h
        subst h
        rw [List.getElem?_take] at hz
        by_cases h3 : i < M.2.2.2.2
        · rw [if_pos h3] at hz
          exact hi (zNm_at hz).symm
        · rw [if_neg h3] at hz
          cases hz
      show some (zad E r, zco E M r) = some (zad E r, zco E M' r)
      rw [ho r hr]
theorem zne {r q : zL} (h : r ≠ q) : ¬ (r.1 = q.1 ∧ r.2.1 = q.2.1 ∧ r.2.2 = q.2.2) := fun ⟨h1, h2, h3⟩ => h (Prod.ext h1 (Prod.ext h2 h3))
theorem zco_ext {E : zEn} {M M' : zM} {r : zL} (h1 : ∀ n, M'.1 r.1 r.2.1 r.2.2 n = M.1 r.1 r.2.1 r.2.2 n) (h2 : ∀ n, M'.2.1 r.1 r.2.1 r.2.2 n = M.2.1 r.1 r.2.1 r.2.2 n) (h3 : ∀ n, M'.2.2.1 r.1 r.2.1 r.2.2 n = M.2.2.1 r.1 r.2.1 r.2.2 n) (h4 : ∀ n, M'.2.2.2.1 r.1 r.2.1 r.2.2 n = M.2.2.2.1 r.1 r.2.1 r.2.2 n) : zco E M' r = zco E M r := by
  have g1 : M'.1 r.1 r.2.1 r.2.2 = M.1 r.1 r.2.1 r.2.2 := funext h1
  have g2 : M'.2.1 r.1 r.2.1 r.2.2 = M.2.1 r.1 r.2.1 r.2.2 := funext h2
  have g3 : M'.2.2.1 r.1 r.2.1 r.2.2 = M.2.2.1 r.1 r.2.1 r.2.2 := funext h3
  have g4 : M'.2.2.2.1 r.1 r.2.1 r.2.2 = M.2.2.2.1 r.1 r.2.1 r.2.2 := funext h4
  unfold zco
  have e1 : ∀ c, zfs E M' r c = zfs E M r c := by
    intro c
    unfold zfs
    apply List.map_congr_left
    intro n _
    unfold zfv
    rw [g1, g2, g4]
  have e2 : ∀ t, zac E M' r t = zac E M r t := by
    intro t
    unfold zac
    rw [g1, g2, g3, g4]
  rw [e1, e2]
theorem zco_pi {E : zEn} {M : zM} {q r : zL} {n : Nat} {v : Int32} (h : r ≠ q) : zco E (zpi M q n v) r = zco E M r := by
  refine zco_ext (fun x => ?_) (fun _ => rfl) (fun _ => rfl) (fun _ => rfl)
  have := zne h
  show (if _ then _ else _) = _
  rw [if_neg (fun ⟨a, b, c, _⟩ => this ⟨a, b, c⟩)]
theorem zco_pl {E : zEn} {M : zM} {q r : zL} {n : Nat} {v : Int64} (h : r ≠ q) : zco E (zpl M q n v) r = zco E M r := by
  refine zco_ext (fun _ => rfl) (fun x => ?_) (fun _ => rfl) (fun _ => rfl)
  have := zne h
  show (if _ then _ else _) = _
  rw [if_neg (fun ⟨a, b, c, _⟩ => this ⟨a, b, c⟩)]
theorem zco_pd {E : zEn} {M : zM} {q r : zL} {n : Nat} {v : UInt64} (h : r ≠ q) : zco E (zpd M q n v) r = zco E M r := by
  refine zco_ext (fun _ => rfl) (fun _ => rfl) (fun x => ?_) (fun _ => rfl)
  have := zne h
  show (if _ then _ else _) = _
  rw [if_neg (fun ⟨a, b, c, _⟩ => this ⟨a, b, c⟩)]
theorem zco_pr {E : zEn} {M : zM} {q r : zL} {n : Nat} {v : Option zL} (h : r ≠ q) : zco E (zpr M q n v) r = zco E M r := by
  refine zco_ext (fun _ => rfl) (fun _ => rfl) (fun _ => rfl) (fun x => ?_)
  have := zne h
  show (if _ then _ else _) = _
  rw [if_neg (fun ⟨a, b, c, _⟩ => this ⟨a, b, c⟩)]
theorem zco_cp {E : zEn} {M : zM} {q0 q r : zL} {sp dp n : Nat} (h : r ≠ q) : zco E (zcp M q0 q sp dp n) r = zco E M r := by
  refine zco_ext (fun x => ?_) (fun _ => rfl) (fun _ => rfl) (fun _ => rfl)
  have := zne h
  show (if _ then _ else _) = _
  rw [if_neg (fun ⟨a, b, c, _⟩ => this ⟨a, b, c⟩)]
theorem zco_al {E : zEn} {M : zM} {q r : zL} (h : r ≠ q) : zco E (zal M q) r = zco E M r := by
  have := zne h
  refine zco_ext (fun x => ?_) (fun x => ?_) (fun x => ?_) (fun x => ?_) <;> (show (if _ then _ else _) = _; rw [if_neg this])
theorem zco_o {E : zEn} {M : zM} {q : zL} {c : Nat} (h : zcls q.1 = c) (h8 : c < 8) : zco E M q = .inr (c, zfs E M q c) := by
  unfold zco
  rw [h, if_pos h8]
theorem zco_a {E : zEn} {M : zM} {q : zL} (h : zcls q.1 = 8) {t : Nat} (ht : (zarr q.1).1 = t) : zco E M q = .inl (zcy E t, (zarr q.1).2, zac E M q t) := by
  unfold zco
  rw [h, if_neg (by decide), ht]
theorem zfs_get {E : zEn} {M : zM} {q : zL} {c j : Nat} (h : j < (zft c).length) : (zfs E M q c)[j]? = some (zfv E M q j ((zft c).getD j 0)) := by
  unfold zfs
  rw [List.getElem?_map, List.getElem?_range h]
  rfl
theorem zfs_set {E : zEn} {M M' : zM} {q : zL} {c j : Nat} {v : Value} (hv : zfv E M' q j ((zft c).getD j 0) = v) (ho : ∀ n, n ≠ j → zfv E M' q n ((zft c).getD n 0) = zfv E M q n ((zft c).getD n 0)) : (zfs E M q c).set j v = zfs E M' q c := by
  apply List.ext_getElem?
  intro n
  by_cases hn : n < (zft c).length
  · rw [zfs_get hn]
    by_cases e : n = j
    · subst e
      have hl : n < (zfs E M q c).length := by unfold zfs; simpa using hn
      rw [List.getElem?_set_self hl, hv]
    · rw [List.getElem?_set_ne (fun h => e h.symm), zfs_get hn, ho n e]
  · have l1 : ¬ n < ((zfs E M q c).set j v).length := by unfold zfs; simpa using hn
    have l2 : ¬ n < (zfs E M' q c).length := by unfold zfs; simpa using hn
    rw [List.getElem?_eq_none (by omega), List.getElem?_eq_none (by omega)]
theorem zfs_pi {E : zEn} {M : zM} {q : zL} {c j : Nat} {v : Int32} (ht : (zft c).getD j 0 ≠ 1 ∧ (zft c).getD j 0 ≠ 2) : (zfs E M q c).set j (.int v) = zfs E (zpi M q j v) q c := by
  refine zfs_set ?_ (fun n hn => ?_)
  · generalize (zft c).getD j 0 = t at ht
    unfold zfv
    split
    · exact absurd rfl ht.1
    · exact absurd rfl ht.2
    · show Value.int (if _ then _ else _) = _
      rw [if_pos ⟨rfl, rfl, rfl, rfl⟩]
  · unfold zfv
    split
    · rfl
    · rfl
    · show Value.int (if _ then _ else _) = _
      rw [if_neg (fun h => hn h.2.2.2)]
theorem zfs_pl {E : zEn} {M : zM} {q : zL} {c j : Nat} {v : Int64} (ht : (zft c).getD j 0 = 2) : (zfs E M q c).set j (.long v) = zfs E (zpl M q j v) q c := by
  refine zfs_set ?_ (fun n hn => ?_)
  · rw [ht]
    show Value.long (if _ then _ else _) = _
    rw [if_pos ⟨rfl, rfl, rfl, rfl⟩]
  · unfold zfv
    split
    · rfl
    · show Value.long (if _ then _ else _) = _
      rw [if_neg (fun h => hn h.2.2.2)]
    · rfl
theorem zfs_pr {E : zEn} {M : zM} {q : zL} {c j : Nat} {v : zL} (ht : (zft c).getD j 0 = 1) : (zfs E M q c).set j (.ref (zad E v)) = zfs E (zpr M q j (some v)) q c := by
  refine zfs_set ?_ (fun n hn => ?_)
  · rw [ht]
    show va_rf (Option.map _ (if _ then _ else _)) = _
    rw [if_pos ⟨rfl, rfl, rfl, rfl⟩]
    rfl
  · unfold zfv
    split
    · show va_rf (Option.map _ (if _ then _ else _)) = _
      rw [if_neg (fun h => hn h.2.2.2)]
    · rfl
    · rfl
theorem zlk_at {E : zEn} {lsA : Array Slot} {n : Nat} {ls : zLs} {i : Nat} {v : zV} (h : lv_has lsA n (ls.map (fun q => (q.1, zcv E q.2)))) (hk : zlk ls i = some v) : lsA[i]? = some (.val (zcv E v)) := by
  unfold zlk at hk
  obtain ⟨q, hq, rfl⟩ := Option.map_eq_some_iff.mp hk
  have h1 := List.mem_of_find?_eq_some hq
  have h2 := List.find?_some hq
  simp only [beq_iff_eq] at h2
  subst h2
  exact h.2.2 (q.1, zcv E q.2) (List.mem_map.mpr ⟨q, h1, rfl⟩)
theorem zcat_cv (E : zEn) (v : zV) : (zcv E v).category = zcat v := by
  cases v <;> rfl
theorem zcL_store {E : zEn} {ls : zLs} {i : Nat} {v : zV} : (i, zcv E v) :: (ls.map (fun q => (q.1, zcv E q.2))).filter (fun q => !(q.1 == i) && !(q.1 + 1 == i && q.2.category == 2)) = (zstore ls i v).map (fun q => (q.1, zcv E q.2)) := by
  unfold zstore
  rw [List.map_cons, List.filter_map]
  congr 2
  apply List.filter_congr
  intro q _
  simp only [Function.comp, zcat_cv]
theorem zcL_store2 {E : zEn} {ls : zLs} {i : Nat} {v : zV} : (i, zcv E v) :: (ls.map (fun q => (q.1, zcv E q.2))).filter (fun q => !(q.1 == i) && (!(q.1 == i + 1) && !(q.1 + 1 == i && q.2.category == 2))) = (zstore2 ls i v).map (fun q => (q.1, zcv E q.2)) := by
  unfold zstore2
  rw [List.map_cons, List.filter_map]
  congr 2
  apply List.filter_congr
  intro q _
  simp only [Function.comp, zcat_cv]
theorem zword {E : zEn} (h0 : zOk E) {s : State} (hW : (zs E).WarmedH s.vm) {w : Cond} (hm : w ∈ lw_tbl) (hg : goodWord w = true) (args : Array Value) : w.before args s = true := word_at hW (good_of_word hg) (h0.1 w hm)
theorem zK {E : zEn} (h0 : zOk E) {s : State} (hW : (zs E).WarmedH s.vm) : va_K (zD E) zCl (ztys E) s := va_K.moved hW.alike h0.2.1
