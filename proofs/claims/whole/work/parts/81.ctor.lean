/-! ===== constructors ===== -/
abbrev eFill (q : zL) (len : Nat) (M : zM) : zM := (fun k i j n => if k = q.1 ∧ i = q.2.1 ∧ j = q.2.2 ∧ n < len then I (-1) else M.1 k i j n, M.2)
theorem eFill_0 (q : zL) (M : zM) : eFill q 0 M = M := by
  refine Prod.ext (funext fun k => funext fun i => funext fun j => funext fun n => ?_) rfl
  exact if_neg (by omega)
theorem eFill_s (q : zL) (x : Nat) (M : zM) : zpi (eFill q x M) q x (I (-1)) = eFill q (x + 1) M := by
  refine Prod.ext (funext fun k => funext fun i => funext fun j => funext fun n => ?_) rfl
  show (if _ then _ else (if _ then _ else _)) = (if _ then _ else _)
  grind
theorem zmem {w : zL} {n : Nat} (h : Nat.ble (zNm.idxOf w + 1) n = true) (h2 : Nat.ble (zNm.idxOf w + 1) 176 = true) : w ∈ zNm.take n := by
  have h1 := Nat.le_of_ble_eq_true h
  have h3 := Nat.le_of_ble_eq_true h2
  have h4 : zNm.idxOf w < zNm.length := by rw [show zNm.length = 176 by decide +kernel]; omega
  rw [List.mem_take_iff_getElem]
  exact ⟨zNm.idxOf w, by omega, List.getElem_idxOf h4⟩
theorem zmna {c : Nat} {m len : Nat} (h : (List.range m).all (fun n' => match zNm[c + n']? with
  | some r' => decide (zcls r'.1 = 8 ∧ (zarr r'.1).1 = 0 ∧ len = (zarr r'.1).2)
  | none => false) = true) : ∀ n', n' < m → ∃ r', zNm[c + n']? = some r' ∧ zcls r'.1 = 8 ∧ (zarr r'.1).1 = 0 ∧ len = (zarr r'.1).2 := by
  intro n' hn
  have h1 := List.all_eq_true.mp h n' (List.mem_range.mpr hn)
  split at h1
  · rename_i r' hr
    exact ⟨r', hr, of_decide_eq_true h1⟩
  · cases h1
/-- what is done to the memory, the last first: 0 a cell made, 1 a reference put, 2 an int put, 3 a row filled with none -/
abbrev zEv : Type := Nat × zL × Nat × zL × Int
def zstp (e : zEv) (M : zM) : zM := match e.1 with
  | 0 => zal M e.2.1
  | 1 => zpr M e.2.1 e.2.2.1 (some e.2.2.2.1)
  | 2 => zpi M e.2.1 e.2.2.1 (I e.2.2.2.2)
  | _ => eFill e.2.1 e.2.2.1 M
def zevs : List zEv → zM → zM
  | [], M => M
  | e :: es, M => zstp e (zevs es M)
section CT
variable {E : zEn} {d mc ms : Nat} {kr : Option zV → zM → Prop} {kx : String → zM → Prop} {σ : Nat → Nat → Nat → Nat → Int32} {l : Nat → Nat → Nat → Nat → Int64} {δ : Nat → Nat → Nat → Nat → UInt64} {ρ : Nat → Nat → Nat → Nat → Option zL}
theorem j_fillM (h0 : zOk E) {w : zL} {n : Nat} {μ : zM} (hk1 : zarr w.1 = (0, n)) (hk4 : n < 1000) (hk2 : w ∈ zNm.take μ.2.2.2.2) (hk3 : w.1 ≠ 70) (hk : kr none (eFill w n μ))
    : ∀ r x : Nat, x + r = n → zJ E zm_J7_fill_53178 d mc ms kr kx 5 [(0, .inr w), (1, .inl (.int (I (-1)))), (2, .inl (.int (I x))), (3, .inl (.int (I n)))] [] (eFill w x μ) (0, 0) := by
  intro r
  induction r with
  | zero =>
    intro x hx
    refine zJ_at h0 100 zo_J7_fill_53178 rfl fun K hK => ?_
    conv => whnf
    have : x = n := by omega
    subst this
    refine ⟨fun _ => ?_, fun h => absurd Int32.le_rfl h⟩
    conv => whnf
    exact ⟨trivial, hk⟩
  | succ r ih =>
    intro x hx
    refine zJ_at h0 100 zo_J7_fill_53178 rfl fun K hK => ?_
    conv => whnf
    have e1 : (I (x : Int)).toNatClampNeg = x := by rw [I_nat (by omega) (by omega)]; rfl
    refine ⟨fun h => ?_, fun _ => ?_⟩
    · rw [I_le (by omega) (by omega) (by omega) (by omega)] at h
      omega
    · conv => whnf
      refine ⟨by rw [hk1], hk2, by rw [hk1]; exact I_in (by omega) (by show (x : Int) < (n : Int); omega) (by show n < _; omega), ?_⟩
      conv => whnf
      repeat' (refine ⟨by first | rfl | exact Nat.le_of_ble_eq_true rfl, ?_⟩; conv => whnf)
      refine hK _ _ _ _ _ (zJ_to (by (repeat' (first | exact trivial | (refine And.intro ?_ ?_) | (refine zlk_i rfl ?_; first | (with_reducible rfl) | (simp (disch := omega) only [I_0, I_add, I_sub, I_mul, I_neg, I_nat, I_lt, I_le, I_eq, Int.toNat_natCast, ne_eq, not_true, not_false_iff, zt0, zt1, zI_at, zpi_I, zpl_I, zpd_I, zcp_I, cpI_k, Int.reduceToNat, zu_s, zu_k, zu_i, zu_j, zu_n]; done) | (simp (disch := omega) only [I_0, I_add, I_sub, I_mul, I_neg, I_nat, I_lt, I_le, I_eq, Int.toNat_natCast, ne_eq, not_true, not_false_iff, zt0, zt1, zI_at, zpi_I, zpl_I, zpd_I, zcp_I, cpI_k, Int.reduceToNat, zu_s, zu_k, zu_i, zu_j, zu_n]; first | omega | (congr 1; omega)) | (congr 1; omega)) | rfl | (simp (disch := omega) only [I_0, I_add, I_sub, I_mul, I_neg, I_nat, I_lt, I_le, I_eq, Int.toNat_natCast, ne_eq, not_true, not_false_iff, zt0, zt1, zI_at, zpi_I, zpl_I, zpd_I, zcp_I, cpI_k, Int.reduceToNat, zu_s, zu_k, zu_i, zu_j, zu_n]; done) | (refine zlk_r rfl ?_; simp (disch := omega) only [I_0, I_add, I_sub, I_mul, I_neg, I_nat, I_lt, I_le, I_eq, Int.toNat_natCast, ne_eq, not_true, not_false_iff, zt0, zt1, zI_at, zpi_I, zpl_I, zpd_I, zcp_I, cpI_k, Int.reduceToNat, zu_s, zu_k, zu_i, zu_j, zu_n]; done)))) rfl ?_ (ih (x + 1) (by omega)))
      rw [e1]
      exact eFill_s w x μ
theorem c_fill (h0 : zOk E) {w : zL} {len : Nat} {μ : zM} (hz : zarr w.1 = (0, len)) (hl : Nat.blt len 1000 = true) (hq : w ∈ zNm.take μ.2.2.2.2) (h70 : w.1 ≠ 70) (h8 : zcls w.1 = 8) (hk : kr none (eFill w len μ)) : zC E zm_J7_fill_53178 d mc ms [.inr w, .inl (.int (I (-1)))] μ kr kx := by
  have hl : len < 1000 := Nat.le_of_ble_eq_true hl
  refine zC_of h0 (by decide +kernel) (Nat.le_of_ble_eq_true rfl) (Or.inl rfl) (zJ_cut h0 100 5 zo_J7_fill_53178 rfl fun K hK => ?_)
  have a1 : (zarr w.1).1 < 8 := by rw [hz]; exact Nat.le_of_ble_eq_true rfl
  have a2 : Int32.ofNat (zarr w.1).2 = I len := by rw [hz, I_ofNat]
  conv => whnf
  repeat' (first | (refine ⟨by first | rfl | assumption | exact Nat.le_of_ble_eq_true rfl, ?_⟩; conv => whnf) | (refine zif70 h70 ?_; conv => whnf))
  refine hK _ _ _ _ _ (zJ_to (by (repeat' (first | exact trivial | (refine And.intro ?_ ?_) | (refine zlk_i rfl ?_; first | (with_reducible rfl) | (simp (disch := omega) only [I_0, I_add, I_sub, I_mul, I_neg, I_nat, I_lt, I_le, I_eq, Int.toNat_natCast, ne_eq, not_true, not_false_iff, zt0, zt1, zI_at, zpi_I, zpl_I, zpd_I, zcp_I, cpI_k, Int.reduceToNat, zu_s, zu_k, zu_i, zu_j, zu_n, a2]; done) | (simp (disch := omega) only [I_0, I_add, I_sub, I_mul, I_neg, I_nat, I_lt, I_le, I_eq, Int.toNat_natCast, ne_eq, not_true, not_false_iff, zt0, zt1, zI_at, zpi_I, zpl_I, zpd_I, zcp_I, cpI_k, Int.reduceToNat, zu_s, zu_k, zu_i, zu_j, zu_n, a2]; first | omega | (congr 1; omega)) | (congr 1; omega)) | rfl | (simp (disch := omega) only [I_0, I_add, I_sub, I_mul, I_neg, I_nat, I_lt, I_le, I_eq, Int.toNat_natCast, ne_eq, not_true, not_false_iff, zt0, zt1, zI_at, zpi_I, zpl_I, zpd_I, zcp_I, cpI_k, Int.reduceToNat, zu_s, zu_k, zu_i, zu_j, zu_n, a2]; done) | (refine zlk_r rfl ?_; simp (disch := omega) only [I_0, I_add, I_sub, I_mul, I_neg, I_nat, I_lt, I_le, I_eq, Int.toNat_natCast, ne_eq, not_true, not_false_iff, zt0, zt1, zI_at, zpi_I, zpl_I, zpd_I, zcp_I, cpI_k, Int.reduceToNat, zu_s, zu_k, zu_i, zu_j, zu_n, a2]; done)))) rfl ?_ (j_fillM h0 hz hl hq h70 hk len 0 (by omega)))
  exact (eFill_0 w μ).symm
abbrev eView (i j : Nat) (M : zM) : zM := zevs [(1, (29, i, j), 1, (30, i, j), 0), (0, (30, i, j), 0, (0, 0, 0), 0)] M
abbrev eLim (M : zM) : zM := (zevs [(2, (31, 0, 0), 2, (0, 0, 0), 72), (2, (31, 0, 0), 1, (0, 0, 0), 8), (2, (31, 0, 0), 0, (0, 0, 0), 30)] M)
theorem c_View (h0 : zOk E) {i j : Nat} {μ : zM} (hn : zNm[μ.2.2.2.2]? = some (30, i, j)) (hq : (29, i, j) ∈ zNm.take (μ.2.2.2.2 + 1)) (h1 : 1 ≤ mc) (h72 : 72 ≤ ms) (hk : kr none (eView i j μ)) : zC E zm_X5_init d mc ms [.inr (29, i, j)] μ kr kx := by
  refine zC_of h0 (by decide +kernel) (Nat.le_of_ble_eq_true rfl) (Or.inl rfl) (zJ_cut h0 100 1000 zo_X5_init rfl fun K hK => ?_)
  conv => whnf
  refine ⟨Nat.le_of_ble_eq_true rfl, ?_⟩
  conv => whnf
  simp only [hn]
  refine ⟨rfl, rfl, by decide, by decide, by decide, by omega, by show _ ≤ ms; simp only [zarr]; omega, ?_⟩
  conv => whnf
  refine ⟨rfl, hq, rfl, rfl, rfl, ?_⟩
  conv => whnf
  exact ⟨trivial, hk⟩
set_option maxRecDepth 100000 in
theorem c_Lim (h0 : zOk E) (h1 : 0 ≤ mc) (h2 : 0 ≤ ms) (hk : kr none (eLim (σ, l, δ, ρ, 120))) : zC E zm_X1_init d mc ms [.inr (31, 0, 0)] (σ, l, δ, ρ, 120) kr kx := by
  refine zC_of h0 (by decide +kernel) (Nat.le_of_ble_eq_true rfl) (Or.inl rfl) (zJ_at h0 1000 zo_X1_init rfl fun K hK => ?_)
  conv => whnf
  repeat' (first
    | (refine ⟨fun h => absurd h (by decide), fun _ => ?_⟩; conv => whnf)
    | (refine ⟨fun _ => ?_, fun h => absurd (by decide) h⟩; conv => whnf)
    | (refine ⟨by first | rfl | exact trivial | exact Nat.le_trans (Nat.le_of_ble_eq_true rfl) h1 | exact Nat.le_trans (Nat.le_of_ble_eq_true rfl) h2 | exact zmem rfl rfl | exact zmna rfl | decide | (unfold vp_in; decide) | exact Nat.le_of_ble_eq_true rfl | exact ⟨rfl, Or.inl rfl⟩ | exact Or.inl ⟨rfl, rfl⟩ | exact Or.inr (Or.inl ⟨rfl, rfl⟩) | exact Or.inr (Or.inr ⟨rfl, rfl⟩), ?_⟩; conv => whnf)
    | (refine hK _ _ _ _ _ (zJ_at h0 1000 zo_X1_init rfl fun K hK => ?_); conv => whnf))
  exact hk
abbrev eSnap0 (M : zM) : zM := (zevs [(1, (33, 0, 0), 2, (29, 4, 0), 0)] (eView 4 0 (zevs [(0, (29, 4, 0), 0, (0, 0, 0), 0)] M)))
set_option maxRecDepth 100000 in
theorem c_Snap0 (h0 : zOk E) (hd : 1 ≤ d) (h1 : 2 ≤ mc) (h2 : 74 ≤ ms) (hk : kr none (eSnap0 (σ, l, δ, ρ, 122))) : zC E zm_X3_init d mc ms [.inr (33, 0, 0)] (σ, l, δ, ρ, 122) kr kx := by
  refine zC_of h0 (by decide +kernel) (Nat.le_of_ble_eq_true rfl) (Or.inl rfl) (zJ_at h0 1000 zo_X3_init rfl fun K hK => ?_)
  conv => whnf
  repeat' (first
    | (refine ⟨1, 72, ⟨Nat.le_trans (Nat.le_of_ble_eq_true rfl) h1, Nat.le_trans (Nat.le_of_ble_eq_true rfl) h2⟩, c_View h0 rfl (zmem rfl rfl) (Nat.le_refl _) (Nat.le_refl _) ?_⟩; refine ⟨rfl, ?_⟩; conv => whnf)
    | (refine ⟨fun h => absurd h (by decide), fun _ => ?_⟩; conv => whnf)
    | (refine ⟨fun _ => ?_, fun h => absurd (by decide) h⟩; conv => whnf)
    | (refine ⟨by first | rfl | exact trivial | exact Nat.le_trans (Nat.le_of_ble_eq_true rfl) h1 | exact Nat.le_trans (Nat.le_of_ble_eq_true rfl) h2 | exact Nat.le_trans (Nat.le_of_ble_eq_true rfl) hd | exact zmem rfl rfl | exact zmna rfl | decide | (unfold vp_in; decide) | exact Nat.le_of_ble_eq_true rfl | exact ⟨rfl, Or.inl rfl⟩ | exact Or.inl ⟨rfl, rfl⟩ | exact Or.inr (Or.inl ⟨rfl, rfl⟩) | exact Or.inr (Or.inr ⟨rfl, rfl⟩), ?_⟩; conv => whnf)
    | (refine hK _ _ _ _ _ (zJ_at h0 1000 zo_X3_init rfl fun K hK => ?_); conv => whnf))
  exact hk
abbrev eSnap1 (M : zM) : zM := (zevs [(1, (33, 0, 1), 2, (29, 4, 1), 0)] (eView 4 1 (zevs [(0, (29, 4, 1), 0, (0, 0, 0), 0)] M)))
set_option maxRecDepth 100000 in
theorem c_Snap1 (h0 : zOk E) (hd : 1 ≤ d) (h1 : 2 ≤ mc) (h2 : 74 ≤ ms) (hk : kr none (eSnap1 (σ, l, δ, ρ, 125))) : zC E zm_X3_init d mc ms [.inr (33, 0, 1)] (σ, l, δ, ρ, 125) kr kx := by
  refine zC_of h0 (by decide +kernel) (Nat.le_of_ble_eq_true rfl) (Or.inl rfl) (zJ_at h0 1000 zo_X3_init rfl fun K hK => ?_)
  conv => whnf
  repeat' (first
    | (refine ⟨1, 72, ⟨Nat.le_trans (Nat.le_of_ble_eq_true rfl) h1, Nat.le_trans (Nat.le_of_ble_eq_true rfl) h2⟩, c_View h0 rfl (zmem rfl rfl) (Nat.le_refl _) (Nat.le_refl _) ?_⟩; refine ⟨rfl, ?_⟩; conv => whnf)
    | (refine ⟨fun h => absurd h (by decide), fun _ => ?_⟩; conv => whnf)
    | (refine ⟨fun _ => ?_, fun h => absurd (by decide) h⟩; conv => whnf)
    | (refine ⟨by first | rfl | exact trivial | exact Nat.le_trans (Nat.le_of_ble_eq_true rfl) h1 | exact Nat.le_trans (Nat.le_of_ble_eq_true rfl) h2 | exact Nat.le_trans (Nat.le_of_ble_eq_true rfl) hd | exact zmem rfl rfl | exact zmna rfl | decide | (unfold vp_in; decide) | exact Nat.le_of_ble_eq_true rfl | exact ⟨rfl, Or.inl rfl⟩ | exact Or.inl ⟨rfl, rfl⟩ | exact Or.inr (Or.inl ⟨rfl, rfl⟩) | exact Or.inr (Or.inr ⟨rfl, rfl⟩), ?_⟩; conv => whnf)
    | (refine hK _ _ _ _ _ (zJ_at h0 1000 zo_X3_init rfl fun K hK => ?_); conv => whnf))
  exact hk
abbrev eSnap2 (M : zM) : zM := (zevs [(1, (33, 0, 2), 2, (29, 4, 2), 0)] (eView 4 2 (zevs [(0, (29, 4, 2), 0, (0, 0, 0), 0)] M)))
set_option maxRecDepth 100000 in
theorem c_Snap2 (h0 : zOk E) (hd : 1 ≤ d) (h1 : 2 ≤ mc) (h2 : 74 ≤ ms) (hk : kr none (eSnap2 (σ, l, δ, ρ, 128))) : zC E zm_X3_init d mc ms [.inr (33, 0, 2)] (σ, l, δ, ρ, 128) kr kx := by
  refine zC_of h0 (by decide +kernel) (Nat.le_of_ble_eq_true rfl) (Or.inl rfl) (zJ_at h0 1000 zo_X3_init rfl fun K hK => ?_)
  conv => whnf
  repeat' (first
    | (refine ⟨1, 72, ⟨Nat.le_trans (Nat.le_of_ble_eq_true rfl) h1, Nat.le_trans (Nat.le_of_ble_eq_true rfl) h2⟩, c_View h0 rfl (zmem rfl rfl) (Nat.le_refl _) (Nat.le_refl _) ?_⟩; refine ⟨rfl, ?_⟩; conv => whnf)
    | (refine ⟨fun h => absurd h (by decide), fun _ => ?_⟩; conv => whnf)
    | (refine ⟨fun _ => ?_, fun h => absurd (by decide) h⟩; conv => whnf)
    | (refine ⟨by first | rfl | exact trivial | exact Nat.le_trans (Nat.le_of_ble_eq_true rfl) h1 | exact Nat.le_trans (Nat.le_of_ble_eq_true rfl) h2 | exact Nat.le_trans (Nat.le_of_ble_eq_true rfl) hd | exact zmem rfl rfl | exact zmna rfl | decide | (unfold vp_in; decide) | exact Nat.le_of_ble_eq_true rfl | exact ⟨rfl, Or.inl rfl⟩ | exact Or.inl ⟨rfl, rfl⟩ | exact Or.inr (Or.inl ⟨rfl, rfl⟩) | exact Or.inr (Or.inr ⟨rfl, rfl⟩), ?_⟩; conv => whnf)
    | (refine hK _ _ _ _ _ (zJ_at h0 1000 zo_X3_init rfl fun K hK => ?_); conv => whnf))
  exact hk
abbrev eSnap3 (M : zM) : zM := (zevs [(1, (33, 0, 3), 2, (29, 4, 3), 0)] (eView 4 3 (zevs [(0, (29, 4, 3), 0, (0, 0, 0), 0)] M)))
set_option maxRecDepth 100000 in
theorem c_Snap3 (h0 : zOk E) (hd : 1 ≤ d) (h1 : 2 ≤ mc) (h2 : 74 ≤ ms) (hk : kr none (eSnap3 (σ, l, δ, ρ, 131))) : zC E zm_X3_init d mc ms [.inr (33, 0, 3)] (σ, l, δ, ρ, 131) kr kx := by
  refine zC_of h0 (by decide +kernel) (Nat.le_of_ble_eq_true rfl) (Or.inl rfl) (zJ_at h0 1000 zo_X3_init rfl fun K hK => ?_)
  conv => whnf
  repeat' (first
    | (refine ⟨1, 72, ⟨Nat.le_trans (Nat.le_of_ble_eq_true rfl) h1, Nat.le_trans (Nat.le_of_ble_eq_true rfl) h2⟩, c_View h0 rfl (zmem rfl rfl) (Nat.le_refl _) (Nat.le_refl _) ?_⟩; refine ⟨rfl, ?_⟩; conv => whnf)
    | (refine ⟨fun h => absurd h (by decide), fun _ => ?_⟩; conv => whnf)
    | (refine ⟨fun _ => ?_, fun h => absurd (by decide) h⟩; conv => whnf)
    | (refine ⟨by first | rfl | exact trivial | exact Nat.le_trans (Nat.le_of_ble_eq_true rfl) h1 | exact Nat.le_trans (Nat.le_of_ble_eq_true rfl) h2 | exact Nat.le_trans (Nat.le_of_ble_eq_true rfl) hd | exact zmem rfl rfl | exact zmna rfl | decide | (unfold vp_in; decide) | exact Nat.le_of_ble_eq_true rfl | exact ⟨rfl, Or.inl rfl⟩ | exact Or.inl ⟨rfl, rfl⟩ | exact Or.inr (Or.inl ⟨rfl, rfl⟩) | exact Or.inr (Or.inr ⟨rfl, rfl⟩), ?_⟩; conv => whnf)
    | (refine hK _ _ _ _ _ (zJ_at h0 1000 zo_X3_init rfl fun K hK => ?_); conv => whnf))
  exact hk
abbrev eSnap4 (M : zM) : zM := (zevs [(1, (33, 0, 4), 2, (29, 4, 4), 0)] (eView 4 4 (zevs [(0, (29, 4, 4), 0, (0, 0, 0), 0)] M)))
set_option maxRecDepth 100000 in
theorem c_Snap4 (h0 : zOk E) (hd : 1 ≤ d) (h1 : 2 ≤ mc) (h2 : 74 ≤ ms) (hk : kr none (eSnap4 (σ, l, δ, ρ, 134))) : zC E zm_X3_init d mc ms [.inr (33, 0, 4)] (σ, l, δ, ρ, 134) kr kx := by
  refine zC_of h0 (by decide +kernel) (Nat.le_of_ble_eq_true rfl) (Or.inl rfl) (zJ_at h0 1000 zo_X3_init rfl fun K hK => ?_)
  conv => whnf
  repeat' (first
    | (refine ⟨1, 72, ⟨Nat.le_trans (Nat.le_of_ble_eq_true rfl) h1, Nat.le_trans (Nat.le_of_ble_eq_true rfl) h2⟩, c_View h0 rfl (zmem rfl rfl) (Nat.le_refl _) (Nat.le_refl _) ?_⟩; refine ⟨rfl, ?_⟩; conv => whnf)
    | (refine ⟨fun h => absurd h (by decide), fun _ => ?_⟩; conv => whnf)
    | (refine ⟨fun _ => ?_, fun h => absurd (by decide) h⟩; conv => whnf)
    | (refine ⟨by first | rfl | exact trivial | exact Nat.le_trans (Nat.le_of_ble_eq_true rfl) h1 | exact Nat.le_trans (Nat.le_of_ble_eq_true rfl) h2 | exact Nat.le_trans (Nat.le_of_ble_eq_true rfl) hd | exact zmem rfl rfl | exact zmna rfl | decide | (unfold vp_in; decide) | exact Nat.le_of_ble_eq_true rfl | exact ⟨rfl, Or.inl rfl⟩ | exact Or.inl ⟨rfl, rfl⟩ | exact Or.inr (Or.inl ⟨rfl, rfl⟩) | exact Or.inr (Or.inr ⟨rfl, rfl⟩), ?_⟩; conv => whnf)
    | (refine hK _ _ _ _ _ (zJ_at h0 1000 zo_X3_init rfl fun K hK => ?_); conv => whnf))
  exact hk
abbrev eSnap5 (M : zM) : zM := (zevs [(1, (33, 0, 5), 2, (29, 4, 5), 0)] (eView 4 5 (zevs [(0, (29, 4, 5), 0, (0, 0, 0), 0)] M)))
set_option maxRecDepth 100000 in
theorem c_Snap5 (h0 : zOk E) (hd : 1 ≤ d) (h1 : 2 ≤ mc) (h2 : 74 ≤ ms) (hk : kr none (eSnap5 (σ, l, δ, ρ, 137))) : zC E zm_X3_init d mc ms [.inr (33, 0, 5)] (σ, l, δ, ρ, 137) kr kx := by
  refine zC_of h0 (by decide +kernel) (Nat.le_of_ble_eq_true rfl) (Or.inl rfl) (zJ_at h0 1000 zo_X3_init rfl fun K hK => ?_)
  conv => whnf
  repeat' (first
    | (refine ⟨1, 72, ⟨Nat.le_trans (Nat.le_of_ble_eq_true rfl) h1, Nat.le_trans (Nat.le_of_ble_eq_true rfl) h2⟩, c_View h0 rfl (zmem rfl rfl) (Nat.le_refl _) (Nat.le_refl _) ?_⟩; refine ⟨rfl, ?_⟩; conv => whnf)
    | (refine ⟨fun h => absurd h (by decide), fun _ => ?_⟩; conv => whnf)
    | (refine ⟨fun _ => ?_, fun h => absurd (by decide) h⟩; conv => whnf)
    | (refine ⟨by first | rfl | exact trivial | exact Nat.le_trans (Nat.le_of_ble_eq_true rfl) h1 | exact Nat.le_trans (Nat.le_of_ble_eq_true rfl) h2 | exact Nat.le_trans (Nat.le_of_ble_eq_true rfl) hd | exact zmem rfl rfl | exact zmna rfl | decide | (unfold vp_in; decide) | exact Nat.le_of_ble_eq_true rfl | exact ⟨rfl, Or.inl rfl⟩ | exact Or.inl ⟨rfl, rfl⟩ | exact Or.inr (Or.inl ⟨rfl, rfl⟩) | exact Or.inr (Or.inr ⟨rfl, rfl⟩), ?_⟩; conv => whnf)
    | (refine hK _ _ _ _ _ (zJ_at h0 1000 zo_X3_init rfl fun K hK => ?_); conv => whnf))
  exact hk
abbrev eSnap6 (M : zM) : zM := (zevs [(1, (33, 0, 6), 2, (29, 4, 6), 0)] (eView 4 6 (zevs [(0, (29, 4, 6), 0, (0, 0, 0), 0)] M)))
set_option maxRecDepth 100000 in
theorem c_Snap6 (h0 : zOk E) (hd : 1 ≤ d) (h1 : 2 ≤ mc) (h2 : 74 ≤ ms) (hk : kr none (eSnap6 (σ, l, δ, ρ, 140))) : zC E zm_X3_init d mc ms [.inr (33, 0, 6)] (σ, l, δ, ρ, 140) kr kx := by
  refine zC_of h0 (by decide +kernel) (Nat.le_of_ble_eq_true rfl) (Or.inl rfl) (zJ_at h0 1000 zo_X3_init rfl fun K hK => ?_)
  conv => whnf
  repeat' (first
    | (refine ⟨1, 72, ⟨Nat.le_trans (Nat.le_of_ble_eq_true rfl) h1, Nat.le_trans (Nat.le_of_ble_eq_true rfl) h2⟩, c_View h0 rfl (zmem rfl rfl) (Nat.le_refl _) (Nat.le_refl _) ?_⟩; refine ⟨rfl, ?_⟩; conv => whnf)
    | (refine ⟨fun h => absurd h (by decide), fun _ => ?_⟩; conv => whnf)
    | (refine ⟨fun _ => ?_, fun h => absurd (by decide) h⟩; conv => whnf)
    | (refine ⟨by first | rfl | exact trivial | exact Nat.le_trans (Nat.le_of_ble_eq_true rfl) h1 | exact Nat.le_trans (Nat.le_of_ble_eq_true rfl) h2 | exact Nat.le_trans (Nat.le_of_ble_eq_true rfl) hd | exact zmem rfl rfl | exact zmna rfl | decide | (unfold vp_in; decide) | exact Nat.le_of_ble_eq_true rfl | exact ⟨rfl, Or.inl rfl⟩ | exact Or.inl ⟨rfl, rfl⟩ | exact Or.inr (Or.inl ⟨rfl, rfl⟩) | exact Or.inr (Or.inr ⟨rfl, rfl⟩), ?_⟩; conv => whnf)
    | (refine hK _ _ _ _ _ (zJ_at h0 1000 zo_X3_init rfl fun K hK => ?_); conv => whnf))
  exact hk
abbrev eSnap7 (M : zM) : zM := (zevs [(1, (33, 0, 7), 2, (29, 4, 7), 0)] (eView 4 7 (zevs [(0, (29, 4, 7), 0, (0, 0, 0), 0)] M)))
set_option maxRecDepth 100000 in
theorem c_Snap7 (h0 : zOk E) (hd : 1 ≤ d) (h1 : 2 ≤ mc) (h2 : 74 ≤ ms) (hk : kr none (eSnap7 (σ, l, δ, ρ, 143))) : zC E zm_X3_init d mc ms [.inr (33, 0, 7)] (σ, l, δ, ρ, 143) kr kx := by
  refine zC_of h0 (by decide +kernel) (Nat.le_of_ble_eq_true rfl) (Or.inl rfl) (zJ_at h0 1000 zo_X3_init rfl fun K hK => ?_)
  conv => whnf
  repeat' (first
    | (refine ⟨1, 72, ⟨Nat.le_trans (Nat.le_of_ble_eq_true rfl) h1, Nat.le_trans (Nat.le_of_ble_eq_true rfl) h2⟩, c_View h0 rfl (zmem rfl rfl) (Nat.le_refl _) (Nat.le_refl _) ?_⟩; refine ⟨rfl, ?_⟩; conv => whnf)
    | (refine ⟨fun h => absurd h (by decide), fun _ => ?_⟩; conv => whnf)
    | (refine ⟨fun _ => ?_, fun h => absurd (by decide) h⟩; conv => whnf)
    | (refine ⟨by first | rfl | exact trivial | exact Nat.le_trans (Nat.le_of_ble_eq_true rfl) h1 | exact Nat.le_trans (Nat.le_of_ble_eq_true rfl) h2 | exact Nat.le_trans (Nat.le_of_ble_eq_true rfl) hd | exact zmem rfl rfl | exact zmna rfl | decide | (unfold vp_in; decide) | exact Nat.le_of_ble_eq_true rfl | exact ⟨rfl, Or.inl rfl⟩ | exact Or.inl ⟨rfl, rfl⟩ | exact Or.inr (Or.inl ⟨rfl, rfl⟩) | exact Or.inr (Or.inr ⟨rfl, rfl⟩), ?_⟩; conv => whnf)
    | (refine hK _ _ _ _ _ (zJ_at h0 1000 zo_X3_init rfl fun K hK => ?_); conv => whnf))
  exact hk
abbrev eTok (M : zM) : zM := (zevs [(3, (6, 3, 0), 12, (0, 0, 0), 0), (3, (6, 2, 0), 12, (0, 0, 0), 0), (3, (6, 1, 0), 12, (0, 0, 0), 0), (3, (6, 0, 0), 12, (0, 0, 0), 0), (3, (4, 0, 0), 12, (0, 0, 0), 0), (3, (3, 0, 0), 12, (0, 0, 0), 0), (1, (1, 0, 0), 6, (7, 0, 0), 0), (1, (7, 0, 0), 3, (8, 3, 0), 0), (0, (8, 3, 0), 0, (0, 0, 0), 0), (1, (7, 0, 0), 2, (8, 2, 0), 0), (0, (8, 2, 0), 0, (0, 0, 0), 0), (1, (7, 0, 0), 1, (8, 1, 0), 0), (0, (8, 1, 0), 0, (0, 0, 0), 0), (1, (7, 0, 0), 0, (8, 0, 0), 0), (0, (8, 0, 0), 0, (0, 0, 0), 0), (0, (7, 0, 0), 0, (0, 0, 0), 0), (1, (1, 0, 0), 5, (5, 0, 0), 0), (1, (5, 0, 0), 3, (6, 3, 0), 0), (0, (6, 3, 0), 0, (0, 0, 0), 0), (1, (5, 0, 0), 2, (6, 2, 0), 0), (0, (6, 2, 0), 0, (0, 0, 0), 0), (1, (5, 0, 0), 1, (6, 1, 0), 0), (0, (6, 1, 0), 0, (0, 0, 0), 0), (1, (5, 0, 0), 0, (6, 0, 0), 0), (0, (6, 0, 0), 0, (0, 0, 0), 0), (0, (5, 0, 0), 0, (0, 0, 0), 0), (1, (1, 0, 0), 4, (4, 0, 0), 0), (0, (4, 0, 0), 0, (0, 0, 0), 0), (1, (1, 0, 0), 3, (3, 0, 0), 0), (0, (3, 0, 0), 0, (0, 0, 0), 0), (1, (1, 0, 0), 2, (2, 0, 0), 0), (0, (2, 0, 0), 0, (0, 0, 0), 0), (2, (1, 0, 0), 1, (0, 0, 0), 1)] M)
set_option maxRecDepth 100000 in
theorem c_Tok (h0 : zOk E) (hd : 1 ≤ d) (h1 : 13 ≤ mc) (h2 : 140 ≤ ms) (hk : kr none (eTok (σ, l, δ, ρ, 2))) : zC E zm_X4_init d mc ms [.inr (1, 0, 0)] (σ, l, δ, ρ, 2) kr kx := by
  refine zC_of h0 (by decide +kernel) (Nat.le_of_ble_eq_true rfl) (Or.inl rfl) (zJ_at h0 1000 zo_X4_init rfl fun K hK => ?_)
  conv => whnf
  repeat' (first
    | (refine ⟨0, 0, ⟨Nat.le_trans (Nat.le_of_ble_eq_true rfl) h1, Nat.le_trans (Nat.le_of_ble_eq_true rfl) h2⟩, c_fill h0 rfl rfl (zmem rfl rfl) (by decide) rfl ?_⟩; refine ⟨rfl, ?_⟩; conv => whnf)
    | (refine ⟨fun h => absurd h (by decide), fun _ => ?_⟩; conv => whnf)
    | (refine ⟨fun _ => ?_, fun h => absurd (by decide) h⟩; conv => whnf)
    | (refine ⟨by first | rfl | exact trivial | exact Nat.le_trans (Nat.le_of_ble_eq_true rfl) h1 | exact Nat.le_trans (Nat.le_of_ble_eq_true rfl) h2 | exact Nat.le_trans (Nat.le_of_ble_eq_true rfl) hd | exact zmem rfl rfl | exact zmna rfl | decide | (unfold vp_in; decide) | exact Nat.le_of_ble_eq_true rfl | exact ⟨rfl, Or.inl rfl⟩ | exact Or.inl ⟨rfl, rfl⟩ | exact Or.inr (Or.inl ⟨rfl, rfl⟩) | exact Or.inr (Or.inr ⟨rfl, rfl⟩), ?_⟩; conv => whnf)
    | (refine hK _ _ _ _ _ (zJ_at h0 1000 zo_X4_init rfl fun K hK => ?_); conv => whnf))
  exact hk
end CT
