/-! ===== rows filled, replaced, copied ===== -/
section TK3
variable {E : zEn} {d mc ms : Nat} {kr : Option zV → zM → Prop} {kx : String → zM → Prop} {l : Nat → Nat → Nat → Nat → Int64} {δ : Nat → Nat → Nat → Nat → UInt64} {S : zS}
/-- in a row, the first n that are v become w -/
def rpI (S : zS) (k i j : Nat) (v w : Int) (n : Nat) : zS := fun k' i' j' x => if k' = k ∧ i' = i ∧ j' = j ∧ x < n ∧ S k' i' j' x = v then w else S k' i' j' x
/-- a row's first n are v -/
def flI (S : zS) (k i j : Nat) (v : Int) (n : Nat) : zS := fun k' i' j' x => if k' = k ∧ i' = i ∧ j' = j ∧ x < n then v else S k' i' j' x
theorem zMI_eq {S S' : zS} (h : ∀ k i j x, S k i j x = S' k i j x) : zMI S l δ = zMI S' l δ := by
  rw [show S = S' from funext fun k => funext fun i => funext fun j => funext fun x => h k i j x]
theorem rpI_0 (S : zS) (k i j : Nat) (v w : Int) : rpI S k i j v w 0 = S := by
  funext k' i' j' x'
  unfold rpI
  rw [if_neg (by omega)]
theorem rpI_eq {S : zS} {k i j : Nat} {v w : Int} {x : Nat} (h : S k i j x = v) : zu (rpI S k i j v w x) k i j x w = rpI S k i j v w (x + 1) := by
  funext k' i' j' x'
  unfold rpI zu
  grind
theorem rpI_ne {S : zS} {k i j : Nat} {v w : Int} {x : Nat} (h : ¬ S k i j x = v) : rpI S k i j v w x = rpI S k i j v w (x + 1) := by
  funext k' i' j' x'
  unfold rpI
  grind
theorem flI_0 (S : zS) (k i j : Nat) (v : Int) : flI S k i j v 0 = S := by
  funext k' i' j' x'
  unfold flI
  rw [if_neg (by omega)]
theorem flI_s {S : zS} {k i j : Nat} {v : Int} {x : Nat} : zu (flI S k i j v x) k i j x v = flI S k i j v (x + 1) := by
  funext k' i' j' x'
  unfold flI zu
  grind
theorem j_replaceIn (h0 : zOk E) {k i j n : Nat} (hk1 : (zarr k).1 = 0) (hk4 : n ≤ (zarr k).2 ∧ (zarr k).2 < 1000) (hk2 : (k, i, j) ∈ zNm.take 176) (hk3 : k ≠ 70) {v w : Int} (hf2 : ∀ x, x < n → -1000 ≤ S k i j x ∧ S k i j x ≤ 1000) (hv : -1000 ≤ v ∧ v ≤ 1000) (hk : kr none (zMI (rpI S k i j v w n) l δ))
    : ∀ r x : Nat, x + r = n → zJ E zm_X6_replaceIn d mc ms kr kx 3 [(0, .inr (k, i, j)), (1, .inl (.int (I n))), (2, .inl (.int (I v))), (3, .inl (.int (I w))), (4, .inl (.int (I x)))] [] (zMI (rpI S k i j v w x) l δ) (0, 0) := by
  intro r
  induction r with
  | zero =>
    intro x hx
    refine zJ_at h0 100 zo_X6_replaceIn rfl fun K hK => ?_
    conv => whnf
    repeat' (first
      | (refine ⟨0, 0, ⟨by omega, by omega⟩, ?_⟩)
      | (refine ⟨fun h => ?_, fun h => ?_⟩ <;> (try simp (disch := omega) only [I_0, I_add, I_sub, I_mul, I_neg, I_nat, I_lt, I_le, I_eq, Int.toNat_natCast, ne_eq, not_true, not_false_iff, zt0, zt1, zI_at, zpi_I, zpl_I, zpd_I, zcp_I, cpI_k, Int.reduceToNat, zu_s, zu_k, zu_i, zu_j, zu_n] at h) <;> (try (exfalso; omega)) <;> conv => whnf)
      | (refine ⟨by first | rfl | assumption | exact zin1 rfl | exact Nat.le_of_ble_eq_true rfl | exact ⟨rfl, Or.inl rfl⟩ | exact ⟨rfl, Or.inr (Or.inl rfl)⟩ | exact ⟨rfl, Or.inr (Or.inr rfl)⟩ | exact ⟨Nat.le_of_ble_eq_true rfl, Nat.le_of_ble_eq_true rfl⟩ | exact trivial | omega | (simp (disch := omega) only [I_0, I_add, I_sub, I_mul, I_neg, I_nat, I_lt, I_le, I_eq, Int.toNat_natCast, ne_eq, not_true, not_false_iff, zt0, zt1, zI_at, zpi_I, zpl_I, zpd_I, zcp_I, cpI_k, Int.reduceToNat, zu_s, zu_k, zu_i, zu_j, zu_n, I_in, zarr, zin6, zin8, zin11, zin13, zin15, zin19, zin21, zin22, zin23, zin24, zin25, zin26, zin27, zin28, zin29, zin30, zin29s, zin30s, zin33, zin5, Nat.le_refl, and_self, Prod.mk.injEq, Nat.reduceEqDiff, false_and, not_false_iff]; done) | (simp (disch := omega) only [I_0, I_add, I_sub, I_mul, I_neg, I_nat, I_lt, I_le, I_eq, Int.toNat_natCast, ne_eq, not_true, not_false_iff, zt0, zt1, zI_at, zpi_I, zpl_I, zpd_I, zcp_I, cpI_k, Int.reduceToNat, zu_s, zu_k, zu_i, zu_j, zu_n, I_in, zarr, zin6, zin8, zin11, zin13, zin15, zin19, zin21, zin22, zin23, zin24, zin25, zin26, zin27, zin28, zin29, zin30, zin29s, zin30s, zin33, zin5, Nat.le_refl, and_self, Prod.mk.injEq, Nat.reduceEqDiff, false_and, not_false_iff] <;> omega), ?_⟩; conv => whnf)
      | (refine zif70 (by assumption) ?_; conv => whnf)
      | (refine ⟨_, rfl, ?_⟩; conv => whnf))
    have : x = n := by omega
    subst this
    exact hk
  | succ r ih =>
    intro x hx
    have h2 := hf2 x (by omega)
    have h3 : rpI S k i j v w x k i j x = S k i j x := by
      unfold rpI
      rw [if_neg (by omega)]
    have a2 : vp_in (I (x : Int)) (zarr k).2 := I_in (by omega) (by omega) (by omega)
    refine zJ_at h0 100 zo_X6_replaceIn rfl fun K hK => ?_
    conv => whnf
    repeat' (first
      | (refine ⟨0, 0, ⟨by omega, by omega⟩, ?_⟩)
      | (refine ⟨fun h => ?_, fun h => ?_⟩ <;> (try simp (disch := omega) only [I_0, I_add, I_sub, I_mul, I_neg, I_nat, I_lt, I_le, I_eq, Int.toNat_natCast, ne_eq, not_true, not_false_iff, zt0, zt1, zI_at, zpi_I, zpl_I, zpd_I, zcp_I, cpI_k, Int.reduceToNat, zu_s, zu_k, zu_i, zu_j, zu_n, h3] at h) <;> (try (exfalso; omega)) <;> conv => whnf)
      | (refine ⟨by first | rfl | assumption | exact zin1 rfl | exact Nat.le_of_ble_eq_true rfl | exact ⟨rfl, Or.inl rfl⟩ | exact ⟨rfl, Or.inr (Or.inl rfl)⟩ | exact ⟨rfl, Or.inr (Or.inr rfl)⟩ | exact ⟨Nat.le_of_ble_eq_true rfl, Nat.le_of_ble_eq_true rfl⟩ | exact trivial | omega | (simp (disch := omega) only [I_0, I_add, I_sub, I_mul, I_neg, I_nat, I_lt, I_le, I_eq, Int.toNat_natCast, ne_eq, not_true, not_false_iff, zt0, zt1, zI_at, zpi_I, zpl_I, zpd_I, zcp_I, cpI_k, Int.reduceToNat, zu_s, zu_k, zu_i, zu_j, zu_n, I_in, zarr, zin6, zin8, zin11, zin13, zin15, zin19, zin21, zin22, zin23, zin24, zin25, zin26, zin27, zin28, zin29, zin30, zin29s, zin30s, zin33, zin5, Nat.le_refl, and_self, Prod.mk.injEq, Nat.reduceEqDiff, false_and, not_false_iff, h3]; done) | (simp (disch := omega) only [I_0, I_add, I_sub, I_mul, I_neg, I_nat, I_lt, I_le, I_eq, Int.toNat_natCast, ne_eq, not_true, not_false_iff, zt0, zt1, zI_at, zpi_I, zpl_I, zpd_I, zcp_I, cpI_k, Int.reduceToNat, zu_s, zu_k, zu_i, zu_j, zu_n, I_in, zarr, zin6, zin8, zin11, zin13, zin15, zin19, zin21, zin22, zin23, zin24, zin25, zin26, zin27, zin28, zin29, zin30, zin29s, zin30s, zin33, zin5, Nat.le_refl, and_self, Prod.mk.injEq, Nat.reduceEqDiff, false_and, not_false_iff, h3] <;> omega), ?_⟩; conv => whnf)
      | (refine zif70 (by assumption) ?_; conv => whnf)
      | (refine ⟨_, rfl, ?_⟩; conv => whnf))
    · refine hK _ _ _ _ _ (zJ_to (by (repeat' (first | exact trivial | (refine And.intro ?_ ?_) | (refine zlk_i rfl ?_; first | (with_reducible rfl) | (simp (disch := omega) only [I_0, I_add, I_sub, I_mul, I_neg, I_nat, I_lt, I_le, I_eq, Int.toNat_natCast, ne_eq, not_true, not_false_iff, zt0, zt1, zI_at, zpi_I, zpl_I, zpd_I, zcp_I, cpI_k, Int.reduceToNat, zu_s, zu_k, zu_i, zu_j, zu_n]; done) | (simp (disch := omega) only [I_0, I_add, I_sub, I_mul, I_neg, I_nat, I_lt, I_le, I_eq, Int.toNat_natCast, ne_eq, not_true, not_false_iff, zt0, zt1, zI_at, zpi_I, zpl_I, zpd_I, zcp_I, cpI_k, Int.reduceToNat, zu_s, zu_k, zu_i, zu_j, zu_n]; first | omega | (congr 1; omega)) | (congr 1; omega)) | rfl | (simp (disch := omega) only [I_0, I_add, I_sub, I_mul, I_neg, I_nat, I_lt, I_le, I_eq, Int.toNat_natCast, ne_eq, not_true, not_false_iff, zt0, zt1, zI_at, zpi_I, zpl_I, zpd_I, zcp_I, cpI_k, Int.reduceToNat, zu_s, zu_k, zu_i, zu_j, zu_n]; done)))) rfl ?_ (ih (x + 1) (by omega)))
      rw [rpI_ne (by assumption)]
    · refine hK _ _ _ _ _ (zJ_to (by (repeat' (first | exact trivial | (refine And.intro ?_ ?_) | (refine zlk_i rfl ?_; first | (with_reducible rfl) | (simp (disch := omega) only [I_0, I_add, I_sub, I_mul, I_neg, I_nat, I_lt, I_le, I_eq, Int.toNat_natCast, ne_eq, not_true, not_false_iff, zt0, zt1, zI_at, zpi_I, zpl_I, zpd_I, zcp_I, cpI_k, Int.reduceToNat, zu_s, zu_k, zu_i, zu_j, zu_n]; done) | (simp (disch := omega) only [I_0, I_add, I_sub, I_mul, I_neg, I_nat, I_lt, I_le, I_eq, Int.toNat_natCast, ne_eq, not_true, not_false_iff, zt0, zt1, zI_at, zpi_I, zpl_I, zpd_I, zcp_I, cpI_k, Int.reduceToNat, zu_s, zu_k, zu_i, zu_j, zu_n]; first | omega | (congr 1; omega)) | (congr 1; omega)) | rfl | (simp (disch := omega) only [I_0, I_add, I_sub, I_mul, I_neg, I_nat, I_lt, I_le, I_eq, Int.toNat_natCast, ne_eq, not_true, not_false_iff, zt0, zt1, zI_at, zpi_I, zpl_I, zpd_I, zcp_I, cpI_k, Int.reduceToNat, zu_s, zu_k, zu_i, zu_j, zu_n]; done)))) rfl ?_ (ih (x + 1) (by omega)))
      simp (disch := omega) only [I_0, I_add, I_sub, I_mul, I_neg, I_nat, I_lt, I_le, I_eq, Int.toNat_natCast, ne_eq, not_true, not_false_iff, zt0, zt1, zI_at, zpi_I, zpl_I, zpd_I, zcp_I, cpI_k, Int.reduceToNat, zu_s, zu_k, zu_i, zu_j, zu_n]
      rw [rpI_eq (by omega)]
theorem m_replaceIn (h0 : zOk E) {k i j n : Nat} (hk1 : (zarr k).1 = 0) (hk4 : n ≤ (zarr k).2 ∧ (zarr k).2 < 1000) (hk2 : (k, i, j) ∈ zNm.take 176) (hk3 : k ≠ 70) {v w : Int} (hf2 : ∀ x, x < n → -1000 ≤ S k i j x ∧ S k i j x ≤ 1000) (hv : -1000 ≤ v ∧ v ≤ 1000) (hk : kr none (zMI (rpI S k i j v w n) l δ))
    : zC E zm_X6_replaceIn d mc ms [.inr (k, i, j), .inl (.int (I n)), .inl (.int (I v)), .inl (.int (I w))] (zMI S l δ) kr kx := by
  refine zC_of h0 (by decide +kernel) (Nat.le_of_ble_eq_true rfl) (Or.inl rfl) (zJ_cut h0 100 3 zo_X6_replaceIn rfl fun K hK => ?_)
  conv => whnf
  repeat' (first
    | (refine ⟨0, 0, ⟨by omega, by omega⟩, ?_⟩)
    | (refine ⟨fun h => ?_, fun h => ?_⟩ <;> (try simp (disch := omega) only [I_0, I_add, I_sub, I_mul, I_neg, I_nat, I_lt, I_le, I_eq, Int.toNat_natCast, ne_eq, not_true, not_false_iff, zt0, zt1, zI_at, zpi_I, zpl_I, zpd_I, zcp_I, cpI_k, Int.reduceToNat, zu_s, zu_k, zu_i, zu_j, zu_n] at h) <;> (try (exfalso; omega)) <;> conv => whnf)
    | (refine ⟨by first | rfl | assumption | exact zin1 rfl | exact Nat.le_of_ble_eq_true rfl | exact ⟨rfl, Or.inl rfl⟩ | exact ⟨rfl, Or.inr (Or.inl rfl)⟩ | exact ⟨rfl, Or.inr (Or.inr rfl)⟩ | exact ⟨Nat.le_of_ble_eq_true rfl, Nat.le_of_ble_eq_true rfl⟩ | exact trivial | omega | (simp (disch := omega) only [I_0, I_add, I_sub, I_mul, I_neg, I_nat, I_lt, I_le, I_eq, Int.toNat_natCast, ne_eq, not_true, not_false_iff, zt0, zt1, zI_at, zpi_I, zpl_I, zpd_I, zcp_I, cpI_k, Int.reduceToNat, zu_s, zu_k, zu_i, zu_j, zu_n, I_in, zarr, zin6, zin8, zin11, zin13, zin15, zin19, zin21, zin22, zin23, zin24, zin25, zin26, zin27, zin28, zin29, zin30, zin29s, zin30s, zin33, zin5, Nat.le_refl, and_self, Prod.mk.injEq, Nat.reduceEqDiff, false_and, not_false_iff]; done) | (simp (disch := omega) only [I_0, I_add, I_sub, I_mul, I_neg, I_nat, I_lt, I_le, I_eq, Int.toNat_natCast, ne_eq, not_true, not_false_iff, zt0, zt1, zI_at, zpi_I, zpl_I, zpd_I, zcp_I, cpI_k, Int.reduceToNat, zu_s, zu_k, zu_i, zu_j, zu_n, I_in, zarr, zin6, zin8, zin11, zin13, zin15, zin19, zin21, zin22, zin23, zin24, zin25, zin26, zin27, zin28, zin29, zin30, zin29s, zin30s, zin33, zin5, Nat.le_refl, and_self, Prod.mk.injEq, Nat.reduceEqDiff, false_and, not_false_iff] <;> omega), ?_⟩; conv => whnf)
    | (refine zif70 (by assumption) ?_; conv => whnf)
    | (refine ⟨_, rfl, ?_⟩; conv => whnf))
  refine hK _ _ _ _ _ (zJ_to (by (repeat' (first | exact trivial | (refine And.intro ?_ ?_) | (refine zlk_i rfl ?_; first | (with_reducible rfl) | (simp (disch := omega) only [I_0, I_add, I_sub, I_mul, I_neg, I_nat, I_lt, I_le, I_eq, Int.toNat_natCast, ne_eq, not_true, not_false_iff, zt0, zt1, zI_at, zpi_I, zpl_I, zpd_I, zcp_I, cpI_k, Int.reduceToNat, zu_s, zu_k, zu_i, zu_j, zu_n]; done) | (simp (disch := omega) only [I_0, I_add, I_sub, I_mul, I_neg, I_nat, I_lt, I_le, I_eq, Int.toNat_natCast, ne_eq, not_true, not_false_iff, zt0, zt1, zI_at, zpi_I, zpl_I, zpd_I, zcp_I, cpI_k, Int.reduceToNat, zu_s, zu_k, zu_i, zu_j, zu_n]; first | omega | (congr 1; omega)) | (congr 1; omega)) | rfl | (simp (disch := omega) only [I_0, I_add, I_sub, I_mul, I_neg, I_nat, I_lt, I_le, I_eq, Int.toNat_natCast, ne_eq, not_true, not_false_iff, zt0, zt1, zI_at, zpi_I, zpl_I, zpd_I, zcp_I, cpI_k, Int.reduceToNat, zu_s, zu_k, zu_i, zu_j, zu_n]; done)))) rfl ?_ (j_replaceIn h0 hk1 hk4 hk2 hk3 hf2 hv hk n 0 (by omega)))
  rw [rpI_0]
theorem j_fill (h0 : zOk E) {k i j n : Nat} (hk1 : zarr k = (0, n)) (hk4 : n < 1000) (hk2 : (k, i, j) ∈ zNm.take 176) (hk3 : k ≠ 70) {v : Int} (hk : kr none (zMI (flI S k i j v n) l δ))
    : ∀ r x : Nat, x + r = n → zJ E zm_J7_fill_53178 d mc ms kr kx 5 [(0, .inr (k, i, j)), (1, .inl (.int (I v))), (2, .inl (.int (I x))), (3, .inl (.int (I n)))] [] (zMI (flI S k i j v x) l δ) (0, 0) := by
  intro r
  induction r with
  | zero =>
    intro x hx
    refine zJ_at h0 100 zo_J7_fill_53178 rfl fun K hK => ?_
    conv => whnf
    repeat' (first
      | (refine ⟨0, 0, ⟨by omega, by omega⟩, ?_⟩)
      | (refine ⟨fun h => ?_, fun h => ?_⟩ <;> (try simp (disch := omega) only [I_0, I_add, I_sub, I_mul, I_neg, I_nat, I_lt, I_le, I_eq, Int.toNat_natCast, ne_eq, not_true, not_false_iff, zt0, zt1, zI_at, zpi_I, zpl_I, zpd_I, zcp_I, cpI_k, Int.reduceToNat, zu_s, zu_k, zu_i, zu_j, zu_n] at h) <;> (try (exfalso; omega)) <;> conv => whnf)
      | (refine ⟨by first | rfl | assumption | exact zin1 rfl | exact Nat.le_of_ble_eq_true rfl | exact ⟨rfl, Or.inl rfl⟩ | exact ⟨rfl, Or.inr (Or.inl rfl)⟩ | exact ⟨rfl, Or.inr (Or.inr rfl)⟩ | exact ⟨Nat.le_of_ble_eq_true rfl, Nat.le_of_ble_eq_true rfl⟩ | exact trivial | omega | (simp (disch := omega) only [I_0, I_add, I_sub, I_mul, I_neg, I_nat, I_lt, I_le, I_eq, Int.toNat_natCast, ne_eq, not_true, not_false_iff, zt0, zt1, zI_at, zpi_I, zpl_I, zpd_I, zcp_I, cpI_k, Int.reduceToNat, zu_s, zu_k, zu_i, zu_j, zu_n, I_in, zarr, zin6, zin8, zin11, zin13, zin15, zin19, zin21, zin22, zin23, zin24, zin25, zin26, zin27, zin28, zin29, zin30, zin29s, zin30s, zin33, zin5, Nat.le_refl, and_self, Prod.mk.injEq, Nat.reduceEqDiff, false_and, not_false_iff]; done) | (simp (disch := omega) only [I_0, I_add, I_sub, I_mul, I_neg, I_nat, I_lt, I_le, I_eq, Int.toNat_natCast, ne_eq, not_true, not_false_iff, zt0, zt1, zI_at, zpi_I, zpl_I, zpd_I, zcp_I, cpI_k, Int.reduceToNat, zu_s, zu_k, zu_i, zu_j, zu_n, I_in, zarr, zin6, zin8, zin11, zin13, zin15, zin19, zin21, zin22, zin23, zin24, zin25, zin26, zin27, zin28, zin29, zin30, zin29s, zin30s, zin33, zin5, Nat.le_refl, and_self, Prod.mk.injEq, Nat.reduceEqDiff, false_and, not_false_iff] <;> omega), ?_⟩; conv => whnf)
      | (refine zif70 (by assumption) ?_; conv => whnf)
      | (refine ⟨_, rfl, ?_⟩; conv => whnf))
    have : x = n := by omega
    subst this
    exact hk
  | succ r ih =>
    intro x hx
    have a1 : (zarr k).1 = 0 := by rw [hk1]
    have a2 : vp_in (I (x : Int)) (zarr k).2 := by rw [hk1]; exact I_in (by omega) (by show (x : Int) < (n : Int); omega) (by show n < _; omega)
    refine zJ_at h0 100 zo_J7_fill_53178 rfl fun K hK => ?_
    conv => whnf
    repeat' (first
      | (refine ⟨0, 0, ⟨by omega, by omega⟩, ?_⟩)
      | (refine ⟨fun h => ?_, fun h => ?_⟩ <;> (try simp (disch := omega) only [I_0, I_add, I_sub, I_mul, I_neg, I_nat, I_lt, I_le, I_eq, Int.toNat_natCast, ne_eq, not_true, not_false_iff, zt0, zt1, zI_at, zpi_I, zpl_I, zpd_I, zcp_I, cpI_k, Int.reduceToNat, zu_s, zu_k, zu_i, zu_j, zu_n] at h) <;> (try (exfalso; omega)) <;> conv => whnf)
      | (refine ⟨by first | rfl | assumption | exact zin1 rfl | exact Nat.le_of_ble_eq_true rfl | exact ⟨rfl, Or.inl rfl⟩ | exact ⟨rfl, Or.inr (Or.inl rfl)⟩ | exact ⟨rfl, Or.inr (Or.inr rfl)⟩ | exact ⟨Nat.le_of_ble_eq_true rfl, Nat.le_of_ble_eq_true rfl⟩ | exact trivial | omega | (simp (disch := omega) only [I_0, I_add, I_sub, I_mul, I_neg, I_nat, I_lt, I_le, I_eq, Int.toNat_natCast, ne_eq, not_true, not_false_iff, zt0, zt1, zI_at, zpi_I, zpl_I, zpd_I, zcp_I, cpI_k, Int.reduceToNat, zu_s, zu_k, zu_i, zu_j, zu_n, I_in, zarr, zin6, zin8, zin11, zin13, zin15, zin19, zin21, zin22, zin23, zin24, zin25, zin26, zin27, zin28, zin29, zin30, zin29s, zin30s, zin33, zin5, Nat.le_refl, and_self, Prod.mk.injEq, Nat.reduceEqDiff, false_and, not_false_iff]; done) | (simp (disch := omega) only [I_0, I_add, I_sub, I_mul, I_neg, I_nat, I_lt, I_le, I_eq, Int.toNat_natCast, ne_eq, not_true, not_false_iff, zt0, zt1, zI_at, zpi_I, zpl_I, zpd_I, zcp_I, cpI_k, Int.reduceToNat, zu_s, zu_k, zu_i, zu_j, zu_n, I_in, zarr, zin6, zin8, zin11, zin13, zin15, zin19, zin21, zin22, zin23, zin24, zin25, zin26, zin27, zin28, zin29, zin30, zin29s, zin30s, zin33, zin5, Nat.le_refl, and_self, Prod.mk.injEq, Nat.reduceEqDiff, false_and, not_false_iff] <;> omega), ?_⟩; conv => whnf)
      | (refine zif70 (by assumption) ?_; conv => whnf)
      | (refine ⟨_, rfl, ?_⟩; conv => whnf))
    refine hK _ _ _ _ _ (zJ_to (by (repeat' (first | exact trivial | (refine And.intro ?_ ?_) | (refine zlk_i rfl ?_; first | (with_reducible rfl) | (simp (disch := omega) only [I_0, I_add, I_sub, I_mul, I_neg, I_nat, I_lt, I_le, I_eq, Int.toNat_natCast, ne_eq, not_true, not_false_iff, zt0, zt1, zI_at, zpi_I, zpl_I, zpd_I, zcp_I, cpI_k, Int.reduceToNat, zu_s, zu_k, zu_i, zu_j, zu_n]; done) | (simp (disch := omega) only [I_0, I_add, I_sub, I_mul, I_neg, I_nat, I_lt, I_le, I_eq, Int.toNat_natCast, ne_eq, not_true, not_false_iff, zt0, zt1, zI_at, zpi_I, zpl_I, zpd_I, zcp_I, cpI_k, Int.reduceToNat, zu_s, zu_k, zu_i, zu_j, zu_n]; first | omega | (congr 1; omega)) | (congr 1; omega)) | rfl | (simp (disch := omega) only [I_0, I_add, I_sub, I_mul, I_neg, I_nat, I_lt, I_le, I_eq, Int.toNat_natCast, ne_eq, not_true, not_false_iff, zt0, zt1, zI_at, zpi_I, zpl_I, zpd_I, zcp_I, cpI_k, Int.reduceToNat, zu_s, zu_k, zu_i, zu_j, zu_n]; done)))) rfl ?_ (ih (x + 1) (by omega)))
    simp (disch := omega) only [I_0, I_add, I_sub, I_mul, I_neg, I_nat, I_lt, I_le, I_eq, Int.toNat_natCast, ne_eq, not_true, not_false_iff, zt0, zt1, zI_at, zpi_I, zpl_I, zpd_I, zcp_I, cpI_k, Int.reduceToNat, zu_s, zu_k, zu_i, zu_j, zu_n, flI_s]
theorem m_fill (h0 : zOk E) {k i j n : Nat} (hk1 : zarr k = (0, n)) (hk4 : n < 1000) (hk2 : (k, i, j) ∈ zNm.take 176) (hk3 : k ≠ 70) (hk5 : zcls k = 8) {v : Int} (hk : kr none (zMI (flI S k i j v n) l δ))
    : zC E zm_J7_fill_53178 d mc ms [.inr (k, i, j), .inl (.int (I v))] (zMI S l δ) kr kx := by
  refine zC_of h0 (by decide +kernel) (Nat.le_of_ble_eq_true rfl) (Or.inl rfl) (zJ_cut h0 100 5 zo_J7_fill_53178 rfl fun K hK => ?_)
  have a1 : (zarr k).1 < 8 := by rw [hk1]; exact Nat.le_of_ble_eq_true rfl
  have a2 : Int32.ofNat (zarr k).2 = I n := by rw [hk1, I_ofNat]
  conv => whnf
  repeat' (first
    | (refine ⟨0, 0, ⟨by omega, by omega⟩, ?_⟩)
    | (refine ⟨fun h => ?_, fun h => ?_⟩ <;> (try simp (disch := omega) only [I_0, I_add, I_sub, I_mul, I_neg, I_nat, I_lt, I_le, I_eq, Int.toNat_natCast, ne_eq, not_true, not_false_iff, zt0, zt1, zI_at, zpi_I, zpl_I, zpd_I, zcp_I, cpI_k, Int.reduceToNat, zu_s, zu_k, zu_i, zu_j, zu_n] at h) <;> (try (exfalso; omega)) <;> conv => whnf)
    | (refine ⟨by first | rfl | assumption | exact zin1 rfl | exact Nat.le_of_ble_eq_true rfl | exact ⟨rfl, Or.inl rfl⟩ | exact ⟨rfl, Or.inr (Or.inl rfl)⟩ | exact ⟨rfl, Or.inr (Or.inr rfl)⟩ | exact ⟨Nat.le_of_ble_eq_true rfl, Nat.le_of_ble_eq_true rfl⟩ | exact trivial | omega | (simp (disch := omega) only [I_0, I_add, I_sub, I_mul, I_neg, I_nat, I_lt, I_le, I_eq, Int.toNat_natCast, ne_eq, not_true, not_false_iff, zt0, zt1, zI_at, zpi_I, zpl_I, zpd_I, zcp_I, cpI_k, Int.reduceToNat, zu_s, zu_k, zu_i, zu_j, zu_n, I_in, zarr, zin6, zin8, zin11, zin13, zin15, zin19, zin21, zin22, zin23, zin24, zin25, zin26, zin27, zin28, zin29, zin30, zin29s, zin30s, zin33, zin5, Nat.le_refl, and_self, Prod.mk.injEq, Nat.reduceEqDiff, false_and, not_false_iff]; done) | (simp (disch := omega) only [I_0, I_add, I_sub, I_mul, I_neg, I_nat, I_lt, I_le, I_eq, Int.toNat_natCast, ne_eq, not_true, not_false_iff, zt0, zt1, zI_at, zpi_I, zpl_I, zpd_I, zcp_I, cpI_k, Int.reduceToNat, zu_s, zu_k, zu_i, zu_j, zu_n, I_in, zarr, zin6, zin8, zin11, zin13, zin15, zin19, zin21, zin22, zin23, zin24, zin25, zin26, zin27, zin28, zin29, zin30, zin29s, zin30s, zin33, zin5, Nat.le_refl, and_self, Prod.mk.injEq, Nat.reduceEqDiff, false_and, not_false_iff] <;> omega), ?_⟩; conv => whnf)
    | (refine zif70 (by assumption) ?_; conv => whnf)
    | (refine ⟨_, rfl, ?_⟩; conv => whnf))
  refine hK _ _ _ _ _ (zJ_to (by (repeat' (first | exact trivial | (refine And.intro ?_ ?_) | (refine zlk_i rfl ?_; first | (with_reducible rfl) | (simp (disch := omega) only [I_0, I_add, I_sub, I_mul, I_neg, I_nat, I_lt, I_le, I_eq, Int.toNat_natCast, ne_eq, not_true, not_false_iff, zt0, zt1, zI_at, zpi_I, zpl_I, zpd_I, zcp_I, cpI_k, Int.reduceToNat, zu_s, zu_k, zu_i, zu_j, zu_n, a2]; done) | (simp (disch := omega) only [I_0, I_add, I_sub, I_mul, I_neg, I_nat, I_lt, I_le, I_eq, Int.toNat_natCast, ne_eq, not_true, not_false_iff, zt0, zt1, zI_at, zpi_I, zpl_I, zpd_I, zcp_I, cpI_k, Int.reduceToNat, zu_s, zu_k, zu_i, zu_j, zu_n, a2]; first | omega | (congr 1; omega)) | (congr 1; omega)) | rfl | (simp (disch := omega) only [I_0, I_add, I_sub, I_mul, I_neg, I_nat, I_lt, I_le, I_eq, Int.toNat_natCast, ne_eq, not_true, not_false_iff, zt0, zt1, zI_at, zpi_I, zpl_I, zpd_I, zcp_I, cpI_k, Int.reduceToNat, zu_s, zu_k, zu_i, zu_j, zu_n, a2]; done)))) rfl ?_ (j_fill h0 hk1 hk4 hk2 hk3 hk n 0 (by omega)))
  rw [flI_0]
end TK3
