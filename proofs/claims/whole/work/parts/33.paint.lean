/-! ===== what a page shows ===== -/
theorem zlk_r {ls : zLs} {n : Nat} {x y : zL} (h : zlk ls n = some (.inr x)) (e : x = y) : zlk ls n = some (.inr y) := by rw [h, e]
theorem sumI_0 {f : Nat → Int} : ∀ n : Nat, (∀ x, x < n → f x = 0 ∨ f x = 1) → (¬ 0 < sumI f n ↔ ∀ x, x < n → f x = 0)
  | 0, _ => ⟨fun _ x hx => absurd hx (Nat.not_lt_zero x), fun _ => by simp [sumI]⟩
  | n + 1, h => by
    have h1 := sumI_0 n (fun x hx => h x (by omega))
    have h2 := h n (by omega)
    have h3 : 0 ≤ sumI f n := (sumI_le (b := 1) n (fun x hx => by have := h x (by omega); omega)).1
    simp only [sumI]
    constructor
    · intro g x hx
      by_cases e : x = n
      · subst e; omega
      · exact h1.mp (by omega) x (by omega)
    · intro g
      have := h1.mpr (fun x hx => g x (by omega))
      have := g n (by omega)
      omega
theorem otI_0 (S : zS) (i j i2 j2 r : Nat) : otI S i j i2 j2 r = 0 ↔ ∀ q, q < 3 → S 30 i j (3 * r + q) = S 30 i2 j2 (3 * r + q) := by
  constructor
  · intro h q hq
    unfold otI at h
    split at h
    · split at h
      · split at h
        · have : q = 0 ∨ q = 1 ∨ q = 2 := by omega
          rcases this with rfl | rfl | rfl <;> assumption
        · cases h
      · cases h
    · cases h
  · intro h
    have h1 := h 0 (by omega)
    have h2 := h 1 (by omega)
    have h3 := h 2 (by omega)
    simp only [Nat.add_zero] at h1
    unfold otI
    rw [if_pos h1, if_pos h2, if_pos h3]
theorem dfI_0 (S : zS) (i j i2 j2 n n2 : Nat) : ¬ 0 < dfI S i j i2 j2 n n2 ↔ n = n2 ∧ ∀ k, k < 3 * n → S 30 i j k = S 30 i2 j2 k := by
  have h := sumI_0 (f := otI S i j i2 j2) (min n n2) (fun x _ => otI_b S i j i2 j2 x)
  have h3 : 0 ≤ sumI (otI S i j i2 j2) (min n n2) := (sumI_le (b := 1) (min n n2) (fun x hx => by have := otI_b S i j i2 j2 x; omega)).1
  unfold dfI
  constructor
  · intro g
    have e : n = n2 := by omega
    subst e
    refine ⟨rfl, fun k hk => ?_⟩
    have h4 := (otI_0 S i j i2 j2 (k / 3)).mp (h.mp (by omega) (k / 3) (by omega)) (k % 3) (by omega)
    rw [show 3 * (k / 3) + k % 3 = k by omega] at h4
    exact h4
  · rintro ⟨rfl, g⟩
    have := h.mpr (fun x hx => (otI_0 S i j i2 j2 x).mpr (fun q hq => g _ (by omega)))
    omega
theorem dfI_b (S : zS) (i j i2 j2 n n2 : Nat) (h1 : n ≤ 24) (h2 : n2 ≤ 24) : 0 ≤ dfI S i j i2 j2 n n2 ∧ dfI S i j i2 j2 n n2 ≤ 48 := by
  have h3 := sumI_le (f := otI S i j i2 j2) (b := 1) (min n n2) (fun x hx => by have := otI_b S i j i2 j2 x; omega)
  unfold dfI
  omega
/-- a page shows its present values -/
def showsI (S : zS) (p : Nat) : Prop := S 21 p 0 9 = S 1 0 0 1 ∧ ∀ th : Nat, (th : Int) < S 1 0 0 1 → S 29 p th 0 = S 21 p 0 5 ∧ ∀ k : Nat, (k : Int) < 3 * S 21 p 0 5 → S 30 p th k = vaI S p th k
theorem showsI_ca {S S' : zS} (h : eqq caP S S') {p : Nat} (hp : p < 4) : showsI S' p ↔ showsI S p := by
  have e29 : ∀ t n, S' 29 p t n = S 29 p t n := fun t n => h _ _ _ _ (by omega)
  have e30 : ∀ t n, S' 30 p t n = S 30 p t n := fun t n => h _ _ _ _ (by omega)
  unfold showsI
  simp only [vaI_ca h, h 1 0 0 1 (by omega), h 21 p 0 9 (by omega), h 21 p 0 5 (by omega), e29, e30]
section PT
variable {E : zEn} {d mc ms : Nat} {kr : Option zV → zM → Prop} {kx : String → zM → Prop} {l : Nat → Nat → Nat → Nat → Int64} {δ : Nat → Nat → Nat → Nat → UInt64} {S : zS}
theorem j_showsPresent (h0 : zOk E) (hd : 4 ≤ d) {S0 : zS} (hS : inv0 S0) {p : Nat} (hp : (p : Int) < S0 0 0 0 3) (h9 : S0 21 p 0 9 = S0 1 0 0 1) (hk1 : showsI S0 p → ∀ S', cqI S0 S' → kr (some (.inl (.int (I 1)))) (zMI S' l δ)) (hk0 : ¬ showsI S0 p → ∀ S', cqI S0 S' → kr (some (.inl (.int (I 0)))) (zMI S' l δ))
    : ∀ n x : Nat, (x : Int) + n = S0 1 0 0 1 → (∀ th : Nat, th < x → S0 29 p th 0 = S0 21 p 0 5 ∧ ∀ k : Nat, (k : Int) < 3 * S0 21 p 0 5 → S0 30 p th k = vaI S0 p th k) → ∀ S : zS, cqI S0 S → zJ E zm_X6_showsPresent d mc ms kr kx 25 [(0, .inr (0, 0, 0)), (1, .inl (.int (I p))), (2, .inr (21, p, 0)), (3, .inl (.int (I x)))] [] (zMI S l δ) (0, 0) := by
  have hp4 : p < 4 := by have := hS.1.2.2.2.2.1.2; omega
  have hnt := hS.1.1.2.1
  intro n
  induction n with
  | zero =>
    intro x hx hg S hc
    have e1 : S 1 0 0 1 = S0 1 0 0 1 := hc.1 _ _ _ _ (by omega)
    have hk1 := hk1 ⟨h9, fun th h => hg th (by omega)⟩ S hc
    refine zJ_at h0 100 zo_X6_showsPresent rfl fun K hK => ?_
    conv => whnf
    repeat' (first
      | (refine ⟨0, 0, ⟨by omega, by omega⟩, ?_⟩)
      | (refine ⟨fun h => ?_, fun h => ?_⟩ <;> (try simp (disch := omega) only [I_0, I_add, I_sub, I_mul, I_neg, I_nat, I_lt, I_le, I_eq, Int.toNat_natCast, ne_eq, not_true, not_false_iff, zt0, zt1, zI_at, zpi_I, zpl_I, zpd_I, zcp_I, cpI_k, Int.reduceToNat, zu_s, zu_k, zu_i, zu_j, zu_n, e1] at h) <;> (try (exfalso; omega)) <;> conv => whnf)
      | (refine ⟨by first | rfl | assumption | exact zin1 rfl | exact Nat.le_of_ble_eq_true rfl | exact ⟨rfl, Or.inl rfl⟩ | exact ⟨rfl, Or.inr (Or.inl rfl)⟩ | exact ⟨rfl, Or.inr (Or.inr rfl)⟩ | exact ⟨Nat.le_of_ble_eq_true rfl, Nat.le_of_ble_eq_true rfl⟩ | exact trivial | omega | (simp (disch := omega) only [I_0, I_add, I_sub, I_mul, I_neg, I_nat, I_lt, I_le, I_eq, Int.toNat_natCast, ne_eq, not_true, not_false_iff, zt0, zt1, zI_at, zpi_I, zpl_I, zpd_I, zcp_I, cpI_k, Int.reduceToNat, zu_s, zu_k, zu_i, zu_j, zu_n, I_in, zarr, zin6, zin8, zin11, zin13, zin15, zin19, zin21, zin22, zin23, zin24, zin25, zin26, zin27, zin28, zin29, zin30, zin29s, zin30s, zin33, zin5, Nat.le_refl, and_self, Prod.mk.injEq, Nat.reduceEqDiff, false_and, not_false_iff, e1]; done) | (simp (disch := omega) only [I_0, I_add, I_sub, I_mul, I_neg, I_nat, I_lt, I_le, I_eq, Int.toNat_natCast, ne_eq, not_true, not_false_iff, zt0, zt1, zI_at, zpi_I, zpl_I, zpd_I, zcp_I, cpI_k, Int.reduceToNat, zu_s, zu_k, zu_i, zu_j, zu_n, I_in, zarr, zin6, zin8, zin11, zin13, zin15, zin19, zin21, zin22, zin23, zin24, zin25, zin26, zin27, zin28, zin29, zin30, zin29s, zin30s, zin33, zin5, Nat.le_refl, and_self, Prod.mk.injEq, Nat.reduceEqDiff, false_and, not_false_iff, e1] <;> omega), ?_⟩; conv => whnf)
      | (refine zif70 (by assumption) ?_; conv => whnf)
      | (refine ⟨_, rfl, ?_⟩; conv => whnf))
    exact hk1
  | succ n ih =>
    intro x hx hg S hc
    have e1 : S 1 0 0 1 = S0 1 0 0 1 := hc.1 _ _ _ _ (by omega)
    have e2 : S 0 0 0 3 = S0 0 0 0 3 := hc.1 _ _ _ _ (by omega)
    refine zJ_at h0 100 zo_X6_showsPresent rfl fun K hK => ?_
    conv => whnf
    repeat' (first
      | (refine ⟨0, 0, ⟨by omega, by omega⟩, ?_⟩)
      | (refine ⟨fun h => ?_, fun h => ?_⟩ <;> (try simp (disch := omega) only [I_0, I_add, I_sub, I_mul, I_neg, I_nat, I_lt, I_le, I_eq, Int.toNat_natCast, ne_eq, not_true, not_false_iff, zt0, zt1, zI_at, zpi_I, zpl_I, zpd_I, zcp_I, cpI_k, Int.reduceToNat, zu_s, zu_k, zu_i, zu_j, zu_n, e1] at h) <;> (try (exfalso; omega)) <;> conv => whnf)
      | (refine ⟨by first | rfl | assumption | exact zin1 rfl | exact Nat.le_of_ble_eq_true rfl | exact ⟨rfl, Or.inl rfl⟩ | exact ⟨rfl, Or.inr (Or.inl rfl)⟩ | exact ⟨rfl, Or.inr (Or.inr rfl)⟩ | exact ⟨Nat.le_of_ble_eq_true rfl, Nat.le_of_ble_eq_true rfl⟩ | exact trivial | omega | (simp (disch := omega) only [I_0, I_add, I_sub, I_mul, I_neg, I_nat, I_lt, I_le, I_eq, Int.toNat_natCast, ne_eq, not_true, not_false_iff, zt0, zt1, zI_at, zpi_I, zpl_I, zpd_I, zcp_I, cpI_k, Int.reduceToNat, zu_s, zu_k, zu_i, zu_j, zu_n, I_in, zarr, zin6, zin8, zin11, zin13, zin15, zin19, zin21, zin22, zin23, zin24, zin25, zin26, zin27, zin28, zin29, zin30, zin29s, zin30s, zin33, zin5, Nat.le_refl, and_self, Prod.mk.injEq, Nat.reduceEqDiff, false_and, not_false_iff, e1]; done) | (simp (disch := omega) only [I_0, I_add, I_sub, I_mul, I_neg, I_nat, I_lt, I_le, I_eq, Int.toNat_natCast, ne_eq, not_true, not_false_iff, zt0, zt1, zI_at, zpi_I, zpl_I, zpd_I, zcp_I, cpI_k, Int.reduceToNat, zu_s, zu_k, zu_i, zu_j, zu_n, I_in, zarr, zin6, zin8, zin11, zin13, zin15, zin19, zin21, zin22, zin23, zin24, zin25, zin26, zin27, zin28, zin29, zin30, zin29s, zin30s, zin33, zin5, Nat.le_refl, and_self, Prod.mk.injEq, Nat.reduceEqDiff, false_and, not_false_iff, e1] <;> omega), ?_⟩; conv => whnf)
      | (refine zif70 (by assumption) ?_; conv => whnf)
      | (refine ⟨_, rfl, ?_⟩; conv => whnf))
    refine zC_to (m_present h0 (by omega) (inv1_ca hc.1 hS.1) hc.2 (th := x) (p := p) (by omega) (by omega) fun S2 hc2 hv => ?_) (by (repeat' (first | exact trivial | (refine And.intro ?_ ?_) | (refine zvi ?_; first | (with_reducible rfl) | (simp (disch := omega) only [I_0, I_add, I_sub, I_mul, I_neg, I_nat, I_lt, I_le, I_eq, Int.toNat_natCast, ne_eq, not_true, not_false_iff, zt0, zt1, zI_at, zpi_I, zpl_I, zpd_I, zcp_I, cpI_k, Int.reduceToNat, zu_s, zu_k, zu_i, zu_j, zu_n]; done) | (simp (disch := omega) only [I_0, I_add, I_sub, I_mul, I_neg, I_nat, I_lt, I_le, I_eq, Int.toNat_natCast, ne_eq, not_true, not_false_iff, zt0, zt1, zI_at, zpi_I, zpl_I, zpd_I, zcp_I, cpI_k, Int.reduceToNat, zu_s, zu_k, zu_i, zu_j, zu_n]; first | omega | (congr 1; omega)) | (congr 1; omega)) | rfl | (simp (disch := omega) only [I_0, I_add, I_sub, I_mul, I_neg, I_nat, I_lt, I_le, I_eq, Int.toNat_natCast, ne_eq, not_true, not_false_iff, zt0, zt1, zI_at, zpi_I, zpl_I, zpd_I, zcp_I, cpI_k, Int.reduceToNat, zu_s, zu_k, zu_i, zu_j, zu_n]; done) | (refine zlk_r rfl ?_; simp (disch := omega) only [I_0, I_add, I_sub, I_mul, I_neg, I_nat, I_lt, I_le, I_eq, Int.toNat_natCast, ne_eq, not_true, not_false_iff, zt0, zt1, zI_at, zpi_I, zpl_I, zpd_I, zcp_I, cpI_k, Int.reduceToNat, zu_s, zu_k, zu_i, zu_j, zu_n]; done)))) rfl
    have hc3 := cqI_trans hc hc2
    have hS2 := inv0_ca hc3.1 hS
    have hrg := (rg_tok hS2.1 hp4).1
    have hv := hv (S2 21 p 0 5).toNat (by omega)
    have hvv : ∀ k, k < 3 * (S2 21 p 0 5).toNat → S2 30 5 0 k = vaI S0 p x k := fun k hk => (hv.2 k hk).trans (vaI_ca hc3.1 p x k)
    have e5 : S2 21 p 0 5 = S0 21 p 0 5 := hc3.1 _ _ _ _ (by omega)
    have hV2 := hS2.2.2 p x (by omega)
    have e29 : S2 29 p x 0 = S0 29 p x 0 := hc3.1 _ _ _ _ (by omega)
    have e30 : ∀ k, S2 30 p x k = S0 30 p x k := fun k => hc3.1 _ _ _ _ (by omega)
    have hd0 := dfI_0 S2 p x 5 0 (S2 29 p x 0).toNat (S2 21 p 0 5).toNat
    have hdb := dfI_b S2 p x 5 0 (S2 29 p x 0).toNat (S2 21 p 0 5).toNat (by omega) (by omega)
    conv => whnf
    repeat' (first
      | (refine ⟨0, 0, ⟨by omega, by omega⟩, ?_⟩)
      | (refine ⟨fun h => ?_, fun h => ?_⟩ <;> (try simp (disch := omega) only [I_0, I_add, I_sub, I_mul, I_neg, I_nat, I_lt, I_le, I_eq, Int.toNat_natCast, ne_eq, not_true, not_false_iff, zt0, zt1, zI_at, zpi_I, zpl_I, zpd_I, zcp_I, cpI_k, Int.reduceToNat, zu_s, zu_k, zu_i, zu_j, zu_n] at h) <;> (try (exfalso; omega)) <;> conv => whnf)
      | (refine ⟨by first | rfl | assumption | exact zin1 rfl | exact Nat.le_of_ble_eq_true rfl | exact ⟨rfl, Or.inl rfl⟩ | exact ⟨rfl, Or.inr (Or.inl rfl)⟩ | exact ⟨rfl, Or.inr (Or.inr rfl)⟩ | exact ⟨Nat.le_of_ble_eq_true rfl, Nat.le_of_ble_eq_true rfl⟩ | exact trivial | omega | (simp (disch := omega) only [I_0, I_add, I_sub, I_mul, I_neg, I_nat, I_lt, I_le, I_eq, Int.toNat_natCast, ne_eq, not_true, not_false_iff, zt0, zt1, zI_at, zpi_I, zpl_I, zpd_I, zcp_I, cpI_k, Int.reduceToNat, zu_s, zu_k, zu_i, zu_j, zu_n, I_in, zarr, zin6, zin8, zin11, zin13, zin15, zin19, zin21, zin22, zin23, zin24, zin25, zin26, zin27, zin28, zin29, zin30, zin29s, zin30s, zin33, zin5, Nat.le_refl, and_self, Prod.mk.injEq, Nat.reduceEqDiff, false_and, not_false_iff]; done) | (simp (disch := omega) only [I_0, I_add, I_sub, I_mul, I_neg, I_nat, I_lt, I_le, I_eq, Int.toNat_natCast, ne_eq, not_true, not_false_iff, zt0, zt1, zI_at, zpi_I, zpl_I, zpd_I, zcp_I, cpI_k, Int.reduceToNat, zu_s, zu_k, zu_i, zu_j, zu_n, I_in, zarr, zin6, zin8, zin11, zin13, zin15, zin19, zin21, zin22, zin23, zin24, zin25, zin26, zin27, zin28, zin29, zin30, zin29s, zin30s, zin33, zin5, Nat.le_refl, and_self, Prod.mk.injEq, Nat.reduceEqDiff, false_and, not_false_iff] <;> omega), ?_⟩; conv => whnf)
      | (refine zif70 (by assumption) ?_; conv => whnf)
      | (refine ⟨_, rfl, ?_⟩; conv => whnf))
    refine zC_to (m_X5_countDifferences h0 (by omega) (i := p) (j := x) (i2 := 5) (j2 := 0) (zin29 _ hp4 _ (by omega)) (zin30 _ hp4 _ (by omega)) zin5.1 zin5.2 (n := (S2 29 p x 0).toNat) (n2 := (S2 21 p 0 5).toNat) (by omega) (by omega) hv.1 (by omega) (fun k hk => hV2.2 k (by omega)) (fun k hk => by rw [hvv k hk]; exact vaI_b hS.1 hp4 (by omega) (by omega)) ?_) (by (repeat' (first | exact trivial | (refine And.intro ?_ ?_) | (refine zvi ?_; first | (with_reducible rfl) | (simp (disch := omega) only [I_0, I_add, I_sub, I_mul, I_neg, I_nat, I_lt, I_le, I_eq, Int.toNat_natCast, ne_eq, not_true, not_false_iff, zt0, zt1, zI_at, zpi_I, zpl_I, zpd_I, zcp_I, cpI_k, Int.reduceToNat, zu_s, zu_k, zu_i, zu_j, zu_n]; done) | (simp (disch := omega) only [I_0, I_add, I_sub, I_mul, I_neg, I_nat, I_lt, I_le, I_eq, Int.toNat_natCast, ne_eq, not_true, not_false_iff, zt0, zt1, zI_at, zpi_I, zpl_I, zpd_I, zcp_I, cpI_k, Int.reduceToNat, zu_s, zu_k, zu_i, zu_j, zu_n]; first | omega | (congr 1; omega)) | (congr 1; omega)) | rfl | (simp (disch := omega) only [I_0, I_add, I_sub, I_mul, I_neg, I_nat, I_lt, I_le, I_eq, Int.toNat_natCast, ne_eq, not_true, not_false_iff, zt0, zt1, zI_at, zpi_I, zpl_I, zpd_I, zcp_I, cpI_k, Int.reduceToNat, zu_s, zu_k, zu_i, zu_j, zu_n]; done) | (refine zlk_r rfl ?_; simp (disch := omega) only [I_0, I_add, I_sub, I_mul, I_neg, I_nat, I_lt, I_le, I_eq, Int.toNat_natCast, ne_eq, not_true, not_false_iff, zt0, zt1, zI_at, zpi_I, zpl_I, zpd_I, zcp_I, cpI_k, Int.reduceToNat, zu_s, zu_k, zu_i, zu_j, zu_n]; done)))) rfl
    conv => whnf
    repeat' (first
      | (refine ⟨0, 0, ⟨by omega, by omega⟩, ?_⟩)
      | (refine ⟨fun h => ?_, fun h => ?_⟩ <;> (try simp (disch := omega) only [I_0, I_add, I_sub, I_mul, I_neg, I_nat, I_lt, I_le, I_eq, Int.toNat_natCast, ne_eq, not_true, not_false_iff, zt0, zt1, zI_at, zpi_I, zpl_I, zpd_I, zcp_I, cpI_k, Int.reduceToNat, zu_s, zu_k, zu_i, zu_j, zu_n] at h) <;> (try (exfalso; omega)) <;> conv => whnf)
      | (refine ⟨by first | rfl | assumption | exact zin1 rfl | exact Nat.le_of_ble_eq_true rfl | exact ⟨rfl, Or.inl rfl⟩ | exact ⟨rfl, Or.inr (Or.inl rfl)⟩ | exact ⟨rfl, Or.inr (Or.inr rfl)⟩ | exact ⟨Nat.le_of_ble_eq_true rfl, Nat.le_of_ble_eq_true rfl⟩ | exact trivial | omega | (simp (disch := omega) only [I_0, I_add, I_sub, I_mul, I_neg, I_nat, I_lt, I_le, I_eq, Int.toNat_natCast, ne_eq, not_true, not_false_iff, zt0, zt1, zI_at, zpi_I, zpl_I, zpd_I, zcp_I, cpI_k, Int.reduceToNat, zu_s, zu_k, zu_i, zu_j, zu_n, I_in, zarr, zin6, zin8, zin11, zin13, zin15, zin19, zin21, zin22, zin23, zin24, zin25, zin26, zin27, zin28, zin29, zin30, zin29s, zin30s, zin33, zin5, Nat.le_refl, and_self, Prod.mk.injEq, Nat.reduceEqDiff, false_and, not_false_iff]; done) | (simp (disch := omega) only [I_0, I_add, I_sub, I_mul, I_neg, I_nat, I_lt, I_le, I_eq, Int.toNat_natCast, ne_eq, not_true, not_false_iff, zt0, zt1, zI_at, zpi_I, zpl_I, zpd_I, zcp_I, cpI_k, Int.reduceToNat, zu_s, zu_k, zu_i, zu_j, zu_n, I_in, zarr, zin6, zin8, zin11, zin13, zin15, zin19, zin21, zin22, zin23, zin24, zin25, zin26, zin27, zin28, zin29, zin30, zin29s, zin30s, zin33, zin5, Nat.le_refl, and_self, Prod.mk.injEq, Nat.reduceEqDiff, false_and, not_false_iff] <;> omega), ?_⟩; conv => whnf)
      | (refine zif70 (by assumption) ?_; conv => whnf)
      | (refine ⟨_, rfl, ?_⟩; conv => whnf))
    · have hd1 := hd0.mp (by omega)
      refine hK _ _ _ _ _ (zJ_to (by (repeat' (first | exact trivial | (refine And.intro ?_ ?_) | (refine zlk_i rfl ?_; first | (with_reducible rfl) | (simp (disch := omega) only [I_0, I_add, I_sub, I_mul, I_neg, I_nat, I_lt, I_le, I_eq, Int.toNat_natCast, ne_eq, not_true, not_false_iff, zt0, zt1, zI_at, zpi_I, zpl_I, zpd_I, zcp_I, cpI_k, Int.reduceToNat, zu_s, zu_k, zu_i, zu_j, zu_n]; done) | (simp (disch := omega) only [I_0, I_add, I_sub, I_mul, I_neg, I_nat, I_lt, I_le, I_eq, Int.toNat_natCast, ne_eq, not_true, not_false_iff, zt0, zt1, zI_at, zpi_I, zpl_I, zpd_I, zcp_I, cpI_k, Int.reduceToNat, zu_s, zu_k, zu_i, zu_j, zu_n]; first | omega | (congr 1; omega)) | (congr 1; omega)) | rfl | (simp (disch := omega) only [I_0, I_add, I_sub, I_mul, I_neg, I_nat, I_lt, I_le, I_eq, Int.toNat_natCast, ne_eq, not_true, not_false_iff, zt0, zt1, zI_at, zpi_I, zpl_I, zpd_I, zcp_I, cpI_k, Int.reduceToNat, zu_s, zu_k, zu_i, zu_j, zu_n]; done) | (refine zlk_r rfl ?_; simp (disch := omega) only [I_0, I_add, I_sub, I_mul, I_neg, I_nat, I_lt, I_le, I_eq, Int.toNat_natCast, ne_eq, not_true, not_false_iff, zt0, zt1, zI_at, zpi_I, zpl_I, zpd_I, zcp_I, cpI_k, Int.reduceToNat, zu_s, zu_k, zu_i, zu_j, zu_n]; done)))) rfl rfl (ih (x + 1) (by omega) (fun th h => ?_) S2 hc3))
      by_cases e : th = x
      · subst e
        refine ⟨by omega, fun k hk => ?_⟩
        rw [← e30, hd1.2 k (by omega)]
        exact hvv k (by omega)
      · exact hg th (by omega)
    · refine hk0 (fun g => ?_) S2 hc3
      have g := g.2 x (by omega)
      refine absurd (hd0.mpr ⟨by omega, fun k hk => ?_⟩) (by omega)
      rw [e30, hvv k (by omega)]
      exact g.2 k (by omega)
theorem m_showsPresent (h0 : zOk E) (hd : 4 ≤ d) (hS : inv0 S) (hV : KV S) {p : Nat} (hp : (p : Int) < S 0 0 0 3) (hk1 : showsI S p → ∀ S', cqI S S' → kr (some (.inl (.int (I 1)))) (zMI S' l δ)) (hk0 : ¬ showsI S p → ∀ S', cqI S S' → kr (some (.inl (.int (I 0)))) (zMI S' l δ))
    : zC E zm_X6_showsPresent d mc ms [.inr (0, 0, 0), .inl (.int (I p))] (zMI S l δ) kr kx := by
  have hp4 : p < 4 := by have := hS.1.2.2.2.2.1.2; omega
  have hnt := hS.1.1.2.1
  have h9 := (hS.2.1 p hp4).2.1
  refine zC_of h0 (by decide +kernel) (Nat.le_of_ble_eq_true rfl) (Or.inl rfl) (zJ_cut h0 100 25 zo_X6_showsPresent rfl fun K hK => ?_)
  conv => whnf
  repeat' (first
    | (refine ⟨0, 0, ⟨by omega, by omega⟩, ?_⟩)
    | (refine ⟨fun h => ?_, fun h => ?_⟩ <;> (try simp (disch := omega) only [I_0, I_add, I_sub, I_mul, I_neg, I_nat, I_lt, I_le, I_eq, Int.toNat_natCast, ne_eq, not_true, not_false_iff, zt0, zt1, zI_at, zpi_I, zpl_I, zpd_I, zcp_I, cpI_k, Int.reduceToNat, zu_s, zu_k, zu_i, zu_j, zu_n] at h) <;> (try (exfalso; omega)) <;> conv => whnf)
    | (refine ⟨by first | rfl | assumption | exact zin1 rfl | exact Nat.le_of_ble_eq_true rfl | exact ⟨rfl, Or.inl rfl⟩ | exact ⟨rfl, Or.inr (Or.inl rfl)⟩ | exact ⟨rfl, Or.inr (Or.inr rfl)⟩ | exact ⟨Nat.le_of_ble_eq_true rfl, Nat.le_of_ble_eq_true rfl⟩ | exact trivial | omega | (simp (disch := omega) only [I_0, I_add, I_sub, I_mul, I_neg, I_nat, I_lt, I_le, I_eq, Int.toNat_natCast, ne_eq, not_true, not_false_iff, zt0, zt1, zI_at, zpi_I, zpl_I, zpd_I, zcp_I, cpI_k, Int.reduceToNat, zu_s, zu_k, zu_i, zu_j, zu_n, I_in, zarr, zin6, zin8, zin11, zin13, zin15, zin19, zin21, zin22, zin23, zin24, zin25, zin26, zin27, zin28, zin29, zin30, zin29s, zin30s, zin33, zin5, Nat.le_refl, and_self, Prod.mk.injEq, Nat.reduceEqDiff, false_and, not_false_iff]; done) | (simp (disch := omega) only [I_0, I_add, I_sub, I_mul, I_neg, I_nat, I_lt, I_le, I_eq, Int.toNat_natCast, ne_eq, not_true, not_false_iff, zt0, zt1, zI_at, zpi_I, zpl_I, zpd_I, zcp_I, cpI_k, Int.reduceToNat, zu_s, zu_k, zu_i, zu_j, zu_n, I_in, zarr, zin6, zin8, zin11, zin13, zin15, zin19, zin21, zin22, zin23, zin24, zin25, zin26, zin27, zin28, zin29, zin30, zin29s, zin30s, zin33, zin5, Nat.le_refl, and_self, Prod.mk.injEq, Nat.reduceEqDiff, false_and, not_false_iff] <;> omega), ?_⟩; conv => whnf)
    | (refine zif70 (by assumption) ?_; conv => whnf)
    | (refine ⟨_, rfl, ?_⟩; conv => whnf))
  · exact hK _ _ _ _ _ (zJ_to (by (repeat' (first | exact trivial | (refine And.intro ?_ ?_) | (refine zlk_i rfl ?_; first | (with_reducible rfl) | (simp (disch := omega) only [I_0, I_add, I_sub, I_mul, I_neg, I_nat, I_lt, I_le, I_eq, Int.toNat_natCast, ne_eq, not_true, not_false_iff, zt0, zt1, zI_at, zpi_I, zpl_I, zpd_I, zcp_I, cpI_k, Int.reduceToNat, zu_s, zu_k, zu_i, zu_j, zu_n]; done) | (simp (disch := omega) only [I_0, I_add, I_sub, I_mul, I_neg, I_nat, I_lt, I_le, I_eq, Int.toNat_natCast, ne_eq, not_true, not_false_iff, zt0, zt1, zI_at, zpi_I, zpl_I, zpd_I, zcp_I, cpI_k, Int.reduceToNat, zu_s, zu_k, zu_i, zu_j, zu_n]; first | omega | (congr 1; omega)) | (congr 1; omega)) | rfl | (simp (disch := omega) only [I_0, I_add, I_sub, I_mul, I_neg, I_nat, I_lt, I_le, I_eq, Int.toNat_natCast, ne_eq, not_true, not_false_iff, zt0, zt1, zI_at, zpi_I, zpl_I, zpd_I, zcp_I, cpI_k, Int.reduceToNat, zu_s, zu_k, zu_i, zu_j, zu_n]; done) | (refine zlk_r rfl ?_; simp (disch := omega) only [I_0, I_add, I_sub, I_mul, I_neg, I_nat, I_lt, I_le, I_eq, Int.toNat_natCast, ne_eq, not_true, not_false_iff, zt0, zt1, zI_at, zpi_I, zpl_I, zpd_I, zcp_I, cpI_k, Int.reduceToNat, zu_s, zu_k, zu_i, zu_j, zu_n]; done)))) rfl rfl (j_showsPresent h0 hd hS hp (by assumption) hk1 hk0 (S 1 0 0 1).toNat 0 (by omega) (fun th h => by omega) S (cqI_rfl hV)))
  · exact hk0 (fun g => absurd g.1 (by assumption)) S (cqI_rfl hV)
end PT
