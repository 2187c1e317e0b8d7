/-! ===== which pages pass ===== -/
def gct (v : Nat → Int) (r : Nat) : Int := if 0 ≤ v (3 * r) - v (3 * r + 1) then v (3 * r) - v (3 * r + 1) else 0 - (v (3 * r) - v (3 * r + 1))
def gfl (L v : Nat → Int) (n : Nat) : Int := sumI (fun r => (if gct v r < L 0 then 1 else 0) + (if v (3 * r + 2) < L 1 then 1 else if v (3 * r + 2) ≤ L 2 then 0 else 1)) n
theorem sumI_congr {f g : Nat → Int} : ∀ n : Nat, (∀ x, x < n → f x = g x) → sumI f n = sumI g n
  | 0, _ => rfl
  | n + 1, h => by simp only [sumI]; rw [sumI_congr n (fun x hx => h x (by omega)), h n (by omega)]
theorem gfl_congr {L L' v v' : Nat → Int} {n : Nat} (hL : ∀ k, k < 3 → L k = L' k) (h : ∀ k, k < 3 * n → v k = v' k) : gfl L v n = gfl L' v' n := by
  unfold gfl
  refine sumI_congr n fun x hx => ?_
  unfold gct
  rw [h (3 * x) (by omega), h (3 * x + 1) (by omega), h (3 * x + 2) (by omega), hL 0 (by omega), hL 1 (by omega), hL 2 (by omega)]
theorem gfl_b (L v : Nat → Int) (n : Nat) : 0 ≤ gfl L v n ∧ gfl L v n ≤ 2 * n := by
  have h := sumI_le (f := fun r => (if gct v r < L 0 then 1 else 0) + (if v (3 * r + 2) < L 1 then 1 else if v (3 * r + 2) ≤ L 2 then 0 else 1)) (b := 2) n (fun x _ => by
    (repeat' split) <;> omega)
  exact ⟨h.1, by have := h.2; unfold gfl; omega⟩
theorem flrI_g (S : zS) (i j n : Nat) : flrI S i j n = gfl (S 31 0 0) (S 30 i j) n := rfl
/-- how many failures a page has in a theme -/
def flS (S : zS) (p th : Nat) : Int := gfl (S 31 0 0) (vaI S p th) (S 21 p 0 5).toNat
theorem flS_ca {S S' : zS} (h : eqq caP S S') (p th : Nat) : flS S' p th = flS S p th := by
  unfold flS
  rw [h 21 p 0 5 (by omega)]
  exact gfl_congr (fun k _ => h _ _ _ _ (by omega)) (fun k _ => vaI_ca h p th k)
def goodI (S : zS) (p : Nat) : Prop := ∀ th : Nat, (th : Int) < S 1 0 0 1 → ¬ 0 < flS S p th
theorem goodI_ca {S S' : zS} (h : eqq caP S S') (p : Nat) : goodI S' p ↔ goodI S p := by
  unfold goodI
  simp only [flS_ca h, h 1 0 0 1 (by omega)]
theorem vaI_b {S : zS} (hS : inv1 S) {p th k : Nat} (hp : p < 4) (hth : th < 3) (hk : (k : Int) < 3 * S 21 p 0 5) : 0 ≤ vaI S p th k ∧ vaI S p th k ≤ 99 := by
  have h1 := (rg_tok hS hp).2 k hk
  unfold vaI
  have h12 := hS.1.1.2
  exact vlS_b hS.1 hth (fun t ht => (hS.2.2.2.1 p hp).2.2.1 t ht) 3 _ (by omega) (by have := (hS.1.2.2.1 (S 25 p 0 k).toNat (by omega)).2; omega)
section PS
variable {E : zEn} {d mc ms : Nat} {kr : Option zV → zM → Prop} {kx : String → zM → Prop} {l : Nat → Nat → Nat → Nat → Int64} {δ : Nat → Nat → Nat → Nat → UInt64} {S : zS}
theorem j_isPassing (h0 : zOk E) (hd : 4 ≤ d) {S0 : zS} (hS : inv1 S0) {p : Nat} (hp : (p : Int) < S0 0 0 0 3) (hk1 : goodI S0 p → ∀ S', cqI S0 S' → kr (some (.inl (.int (I 1)))) (zMI S' l δ)) (hk0 : ¬ goodI S0 p → ∀ S', cqI S0 S' → kr (some (.inl (.int (I 0)))) (zMI S' l δ))
    : ∀ n x : Nat, (x : Int) + n = S0 1 0 0 1 → (∀ th, th < x → ¬ 0 < flS S0 p th) → ∀ S : zS, cqI S0 S → zJ E zm_X6_isPassing d mc ms kr kx 2 [(0, .inr (0, 0, 0)), (1, .inl (.int (I p))), (2, .inl (.int (I x)))] [] (zMI S l δ) (0, 0) := by
  have hp4 : p < 4 := by have := hS.2.2.2.2.1.2; omega
  have hnt := hS.1.2.1
  intro n
  induction n with
  | zero =>
    intro x hx hg S hc
    have e1 : S 1 0 0 1 = S0 1 0 0 1 := hc.1 _ _ _ _ (by omega)
    have hk1 := hk1 (fun th h => hg th (by omega)) S hc
    refine zJ_at h0 100 zo_X6_isPassing rfl fun K hK => ?_
    conv => whnf
    repeat' (first
      | (refine ⟨0, 0, ⟨by omega, by omega⟩, ?_⟩)
      | (refine ⟨fun h => ?_, fun h => ?_⟩ <;> (try simp (disch := omega) only [I_0, I_add, I_sub, I_mul, I_neg, I_nat, I_lt, I_le, I_eq, Int.toNat_natCast, ne_eq, not_true, not_false_iff, zt0, zt1, zI_at, zpi_I, zpl_I, zpd_I, zcp_I, cpI_k, Int.reduceToNat, zu_s, zu_k, zu_i, zu_j, zu_n, e1] at h) <;> (try (exfalso; omega)) <;> conv => whnf)
      | (refine ⟨by first | rfl | assumption | exact zin1 rfl | exact Nat.le_of_ble_eq_true rfl | exact ⟨rfl, Or.inl rfl⟩ | exact ⟨rfl, Or.inr (Or.inl rfl)⟩ | exact ⟨rfl, Or.inr (Or.inr rfl)⟩ | exact ⟨Nat.le_of_ble_eq_true rfl, Nat.le_of_ble_eq_true rfl⟩ | exact trivial | omega | (simp (disch := omega) only [I_0, I_add, I_sub, I_mul, I_neg, I_nat, I_lt, I_le, I_eq, Int.toNat_natCast, ne_eq, not_true, not_false_iff, zt0, zt1, zI_at, zpi_I, zpl_I, zpd_I, zcp_I, cpI_k, Int.reduceToNat, zu_s, zu_k, zu_i, zu_j, zu_n, I_in, zarr, zin6, zin8, zin11, zin13, zin15, zin19, zin21, zin22, zin23, zin24, zin25, zin26, zin27, zin28, zin29, zin30, zin29s, zin30s, zin33, zin5, Nat.le_refl, and_self, Prod.mk.injEq, Nat.reduceEqDiff, false_and, not_false_iff, e1]; done) | (simp (disch := omega) only [I_0, I_add, I_sub, I_mul, I_neg, I_nat, I_lt, I_le, I_eq, Int.toNat_natCast, ne_eq, not_true, not_false_iff, zt0, zt1, zI_at, zpi_I, zpl_I, zpd_I, zcp_I, cpI_k, Int.reduceToNat, zu_s, zu_k, zu_i, zu_j, zu_n, I_in, zarr, zin6, zin8, zin11, zin13, zin15, zin19, zin21, zin22, zin23, zin24, zin25, zin26, zin27, zin28, zin29, zin30, zin29s, zin30s, zin33, zin5, Nat.le_refl, and_self, Prod.mk.injEq, Nat.reduceEqDiff, false_and, not_false_iff, e1] <;> omega), ?_⟩; conv => whnf)
      | (refine zif70 (by assumption) ?_; conv => whnf)
      | (refine ⟨_, rfl, ?_⟩; conv => whnf))
    exact hk1
  | succ n ih =>
    intro x hx hg S hc
    have e1 : S 1 0 0 1 = S0 1 0 0 1 := hc.1 _ _ _ _ (by omega)
    have e2 : S 0 0 0 3 = S0 0 0 0 3 := hc.1 _ _ _ _ (by omega)
    refine zJ_at h0 100 zo_X6_isPassing rfl fun K hK => ?_
    conv => whnf
    repeat' (first
      | (refine ⟨0, 0, ⟨by omega, by omega⟩, ?_⟩)
      | (refine ⟨fun h => ?_, fun h => ?_⟩ <;> (try simp (disch := omega) only [I_0, I_add, I_sub, I_mul, I_neg, I_nat, I_lt, I_le, I_eq, Int.toNat_natCast, ne_eq, not_true, not_false_iff, zt0, zt1, zI_at, zpi_I, zpl_I, zpd_I, zcp_I, cpI_k, Int.reduceToNat, zu_s, zu_k, zu_i, zu_j, zu_n, e1] at h) <;> (try (exfalso; omega)) <;> conv => whnf)
      | (refine ⟨by first | rfl | assumption | exact zin1 rfl | exact Nat.le_of_ble_eq_true rfl | exact ⟨rfl, Or.inl rfl⟩ | exact ⟨rfl, Or.inr (Or.inl rfl)⟩ | exact ⟨rfl, Or.inr (Or.inr rfl)⟩ | exact ⟨Nat.le_of_ble_eq_true rfl, Nat.le_of_ble_eq_true rfl⟩ | exact trivial | omega | (simp (disch := omega) only [I_0, I_add, I_sub, I_mul, I_neg, I_nat, I_lt, I_le, I_eq, Int.toNat_natCast, ne_eq, not_true, not_false_iff, zt0, zt1, zI_at, zpi_I, zpl_I, zpd_I, zcp_I, cpI_k, Int.reduceToNat, zu_s, zu_k, zu_i, zu_j, zu_n, I_in, zarr, zin6, zin8, zin11, zin13, zin15, zin19, zin21, zin22, zin23, zin24, zin25, zin26, zin27, zin28, zin29, zin30, zin29s, zin30s, zin33, zin5, Nat.le_refl, and_self, Prod.mk.injEq, Nat.reduceEqDiff, false_and, not_false_iff, e1]; done) | (simp (disch := omega) only [I_0, I_add, I_sub, I_mul, I_neg, I_nat, I_lt, I_le, I_eq, Int.toNat_natCast, ne_eq, not_true, not_false_iff, zt0, zt1, zI_at, zpi_I, zpl_I, zpd_I, zcp_I, cpI_k, Int.reduceToNat, zu_s, zu_k, zu_i, zu_j, zu_n, I_in, zarr, zin6, zin8, zin11, zin13, zin15, zin19, zin21, zin22, zin23, zin24, zin25, zin26, zin27, zin28, zin29, zin30, zin29s, zin30s, zin33, zin5, Nat.le_refl, and_self, Prod.mk.injEq, Nat.reduceEqDiff, false_and, not_false_iff, e1] <;> omega), ?_⟩; conv => whnf)
      | (refine zif70 (by assumption) ?_; conv => whnf)
      | (refine ⟨_, rfl, ?_⟩; conv => whnf))
    refine zC_to (m_present h0 (by omega) (inv1_ca hc.1 hS) hc.2 (th := x) (p := p) (by omega) (by omega) fun S2 hc2 hv => ?_) (by (repeat' (first | exact trivial | (refine And.intro ?_ ?_) | (refine zvi ?_; first | (with_reducible rfl) | (simp (disch := omega) only [I_0, I_add, I_sub, I_mul, I_neg, I_nat, I_lt, I_le, I_eq, Int.toNat_natCast, ne_eq, not_true, not_false_iff, zt0, zt1, zI_at, zpi_I, zpl_I, zpd_I, zcp_I, cpI_k, Int.reduceToNat, zu_s, zu_k, zu_i, zu_j, zu_n]; done) | (simp (disch := omega) only [I_0, I_add, I_sub, I_mul, I_neg, I_nat, I_lt, I_le, I_eq, Int.toNat_natCast, ne_eq, not_true, not_false_iff, zt0, zt1, zI_at, zpi_I, zpl_I, zpd_I, zcp_I, cpI_k, Int.reduceToNat, zu_s, zu_k, zu_i, zu_j, zu_n]; first | omega | (congr 1; omega)) | (congr 1; omega)) | rfl | (simp (disch := omega) only [I_0, I_add, I_sub, I_mul, I_neg, I_nat, I_lt, I_le, I_eq, Int.toNat_natCast, ne_eq, not_true, not_false_iff, zt0, zt1, zI_at, zpi_I, zpl_I, zpd_I, zcp_I, cpI_k, Int.reduceToNat, zu_s, zu_k, zu_i, zu_j, zu_n]; done) | (refine zlk_r rfl ?_; simp (disch := omega) only [I_0, I_add, I_sub, I_mul, I_neg, I_nat, I_lt, I_le, I_eq, Int.toNat_natCast, ne_eq, not_true, not_false_iff, zt0, zt1, zI_at, zpi_I, zpl_I, zpd_I, zcp_I, cpI_k, Int.reduceToNat, zu_s, zu_k, zu_i, zu_j, zu_n]; done)))) rfl
    have hc3 := cqI_trans hc hc2
    have hS2 := inv1_ca hc3.1 hS
    have hrg := (rg_tok hS2 hp4).1
    have hv := hv (S2 21 p 0 5).toNat (by omega)
    have hvv : ∀ k, k < 3 * (S2 21 p 0 5).toNat → S2 30 5 0 k = vaI S2 p x k := hv.2
    have hfl : flrI S2 5 0 (S2 21 p 0 5).toNat = flS S0 p x := by
      rw [flrI_g, gfl_congr (fun _ _ => rfl) hvv, ← flS_ca hc3.1]
      rfl
    have hbd := gfl_b (S0 31 0 0) (vaI S0 p x) (S0 21 p 0 5).toNat
    have e5 : S2 21 p 0 5 = S0 21 p 0 5 := hc3.1 _ _ _ _ (by omega)
    conv => whnf
    repeat' (first
      | (refine ⟨0, 0, ⟨by omega, by omega⟩, ?_⟩)
      | (refine ⟨fun h => ?_, fun h => ?_⟩ <;> (try simp (disch := omega) only [I_0, I_add, I_sub, I_mul, I_neg, I_nat, I_lt, I_le, I_eq, Int.toNat_natCast, ne_eq, not_true, not_false_iff, zt0, zt1, zI_at, zpi_I, zpl_I, zpd_I, zcp_I, cpI_k, Int.reduceToNat, zu_s, zu_k, zu_i, zu_j, zu_n] at h) <;> (try (exfalso; omega)) <;> conv => whnf)
      | (refine ⟨by first | rfl | assumption | exact zin1 rfl | exact Nat.le_of_ble_eq_true rfl | exact ⟨rfl, Or.inl rfl⟩ | exact ⟨rfl, Or.inr (Or.inl rfl)⟩ | exact ⟨rfl, Or.inr (Or.inr rfl)⟩ | exact ⟨Nat.le_of_ble_eq_true rfl, Nat.le_of_ble_eq_true rfl⟩ | exact trivial | omega | (simp (disch := omega) only [I_0, I_add, I_sub, I_mul, I_neg, I_nat, I_lt, I_le, I_eq, Int.toNat_natCast, ne_eq, not_true, not_false_iff, zt0, zt1, zI_at, zpi_I, zpl_I, zpd_I, zcp_I, cpI_k, Int.reduceToNat, zu_s, zu_k, zu_i, zu_j, zu_n, I_in, zarr, zin6, zin8, zin11, zin13, zin15, zin19, zin21, zin22, zin23, zin24, zin25, zin26, zin27, zin28, zin29, zin30, zin29s, zin30s, zin33, zin5, Nat.le_refl, and_self, Prod.mk.injEq, Nat.reduceEqDiff, false_and, not_false_iff]; done) | (simp (disch := omega) only [I_0, I_add, I_sub, I_mul, I_neg, I_nat, I_lt, I_le, I_eq, Int.toNat_natCast, ne_eq, not_true, not_false_iff, zt0, zt1, zI_at, zpi_I, zpl_I, zpd_I, zcp_I, cpI_k, Int.reduceToNat, zu_s, zu_k, zu_i, zu_j, zu_n, I_in, zarr, zin6, zin8, zin11, zin13, zin15, zin19, zin21, zin22, zin23, zin24, zin25, zin26, zin27, zin28, zin29, zin30, zin29s, zin30s, zin33, zin5, Nat.le_refl, and_self, Prod.mk.injEq, Nat.reduceEqDiff, false_and, not_false_iff] <;> omega), ?_⟩; conv => whnf)
      | (refine zif70 (by assumption) ?_; conv => whnf)
      | (refine ⟨_, rfl, ?_⟩; conv => whnf))
    refine zC_to (m_X1_countFailures h0 (by omega) hS2.2.1 (i := 5) (j := 0) zin5.1 zin5.2 (n := (S2 21 p 0 5).toNat) hv.1 (by omega) (fun k hk => by rw [hvv k hk]; exact vaI_b hS2 hp4 (by omega) (by omega)) ?_) (by (repeat' (first | exact trivial | (refine And.intro ?_ ?_) | (refine zvi ?_; first | (with_reducible rfl) | (simp (disch := omega) only [I_0, I_add, I_sub, I_mul, I_neg, I_nat, I_lt, I_le, I_eq, Int.toNat_natCast, ne_eq, not_true, not_false_iff, zt0, zt1, zI_at, zpi_I, zpl_I, zpd_I, zcp_I, cpI_k, Int.reduceToNat, zu_s, zu_k, zu_i, zu_j, zu_n]; done) | (simp (disch := omega) only [I_0, I_add, I_sub, I_mul, I_neg, I_nat, I_lt, I_le, I_eq, Int.toNat_natCast, ne_eq, not_true, not_false_iff, zt0, zt1, zI_at, zpi_I, zpl_I, zpd_I, zcp_I, cpI_k, Int.reduceToNat, zu_s, zu_k, zu_i, zu_j, zu_n]; first | omega | (congr 1; omega)) | (congr 1; omega)) | rfl | (simp (disch := omega) only [I_0, I_add, I_sub, I_mul, I_neg, I_nat, I_lt, I_le, I_eq, Int.toNat_natCast, ne_eq, not_true, not_false_iff, zt0, zt1, zI_at, zpi_I, zpl_I, zpd_I, zcp_I, cpI_k, Int.reduceToNat, zu_s, zu_k, zu_i, zu_j, zu_n]; done) | (refine zlk_r rfl ?_; simp (disch := omega) only [I_0, I_add, I_sub, I_mul, I_neg, I_nat, I_lt, I_le, I_eq, Int.toNat_natCast, ne_eq, not_true, not_false_iff, zt0, zt1, zI_at, zpi_I, zpl_I, zpd_I, zcp_I, cpI_k, Int.reduceToNat, zu_s, zu_k, zu_i, zu_j, zu_n]; done)))) rfl
    rw [hfl]
    have hfb : 0 ≤ flS S0 p x ∧ flS S0 p x ≤ 48 := by unfold flS; omega
    conv => whnf
    repeat' (first
      | (refine ⟨0, 0, ⟨by omega, by omega⟩, ?_⟩)
      | (refine ⟨fun h => ?_, fun h => ?_⟩ <;> (try simp (disch := omega) only [I_0, I_add, I_sub, I_mul, I_neg, I_nat, I_lt, I_le, I_eq, Int.toNat_natCast, ne_eq, not_true, not_false_iff, zt0, zt1, zI_at, zpi_I, zpl_I, zpd_I, zcp_I, cpI_k, Int.reduceToNat, zu_s, zu_k, zu_i, zu_j, zu_n] at h) <;> (try (exfalso; omega)) <;> conv => whnf)
      | (refine ⟨by first | rfl | assumption | exact zin1 rfl | exact Nat.le_of_ble_eq_true rfl | exact ⟨rfl, Or.inl rfl⟩ | exact ⟨rfl, Or.inr (Or.inl rfl)⟩ | exact ⟨rfl, Or.inr (Or.inr rfl)⟩ | exact ⟨Nat.le_of_ble_eq_true rfl, Nat.le_of_ble_eq_true rfl⟩ | exact trivial | omega | (simp (disch := omega) only [I_0, I_add, I_sub, I_mul, I_neg, I_nat, I_lt, I_le, I_eq, Int.toNat_natCast, ne_eq, not_true, not_false_iff, zt0, zt1, zI_at, zpi_I, zpl_I, zpd_I, zcp_I, cpI_k, Int.reduceToNat, zu_s, zu_k, zu_i, zu_j, zu_n, I_in, zarr, zin6, zin8, zin11, zin13, zin15, zin19, zin21, zin22, zin23, zin24, zin25, zin26, zin27, zin28, zin29, zin30, zin29s, zin30s, zin33, zin5, Nat.le_refl, and_self, Prod.mk.injEq, Nat.reduceEqDiff, false_and, not_false_iff]; done) | (simp (disch := omega) only [I_0, I_add, I_sub, I_mul, I_neg, I_nat, I_lt, I_le, I_eq, Int.toNat_natCast, ne_eq, not_true, not_false_iff, zt0, zt1, zI_at, zpi_I, zpl_I, zpd_I, zcp_I, cpI_k, Int.reduceToNat, zu_s, zu_k, zu_i, zu_j, zu_n, I_in, zarr, zin6, zin8, zin11, zin13, zin15, zin19, zin21, zin22, zin23, zin24, zin25, zin26, zin27, zin28, zin29, zin30, zin29s, zin30s, zin33, zin5, Nat.le_refl, and_self, Prod.mk.injEq, Nat.reduceEqDiff, false_and, not_false_iff] <;> omega), ?_⟩; conv => whnf)
      | (refine zif70 (by assumption) ?_; conv => whnf)
      | (refine ⟨_, rfl, ?_⟩; conv => whnf))
    · refine hK _ _ _ _ _ (zJ_to (by (repeat' (first | exact trivial | (refine And.intro ?_ ?_) | (refine zlk_i rfl ?_; first | (with_reducible rfl) | (simp (disch := omega) only [I_0, I_add, I_sub, I_mul, I_neg, I_nat, I_lt, I_le, I_eq, Int.toNat_natCast, ne_eq, not_true, not_false_iff, zt0, zt1, zI_at, zpi_I, zpl_I, zpd_I, zcp_I, cpI_k, Int.reduceToNat, zu_s, zu_k, zu_i, zu_j, zu_n]; done) | (simp (disch := omega) only [I_0, I_add, I_sub, I_mul, I_neg, I_nat, I_lt, I_le, I_eq, Int.toNat_natCast, ne_eq, not_true, not_false_iff, zt0, zt1, zI_at, zpi_I, zpl_I, zpd_I, zcp_I, cpI_k, Int.reduceToNat, zu_s, zu_k, zu_i, zu_j, zu_n]; first | omega | (congr 1; omega)) | (congr 1; omega)) | rfl | (simp (disch := omega) only [I_0, I_add, I_sub, I_mul, I_neg, I_nat, I_lt, I_le, I_eq, Int.toNat_natCast, ne_eq, not_true, not_false_iff, zt0, zt1, zI_at, zpi_I, zpl_I, zpd_I, zcp_I, cpI_k, Int.reduceToNat, zu_s, zu_k, zu_i, zu_j, zu_n]; done) | (refine zlk_r rfl ?_; simp (disch := omega) only [I_0, I_add, I_sub, I_mul, I_neg, I_nat, I_lt, I_le, I_eq, Int.toNat_natCast, ne_eq, not_true, not_false_iff, zt0, zt1, zI_at, zpi_I, zpl_I, zpd_I, zcp_I, cpI_k, Int.reduceToNat, zu_s, zu_k, zu_i, zu_j, zu_n]; done)))) rfl rfl (ih (x + 1) (by omega) (fun th h => ?_) S2 hc3))
      by_cases e : th = x
      · subst e; omega
      · exact hg th (by omega)
    · exact hk0 (fun g => g x (by omega) (by omega)) S2 hc3
theorem m_isPassing (h0 : zOk E) (hd : 4 ≤ d) (hS : inv1 S) (hV : KV S) {p : Nat} (hp : (p : Int) < S 0 0 0 3) (hk1 : goodI S p → ∀ S', cqI S S' → kr (some (.inl (.int (I 1)))) (zMI S' l δ)) (hk0 : ¬ goodI S p → ∀ S', cqI S S' → kr (some (.inl (.int (I 0)))) (zMI S' l δ))
    : zC E zm_X6_isPassing d mc ms [.inr (0, 0, 0), .inl (.int (I p))] (zMI S l δ) kr kx := by
  have hnt := hS.1.2.1
  refine zC_of h0 (by decide +kernel) (Nat.le_of_ble_eq_true rfl) (Or.inl rfl) (zJ_cut h0 100 2 zo_X6_isPassing rfl fun K hK => ?_)
  conv => whnf
  repeat' (first
    | (refine ⟨0, 0, ⟨by omega, by omega⟩, ?_⟩)
    | (refine ⟨fun h => ?_, fun h => ?_⟩ <;> (try simp (disch := omega) only [I_0, I_add, I_sub, I_mul, I_neg, I_nat, I_lt, I_le, I_eq, Int.toNat_natCast, ne_eq, not_true, not_false_iff, zt0, zt1, zI_at, zpi_I, zpl_I, zpd_I, zcp_I, cpI_k, Int.reduceToNat, zu_s, zu_k, zu_i, zu_j, zu_n] at h) <;> (try (exfalso; omega)) <;> conv => whnf)
    | (refine ⟨by first | rfl | assumption | exact zin1 rfl | exact Nat.le_of_ble_eq_true rfl | exact ⟨rfl, Or.inl rfl⟩ | exact ⟨rfl, Or.inr (Or.inl rfl)⟩ | exact ⟨rfl, Or.inr (Or.inr rfl)⟩ | exact ⟨Nat.le_of_ble_eq_true rfl, Nat.le_of_ble_eq_true rfl⟩ | exact trivial | omega | (simp (disch := omega) only [I_0, I_add, I_sub, I_mul, I_neg, I_nat, I_lt, I_le, I_eq, Int.toNat_natCast, ne_eq, not_true, not_false_iff, zt0, zt1, zI_at, zpi_I, zpl_I, zpd_I, zcp_I, cpI_k, Int.reduceToNat, zu_s, zu_k, zu_i, zu_j, zu_n, I_in, zarr, zin6, zin8, zin11, zin13, zin15, zin19, zin21, zin22, zin23, zin24, zin25, zin26, zin27, zin28, zin29, zin30, zin29s, zin30s, zin33, zin5, Nat.le_refl, and_self, Prod.mk.injEq, Nat.reduceEqDiff, false_and, not_false_iff]; done) | (simp (disch := omega) only [I_0, I_add, I_sub, I_mul, I_neg, I_nat, I_lt, I_le, I_eq, Int.toNat_natCast, ne_eq, not_true, not_false_iff, zt0, zt1, zI_at, zpi_I, zpl_I, zpd_I, zcp_I, cpI_k, Int.reduceToNat, zu_s, zu_k, zu_i, zu_j, zu_n, I_in, zarr, zin6, zin8, zin11, zin13, zin15, zin19, zin21, zin22, zin23, zin24, zin25, zin26, zin27, zin28, zin29, zin30, zin29s, zin30s, zin33, zin5, Nat.le_refl, and_self, Prod.mk.injEq, Nat.reduceEqDiff, false_and, not_false_iff] <;> omega), ?_⟩; conv => whnf)
    | (refine zif70 (by assumption) ?_; conv => whnf)
    | (refine ⟨_, rfl, ?_⟩; conv => whnf))
  exact hK _ _ _ _ _ (zJ_to (by (repeat' (first | exact trivial | (refine And.intro ?_ ?_) | (refine zlk_i rfl ?_; first | (with_reducible rfl) | (simp (disch := omega) only [I_0, I_add, I_sub, I_mul, I_neg, I_nat, I_lt, I_le, I_eq, Int.toNat_natCast, ne_eq, not_true, not_false_iff, zt0, zt1, zI_at, zpi_I, zpl_I, zpd_I, zcp_I, cpI_k, Int.reduceToNat, zu_s, zu_k, zu_i, zu_j, zu_n]; done) | (simp (disch := omega) only [I_0, I_add, I_sub, I_mul, I_neg, I_nat, I_lt, I_le, I_eq, Int.toNat_natCast, ne_eq, not_true, not_false_iff, zt0, zt1, zI_at, zpi_I, zpl_I, zpd_I, zcp_I, cpI_k, Int.reduceToNat, zu_s, zu_k, zu_i, zu_j, zu_n]; first | omega | (congr 1; omega)) | (congr 1; omega)) | rfl | (simp (disch := omega) only [I_0, I_add, I_sub, I_mul, I_neg, I_nat, I_lt, I_le, I_eq, Int.toNat_natCast, ne_eq, not_true, not_false_iff, zt0, zt1, zI_at, zpi_I, zpl_I, zpd_I, zcp_I, cpI_k, Int.reduceToNat, zu_s, zu_k, zu_i, zu_j, zu_n]; done) | (refine zlk_r rfl ?_; simp (disch := omega) only [I_0, I_add, I_sub, I_mul, I_neg, I_nat, I_lt, I_le, I_eq, Int.toNat_natCast, ne_eq, not_true, not_false_iff, zt0, zt1, zI_at, zpi_I, zpl_I, zpd_I, zcp_I, cpI_k, Int.reduceToNat, zu_s, zu_k, zu_i, zu_j, zu_n]; done)))) rfl rfl (j_isPassing h0 hd hS hp hk1 hk0 (S 1 0 0 1).toNat 0 (by omega) (fun th h => by omega) S (cqI_rfl hV)))
end PS
