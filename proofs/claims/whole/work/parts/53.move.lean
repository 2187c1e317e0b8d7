/-! ===== uses moved ===== -/
/-- a token's uses given to another one -/
def mvS (S : zS) (t u : Int) : zS := fun k i j x => if k = 6 ∧ i < 4 ∧ j = 0 ∧ (x : Int) < S 1 0 0 0 ∧ S 6 i 0 x = 100 + t then 100 + u else if k = 11 ∧ (i : Int) < S 9 0 0 0 ∧ j = 0 ∧ x < 5 ∧ S 11 i 0 x = t then u else S k i j x
theorem mvS_e (S : zS) (t u : Int) : eqq (fun k i j m => k = 6 ∨ k = 11) S (mvS S t u) := fun k i j m h => by
  unfold mvS
  rw [if_neg (by omega), if_neg (by omega)]
theorem mvS_T {S S' : zS} (hS : wfT S) {t u : Nat} (ht : (t : Int) < S 1 0 0 0) (hu : (u : Int) < S 1 0 0 0) (hl : S 2 0 0 u ≤ S 2 0 0 t) (h6 : ∀ r x, S' 6 r 0 x = mvS S t u 6 r 0 x) (h1 : ∀ n, S' 1 0 0 n = S 1 0 0 n) (h2 : ∀ n, S' 2 0 0 n = S 2 0 0 n) (h3 : ∀ n, S' 3 0 0 n = S 3 0 0 n) : wfT S' := by
  unfold wfT at hS ⊢
  simp only [h1, h2, h3, h6]
  obtain ⟨w1, w2, w3, w4, w5, w6⟩ := hS
  refine ⟨w1, w2, w3, fun r x hr hx => ?_, fun r x hr hx hle => ?_, w6⟩
  · have w := w4 r x hr hx
    unfold mvS
    by_cases g : S 6 r 0 x = 100 + t
    · rw [if_pos ⟨rfl, hr, rfl, hx, g⟩]
      rcases w with w | w | ⟨o, w, w', w''⟩
      · omega
      · omega
      · have : o = t := by omega
        subst this
        exact Or.inr (Or.inr ⟨u, rfl, hu, by omega⟩)
    · rw [if_neg (by omega), if_neg (by omega)]
      exact w
  · unfold mvS
    rw [if_neg (by omega), if_neg (by omega)]
    exact w5 r x hr hx hle
theorem mvS_C {S S' : zS} (hS : invC S) {t u : Nat} (hu : (u : Int) < S 1 0 0 0) (h1 : ∀ n, S' 1 0 0 n = S 1 0 0 n) (h9 : S' 9 0 0 0 = S 9 0 0 0) (h11 : ∀ c x, S' 11 c 0 x = mvS S t u 11 c 0 x) (h15 : ∀ c s, S' 15 c 0 s = S 15 c 0 s) (ho : ∀ c : Nat, (c : Int) < S 9 0 0 0 → ownI S' c (owL (fun c s => S 15 c 0 s) c)) : invC S' := by
  have e15 : (fun c s => S' 15 c 0 s) = (fun c s => S 15 c 0 s) := owI_f h15
  unfold invC at hS ⊢
  rw [e15]
  simp only [h1, h9, h11, h15]
  refine ⟨hS.1, fun c x hc hx => ?_, fun c x hc hx => ?_, hS.2.2.2.1, hS.2.2.2.2.1, hS.2.2.2.2.2.1, ho⟩
  · have w := hS.2.1 c x hc hx
    unfold mvS
    rw [if_neg (by omega)]
    split
    · omega
    · exact w
  · have w := hS.2.2.1 c x hc hx
    unfold mvS
    rw [if_neg (by omega)]
    split
    · omega
    · exact w
section MV
variable {E : zEn} {d mc ms : Nat} {kr : Option zV → zM → Prop} {kx : String → zM → Prop} {l : Nat → Nat → Nat → Nat → Int64} {δ : Nat → Nat → Nat → Nat → UInt64} {S : zS}
theorem m_replaceUses (h0 : zOk E) (hd : 4 ≤ d) (hS : inv0 S) (hV : KV S) {t u : Nat} (ht : (t : Int) < S 1 0 0 0) (hu : (u : Int) < S 1 0 0 0) (hl : S 2 0 0 u ≤ S 2 0 0 t) (hk : ∀ G, inv0 G → KV G → eqq drP (mvS S t u) G → (∀ i x, i < 4 → x < 12 → G 8 i 0 x = S 6 i 0 x) → (∀ i x : Nat, (i : Int) < S 9 0 0 0 → x < 5 → G 13 i 0 x = S 11 i 0 x) → kr none (zMI G l δ))
    : zC E zm_X6_replaceUses d mc ms [.inr (0, 0, 0), .inl (.int (I t)), .inl (.int (I u))] (zMI S l δ) kr kx := by
  have hnt := hS.1.1.1
  have hnc := hS.1.2.2.1.1
  have hnp := hS.1.2.2.2.2.1
  have hP := hS.1.2.2.2.1
  have b1 : ∀ k i j x, ¬ k = 6 → ¬ k = 8 → rrI S (100 + t) (100 + u) (S 1 0 0 0).toNat 4 k i j x = S k i j x := fun k i j x h h' => by
    unfold rrI
    rw [if_neg (by omega), if_neg (by omega)]
  refine zC_of h0 (by decide +kernel) (Nat.le_of_ble_eq_true rfl) (Or.inl rfl) (zJ_cut h0 100 1000 zo_X6_replaceUses rfl fun K hK => ?_)
  conv => whnf
  repeat' (first
    | (refine ⟨0, 0, ⟨by omega, by omega⟩, ?_⟩)
    | (refine ⟨fun h => ?_, fun h => ?_⟩ <;> (try simp (disch := omega) only [I_0, I_add, I_sub, I_mul, I_neg, I_nat, I_lt, I_le, I_eq, Int.toNat_natCast, ne_eq, not_true, not_false_iff, zt0, zt1, zI_at, zpi_I, zpl_I, zpd_I, zcp_I, cpI_k, Int.reduceToNat, zu_s, zu_k, zu_i, zu_j, zu_n] at h) <;> (try (exfalso; omega)) <;> conv => whnf)
    | (refine ⟨by first | rfl | assumption | exact zin1 rfl | exact Nat.le_of_ble_eq_true rfl | exact ⟨rfl, Or.inl rfl⟩ | exact ⟨rfl, Or.inr (Or.inl rfl)⟩ | exact ⟨rfl, Or.inr (Or.inr rfl)⟩ | exact ⟨Nat.le_of_ble_eq_true rfl, Nat.le_of_ble_eq_true rfl⟩ | exact trivial | omega | (simp (disch := omega) only [I_0, I_add, I_sub, I_mul, I_neg, I_nat, I_lt, I_le, I_eq, Int.toNat_natCast, ne_eq, not_true, not_false_iff, zt0, zt1, zI_at, zpi_I, zpl_I, zpd_I, zcp_I, cpI_k, Int.reduceToNat, zu_s, zu_k, zu_i, zu_j, zu_n, I_in, zarr, zin6, zin8, zin11, zin13, zin15, zin19, zin21, zin22, zin23, zin24, zin25, zin26, zin27, zin28, zin29, zin30, zin29s, zin30s, zin33, zin5, Nat.le_refl, and_self, Prod.mk.injEq, Nat.reduceEqDiff, false_and, not_false_iff]; done) | (simp (disch := omega) only [I_0, I_add, I_sub, I_mul, I_neg, I_nat, I_lt, I_le, I_eq, Int.toNat_natCast, ne_eq, not_true, not_false_iff, zt0, zt1, zI_at, zpi_I, zpl_I, zpd_I, zcp_I, cpI_k, Int.reduceToNat, zu_s, zu_k, zu_i, zu_j, zu_n, I_in, zarr, zin6, zin8, zin11, zin13, zin15, zin19, zin21, zin22, zin23, zin24, zin25, zin26, zin27, zin28, zin29, zin30, zin29s, zin30s, zin33, zin5, Nat.le_refl, and_self, Prod.mk.injEq, Nat.reduceEqDiff, false_and, not_false_iff] <;> omega), ?_⟩; conv => whnf)
    | (refine zif70 (by assumption) ?_; conv => whnf)
    | (refine ⟨_, rfl, ?_⟩; conv => whnf))
  refine zC_to (m_X4_replaceReferences h0 (by omega) (n := (S 1 0 0 0).toNat) (by omega) (by omega) (fun r t hr ht => wfT_df hS.1.1 hr ht) (v := t) (w := u) (by omega) (by omega) ?_) (by (repeat' (first | exact trivial | (refine And.intro ?_ ?_) | (refine zvi ?_; first | (with_reducible rfl) | (simp (disch := omega) only [I_0, I_add, I_sub, I_mul, I_neg, I_nat, I_lt, I_le, I_eq, Int.toNat_natCast, ne_eq, not_true, not_false_iff, zt0, zt1, zI_at, zpi_I, zpl_I, zpd_I, zcp_I, cpI_k, Int.reduceToNat, zu_s, zu_k, zu_i, zu_j, zu_n]; done) | (simp (disch := omega) only [I_0, I_add, I_sub, I_mul, I_neg, I_nat, I_lt, I_le, I_eq, Int.toNat_natCast, ne_eq, not_true, not_false_iff, zt0, zt1, zI_at, zpi_I, zpl_I, zpd_I, zcp_I, cpI_k, Int.reduceToNat, zu_s, zu_k, zu_i, zu_j, zu_n]; first | omega | (congr 1; omega)) | (congr 1; omega)) | rfl | (simp (disch := omega) only [I_0, I_add, I_sub, I_mul, I_neg, I_nat, I_lt, I_le, I_eq, Int.toNat_natCast, ne_eq, not_true, not_false_iff, zt0, zt1, zI_at, zpi_I, zpl_I, zpd_I, zcp_I, cpI_k, Int.reduceToNat, zu_s, zu_k, zu_i, zu_j, zu_n]; done) | (refine zlk_r rfl ?_; simp (disch := omega) only [I_0, I_add, I_sub, I_mul, I_neg, I_nat, I_lt, I_le, I_eq, Int.toNat_natCast, ne_eq, not_true, not_false_iff, zt0, zt1, zI_at, zpi_I, zpl_I, zpd_I, zcp_I, cpI_k, Int.reduceToNat, zu_s, zu_k, zu_i, zu_j, zu_n]; done)))) rfl
  conv => whnf
  repeat' (first
    | (refine ⟨0, 0, ⟨by omega, by omega⟩, ?_⟩)
    | (refine ⟨fun h => ?_, fun h => ?_⟩ <;> (try simp (disch := omega) only [I_0, I_add, I_sub, I_mul, I_neg, I_nat, I_lt, I_le, I_eq, Int.toNat_natCast, ne_eq, not_true, not_false_iff, zt0, zt1, zI_at, zpi_I, zpl_I, zpd_I, zcp_I, cpI_k, Int.reduceToNat, zu_s, zu_k, zu_i, zu_j, zu_n] at h) <;> (try (exfalso; omega)) <;> conv => whnf)
    | (refine ⟨by first | rfl | assumption | exact zin1 rfl | exact Nat.le_of_ble_eq_true rfl | exact ⟨rfl, Or.inl rfl⟩ | exact ⟨rfl, Or.inr (Or.inl rfl)⟩ | exact ⟨rfl, Or.inr (Or.inr rfl)⟩ | exact ⟨Nat.le_of_ble_eq_true rfl, Nat.le_of_ble_eq_true rfl⟩ | exact trivial | omega | (simp (disch := omega) only [I_0, I_add, I_sub, I_mul, I_neg, I_nat, I_lt, I_le, I_eq, Int.toNat_natCast, ne_eq, not_true, not_false_iff, zt0, zt1, zI_at, zpi_I, zpl_I, zpd_I, zcp_I, cpI_k, Int.reduceToNat, zu_s, zu_k, zu_i, zu_j, zu_n, I_in, zarr, zin6, zin8, zin11, zin13, zin15, zin19, zin21, zin22, zin23, zin24, zin25, zin26, zin27, zin28, zin29, zin30, zin29s, zin30s, zin33, zin5, Nat.le_refl, and_self, Prod.mk.injEq, Nat.reduceEqDiff, false_and, not_false_iff]; done) | (simp (disch := omega) only [I_0, I_add, I_sub, I_mul, I_neg, I_nat, I_lt, I_le, I_eq, Int.toNat_natCast, ne_eq, not_true, not_false_iff, zt0, zt1, zI_at, zpi_I, zpl_I, zpd_I, zcp_I, cpI_k, Int.reduceToNat, zu_s, zu_k, zu_i, zu_j, zu_n, I_in, zarr, zin6, zin8, zin11, zin13, zin15, zin19, zin21, zin22, zin23, zin24, zin25, zin26, zin27, zin28, zin29, zin30, zin29s, zin30s, zin33, zin5, Nat.le_refl, and_self, Prod.mk.injEq, Nat.reduceEqDiff, false_and, not_false_iff] <;> omega), ?_⟩; conv => whnf)
    | (refine zif70 (by assumption) ?_; conv => whnf)
    | (refine ⟨_, rfl, ?_⟩; conv => whnf))
  refine zC_to (m_X0_replaceTokens h0 (by omega) (S := rrI S (100 + t) (100 + u) (S 1 0 0 0).toNat 4) (n := (S 9 0 0 0).toNat) (by rw [b1 9 _ _ _ (by decide) (by decide)]; omega) (by omega) (fun c x hc hx => by rw [b1 11 _ _ _ (by decide) (by decide)]; have := hS.1.2.2.1.2.1 c x hc hx; omega) (v := t) (w := u) (by omega) (by omega) ?_) (by (repeat' (first | exact trivial | (refine And.intro ?_ ?_) | (refine zvi ?_; first | (with_reducible rfl) | (simp (disch := omega) only [I_0, I_add, I_sub, I_mul, I_neg, I_nat, I_lt, I_le, I_eq, Int.toNat_natCast, ne_eq, not_true, not_false_iff, zt0, zt1, zI_at, zpi_I, zpl_I, zpd_I, zcp_I, cpI_k, Int.reduceToNat, zu_s, zu_k, zu_i, zu_j, zu_n]; done) | (simp (disch := omega) only [I_0, I_add, I_sub, I_mul, I_neg, I_nat, I_lt, I_le, I_eq, Int.toNat_natCast, ne_eq, not_true, not_false_iff, zt0, zt1, zI_at, zpi_I, zpl_I, zpd_I, zcp_I, cpI_k, Int.reduceToNat, zu_s, zu_k, zu_i, zu_j, zu_n]; first | omega | (congr 1; omega)) | (congr 1; omega)) | rfl | (simp (disch := omega) only [I_0, I_add, I_sub, I_mul, I_neg, I_nat, I_lt, I_le, I_eq, Int.toNat_natCast, ne_eq, not_true, not_false_iff, zt0, zt1, zI_at, zpi_I, zpl_I, zpd_I, zcp_I, cpI_k, Int.reduceToNat, zu_s, zu_k, zu_i, zu_j, zu_n]; done) | (refine zlk_r rfl ?_; simp (disch := omega) only [I_0, I_add, I_sub, I_mul, I_neg, I_nat, I_lt, I_le, I_eq, Int.toNat_natCast, ne_eq, not_true, not_false_iff, zt0, zt1, zI_at, zpi_I, zpl_I, zpd_I, zcp_I, cpI_k, Int.reduceToNat, zu_s, zu_k, zu_i, zu_j, zu_n]; done)))) rfl
  have a1 : eqq (fun k i j m => k = 6 ∨ k = 8 ∨ k = 11 ∨ k = 13) S (rcI (rrI S (100 + t) (100 + u) (S 1 0 0 0).toNat 4) t u (S 9 0 0 0).toNat) := fun k i j m hk => by
    unfold rcI
    rw [if_neg (by omega), if_neg (by omega), b1 k i j m (by omega) (by omega)]
  have a2 : ∀ i j x, rcI (rrI S (100 + t) (100 + u) (S 1 0 0 0).toNat 4) t u (S 9 0 0 0).toNat 6 i j x = mvS S t u 6 i j x := fun i j x => by
    unfold rcI rrI mvS
    by_cases g : i < 4 ∧ j = 0 ∧ (x : Int) < S 1 0 0 0 ∧ S 6 i 0 x = 100 + t
    · rw [if_neg (by omega), if_neg (by omega), if_neg (by omega), if_pos (by omega), if_pos ⟨rfl, g⟩]
    · rw [if_neg (by omega), if_neg (by omega), if_neg (by omega), if_neg (by omega), if_neg (by omega), if_neg (by omega)]
  have a3 : ∀ i j x, rcI (rrI S (100 + t) (100 + u) (S 1 0 0 0).toNat 4) t u (S 9 0 0 0).toNat 11 i j x = mvS S t u 11 i j x := fun i j x => by
    unfold rcI mvS
    rw [b1 11 _ _ _ (by decide) (by decide), b1 11 _ _ _ (by decide) (by decide)]
    by_cases g : (i : Int) < S 9 0 0 0 ∧ j = 0 ∧ x < 5 ∧ S 11 i 0 x = t
    · rw [if_neg (by omega), if_pos (by omega), if_neg (by omega), if_pos ⟨rfl, g⟩]
    · rw [if_neg (by omega), if_neg (by omega), if_neg (by omega), if_neg (by omega)]
  have a4 : ∀ i x, i < 4 → x < 12 → rcI (rrI S (100 + t) (100 + u) (S 1 0 0 0).toNat 4) t u (S 9 0 0 0).toNat 8 i 0 x = S 6 i 0 x := fun i x hi hx => by
    unfold rcI rrI
    rw [if_neg (by omega), if_neg (by omega), if_pos (by omega)]
  have a5 : ∀ i x : Nat, (i : Int) < S 9 0 0 0 → x < 5 → rcI (rrI S (100 + t) (100 + u) (S 1 0 0 0).toNat 4) t u (S 9 0 0 0).toNat 13 i 0 x = S 11 i 0 x := fun i x hi hx => by
    unfold rcI
    rw [if_pos (by omega), b1 11 _ _ _ (by decide) (by decide)]
  generalize rcI (rrI S (100 + t) (100 + u) (S 1 0 0 0).toNat 4) t u (S 9 0 0 0).toNat = S1 at a1 a2 a3 a4 a5
  conv => whnf
  repeat' (first
    | (refine ⟨0, 0, ⟨by omega, by omega⟩, ?_⟩)
    | (refine ⟨fun h => ?_, fun h => ?_⟩ <;> (try simp (disch := omega) only [I_0, I_add, I_sub, I_mul, I_neg, I_nat, I_lt, I_le, I_eq, Int.toNat_natCast, ne_eq, not_true, not_false_iff, zt0, zt1, zI_at, zpi_I, zpl_I, zpd_I, zcp_I, cpI_k, Int.reduceToNat, zu_s, zu_k, zu_i, zu_j, zu_n] at h) <;> (try (exfalso; omega)) <;> conv => whnf)
    | (refine ⟨by first | rfl | assumption | exact zin1 rfl | exact Nat.le_of_ble_eq_true rfl | exact ⟨rfl, Or.inl rfl⟩ | exact ⟨rfl, Or.inr (Or.inl rfl)⟩ | exact ⟨rfl, Or.inr (Or.inr rfl)⟩ | exact ⟨Nat.le_of_ble_eq_true rfl, Nat.le_of_ble_eq_true rfl⟩ | exact trivial | omega | (simp (disch := omega) only [I_0, I_add, I_sub, I_mul, I_neg, I_nat, I_lt, I_le, I_eq, Int.toNat_natCast, ne_eq, not_true, not_false_iff, zt0, zt1, zI_at, zpi_I, zpl_I, zpd_I, zcp_I, cpI_k, Int.reduceToNat, zu_s, zu_k, zu_i, zu_j, zu_n, I_in, zarr, zin6, zin8, zin11, zin13, zin15, zin19, zin21, zin22, zin23, zin24, zin25, zin26, zin27, zin28, zin29, zin30, zin29s, zin30s, zin33, zin5, Nat.le_refl, and_self, Prod.mk.injEq, Nat.reduceEqDiff, false_and, not_false_iff]; done) | (simp (disch := omega) only [I_0, I_add, I_sub, I_mul, I_neg, I_nat, I_lt, I_le, I_eq, Int.toNat_natCast, ne_eq, not_true, not_false_iff, zt0, zt1, zI_at, zpi_I, zpl_I, zpd_I, zcp_I, cpI_k, Int.reduceToNat, zu_s, zu_k, zu_i, zu_j, zu_n, I_in, zarr, zin6, zin8, zin11, zin13, zin15, zin19, zin21, zin22, zin23, zin24, zin25, zin26, zin27, zin28, zin29, zin30, zin29s, zin30s, zin33, zin5, Nat.le_refl, and_self, Prod.mk.injEq, Nat.reduceEqDiff, false_and, not_false_iff] <;> omega), ?_⟩; conv => whnf)
    | (refine zif70 (by assumption) ?_; conv => whnf)
    | (refine ⟨_, rfl, ?_⟩; conv => whnf))
  refine zC_to (m_forgetValues h0 (by omega) (S := S1) (n := (S 0 0 0 3).toNat) (by rw [a1 0 0 0 3 (by omega)]; omega) (by omega) ?_) (by (repeat' (first | exact trivial | (refine And.intro ?_ ?_) | (refine zvi ?_; first | (with_reducible rfl) | (simp (disch := omega) only [I_0, I_add, I_sub, I_mul, I_neg, I_nat, I_lt, I_le, I_eq, Int.toNat_natCast, ne_eq, not_true, not_false_iff, zt0, zt1, zI_at, zpi_I, zpl_I, zpd_I, zcp_I, cpI_k, Int.reduceToNat, zu_s, zu_k, zu_i, zu_j, zu_n]; done) | (simp (disch := omega) only [I_0, I_add, I_sub, I_mul, I_neg, I_nat, I_lt, I_le, I_eq, Int.toNat_natCast, ne_eq, not_true, not_false_iff, zt0, zt1, zI_at, zpi_I, zpl_I, zpd_I, zcp_I, cpI_k, Int.reduceToNat, zu_s, zu_k, zu_i, zu_j, zu_n]; first | omega | (congr 1; omega)) | (congr 1; omega)) | rfl | (simp (disch := omega) only [I_0, I_add, I_sub, I_mul, I_neg, I_nat, I_lt, I_le, I_eq, Int.toNat_natCast, ne_eq, not_true, not_false_iff, zt0, zt1, zI_at, zpi_I, zpl_I, zpd_I, zcp_I, cpI_k, Int.reduceToNat, zu_s, zu_k, zu_i, zu_j, zu_n]; done) | (refine zlk_r rfl ?_; simp (disch := omega) only [I_0, I_add, I_sub, I_mul, I_neg, I_nat, I_lt, I_le, I_eq, Int.toNat_natCast, ne_eq, not_true, not_false_iff, zt0, zt1, zI_at, zpi_I, zpl_I, zpd_I, zcp_I, cpI_k, Int.reduceToNat, zu_s, zu_k, zu_i, zu_j, zu_n]; done)))) rfl
  have c1 : eqq (fun k i j m => k = 27) S1 (fgI S1 (S 0 0 0 3).toNat) := fun k i j m h => if_neg (by omega)
  have c2 : KV (fgI S1 (S 0 0 0 3).toNat) := KV_fg (fun p th t' hp hth ht' h => by
    rw [a1 0 0 0 3 (by omega)] at h
    rw [a1 27 p th t' (by omega)]
    exact KV_no hV p th t' hp hth ht' h) (by rw [a1 0 0 0 3 (by omega)]; omega)
  generalize fgI S1 (S 0 0 0 3).toNat = S2 at c1 c2
  have b2 : eqq (fun k i j m => k = 6 ∨ k = 8 ∨ k = 11 ∨ k = 13 ∨ k = 27) S S2 := fun k i j m hk => by rw [c1 k i j m (by omega), a1 k i j m (by omega)]
  have w1 : wfT S2 := mvS_T hS.1.1 ht hu hl (fun r x => by rw [c1 6 r 0 x (by omega), a2]) (fun n => b2 _ _ _ _ (by omega)) (fun n => b2 _ _ _ _ (by omega)) (fun n => b2 _ _ _ _ (by omega))
  have w2 : invC S2 := mvS_C (t := t) hS.1.2.2.1 hu (fun n => b2 _ _ _ _ (by omega)) (b2 _ _ _ _ (by omega)) (fun r x => by rw [c1 11 r 0 x (by omega), a3]) (fun c s => b2 _ _ _ _ (by omega)) (fun c hc => by
    have := hS.1.2.2.1.2.2.2.2.2.2 c hc
    unfold ownI at this ⊢
    rw [b2 16 0 0 c (by omega)]
    exact ⟨this.1, fun k hk => by rw [b2 19 c 0 k (by omega)]; exact this.2 k hk⟩)
  conv => whnf
  repeat' (first
    | (refine ⟨0, 0, ⟨by omega, by omega⟩, ?_⟩)
    | (refine ⟨fun h => ?_, fun h => ?_⟩ <;> (try simp (disch := omega) only [I_0, I_add, I_sub, I_mul, I_neg, I_nat, I_lt, I_le, I_eq, Int.toNat_natCast, ne_eq, not_true, not_false_iff, zt0, zt1, zI_at, zpi_I, zpl_I, zpd_I, zcp_I, cpI_k, Int.reduceToNat, zu_s, zu_k, zu_i, zu_j, zu_n] at h) <;> (try (exfalso; omega)) <;> conv => whnf)
    | (refine ⟨by first | rfl | assumption | exact zin1 rfl | exact Nat.le_of_ble_eq_true rfl | exact ⟨rfl, Or.inl rfl⟩ | exact ⟨rfl, Or.inr (Or.inl rfl)⟩ | exact ⟨rfl, Or.inr (Or.inr rfl)⟩ | exact ⟨Nat.le_of_ble_eq_true rfl, Nat.le_of_ble_eq_true rfl⟩ | exact trivial | omega | (simp (disch := omega) only [I_0, I_add, I_sub, I_mul, I_neg, I_nat, I_lt, I_le, I_eq, Int.toNat_natCast, ne_eq, not_true, not_false_iff, zt0, zt1, zI_at, zpi_I, zpl_I, zpd_I, zcp_I, cpI_k, Int.reduceToNat, zu_s, zu_k, zu_i, zu_j, zu_n, I_in, zarr, zin6, zin8, zin11, zin13, zin15, zin19, zin21, zin22, zin23, zin24, zin25, zin26, zin27, zin28, zin29, zin30, zin29s, zin30s, zin33, zin5, Nat.le_refl, and_self, Prod.mk.injEq, Nat.reduceEqDiff, false_and, not_false_iff]; done) | (simp (disch := omega) only [I_0, I_add, I_sub, I_mul, I_neg, I_nat, I_lt, I_le, I_eq, Int.toNat_natCast, ne_eq, not_true, not_false_iff, zt0, zt1, zI_at, zpi_I, zpl_I, zpd_I, zcp_I, cpI_k, Int.reduceToNat, zu_s, zu_k, zu_i, zu_j, zu_n, I_in, zarr, zin6, zin8, zin11, zin13, zin15, zin19, zin21, zin22, zin23, zin24, zin25, zin26, zin27, zin28, zin29, zin30, zin29s, zin30s, zin33, zin5, Nat.le_refl, and_self, Prod.mk.injEq, Nat.reduceEqDiff, false_and, not_false_iff] <;> omega), ?_⟩; conv => whnf)
    | (refine zif70 (by assumption) ?_; conv => whnf)
    | (refine ⟨_, rfl, ?_⟩; conv => whnf))
  refine zC_to (m_layOutPages h0 (by omega) (S := S2) (n := (S 0 0 0 3).toNat) (by rw [b2 0 0 0 3 (by omega)]; omega) (by omega) (fun p hp => wfP_of w1 w2 ?_ ?_) w2.2.2.2.2.2.2 (fun G hG hr => ?_)) (by (repeat' (first | exact trivial | (refine And.intro ?_ ?_) | (refine zvi ?_; first | (with_reducible rfl) | (simp (disch := omega) only [I_0, I_add, I_sub, I_mul, I_neg, I_nat, I_lt, I_le, I_eq, Int.toNat_natCast, ne_eq, not_true, not_false_iff, zt0, zt1, zI_at, zpi_I, zpl_I, zpd_I, zcp_I, cpI_k, Int.reduceToNat, zu_s, zu_k, zu_i, zu_j, zu_n]; done) | (simp (disch := omega) only [I_0, I_add, I_sub, I_mul, I_neg, I_nat, I_lt, I_le, I_eq, Int.toNat_natCast, ne_eq, not_true, not_false_iff, zt0, zt1, zI_at, zpi_I, zpl_I, zpd_I, zcp_I, cpI_k, Int.reduceToNat, zu_s, zu_k, zu_i, zu_j, zu_n]; first | omega | (congr 1; omega)) | (congr 1; omega)) | rfl | (simp (disch := omega) only [I_0, I_add, I_sub, I_mul, I_neg, I_nat, I_lt, I_le, I_eq, Int.toNat_natCast, ne_eq, not_true, not_false_iff, zt0, zt1, zI_at, zpi_I, zpl_I, zpd_I, zcp_I, cpI_k, Int.reduceToNat, zu_s, zu_k, zu_i, zu_j, zu_n]; done) | (refine zlk_r rfl ?_; simp (disch := omega) only [I_0, I_add, I_sub, I_mul, I_neg, I_nat, I_lt, I_le, I_eq, Int.toNat_natCast, ne_eq, not_true, not_false_iff, zt0, zt1, zI_at, zpi_I, zpl_I, zpd_I, zcp_I, cpI_k, Int.reduceToNat, zu_s, zu_k, zu_i, zu_j, zu_n]; done)))) rfl
  · rw [b2 21 p 0 0 (by omega)]; exact (hP p (by omega)).1
  · intro x hx
    rw [b2 21 p 0 0 (by omega)] at hx
    rw [b2 22 p 0 x (by omega), b2 23 p 0 x (by omega), b2 9 0 0 0 (by omega)]
    exact (hP p (by omega)).2.1 x hx
  · have g1 : inv0 G := inv0_lay (S := S) (S' := S2) (eqq_mono b2 (fun k i j m h => by omega)) hS (fun p _ _ => b2 _ _ _ _ (by omega)) w1 w2 hG hr
    have g2 : KV G := KV_congr (S := S2) (fun k i j m hk => hG k i j m (by omega)) c2
    have hk := hk G g1 g2 (fun k i j m hk => by
      rw [hG k i j m (by omega), c1 k i j m (by omega)]
      by_cases g6 : k = 6
      · subst g6; exact a2 i j m
      · by_cases g11 : k = 11
        · subst g11; exact a3 i j m
        · rw [a1 k i j m (by omega), mvS_e S t u k i j m (by omega)]) (fun i x hi hx => by rw [hG 8 i 0 x (by omega), c1 8 i 0 x (by omega), a4 i x hi hx]) (fun i x hi hx => by rw [hG 13 i 0 x (by omega), c1 13 i 0 x (by omega), a5 i x hi hx])
    conv => whnf
    repeat' (first
      | (refine ⟨0, 0, ⟨by omega, by omega⟩, ?_⟩)
      | (refine ⟨fun h => ?_, fun h => ?_⟩ <;> (try simp (disch := omega) only [I_0, I_add, I_sub, I_mul, I_neg, I_nat, I_lt, I_le, I_eq, Int.toNat_natCast, ne_eq, not_true, not_false_iff, zt0, zt1, zI_at, zpi_I, zpl_I, zpd_I, zcp_I, cpI_k, Int.reduceToNat, zu_s, zu_k, zu_i, zu_j, zu_n] at h) <;> (try (exfalso; omega)) <;> conv => whnf)
      | (refine ⟨by first | rfl | assumption | exact zin1 rfl | exact Nat.le_of_ble_eq_true rfl | exact ⟨rfl, Or.inl rfl⟩ | exact ⟨rfl, Or.inr (Or.inl rfl)⟩ | exact ⟨rfl, Or.inr (Or.inr rfl)⟩ | exact ⟨Nat.le_of_ble_eq_true rfl, Nat.le_of_ble_eq_true rfl⟩ | exact trivial | omega | (simp (disch := omega) only [I_0, I_add, I_sub, I_mul, I_neg, I_nat, I_lt, I_le, I_eq, Int.toNat_natCast, ne_eq, not_true, not_false_iff, zt0, zt1, zI_at, zpi_I, zpl_I, zpd_I, zcp_I, cpI_k, Int.reduceToNat, zu_s, zu_k, zu_i, zu_j, zu_n, I_in, zarr, zin6, zin8, zin11, zin13, zin15, zin19, zin21, zin22, zin23, zin24, zin25, zin26, zin27, zin28, zin29, zin30, zin29s, zin30s, zin33, zin5, Nat.le_refl, and_self, Prod.mk.injEq, Nat.reduceEqDiff, false_and, not_false_iff]; done) | (simp (disch := omega) only [I_0, I_add, I_sub, I_mul, I_neg, I_nat, I_lt, I_le, I_eq, Int.toNat_natCast, ne_eq, not_true, not_false_iff, zt0, zt1, zI_at, zpi_I, zpl_I, zpd_I, zcp_I, cpI_k, Int.reduceToNat, zu_s, zu_k, zu_i, zu_j, zu_n, I_in, zarr, zin6, zin8, zin11, zin13, zin15, zin19, zin21, zin22, zin23, zin24, zin25, zin26, zin27, zin28, zin29, zin30, zin29s, zin30s, zin33, zin5, Nat.le_refl, and_self, Prod.mk.injEq, Nat.reduceEqDiff, false_and, not_false_iff] <;> omega), ?_⟩; conv => whnf)
      | (refine zif70 (by assumption) ?_; conv => whnf)
      | (refine ⟨_, rfl, ?_⟩; conv => whnf))
    exact hk
theorem m_undoReplacing (h0 : zOk E) (hd : 4 ≤ d) {S0 : zS} (hS0 : inv0 S0) (hV0 : KV S0) {t u : Nat} (hS : inv0 S) (hV : KV S) (hE : eqq drP (mvS S0 t u) S) (h8 : ∀ i x, i < 4 → x < 12 → S 8 i 0 x = S0 6 i 0 x) (h13 : ∀ i x : Nat, (i : Int) < S0 9 0 0 0 → x < 5 → S 13 i 0 x = S0 11 i 0 x) (hk : ∀ G, inv0 G → KV G → eqq drP S0 G → kr none (zMI G l δ))
    : zC E zm_X6_undoReplacing d mc ms [.inr (0, 0, 0)] (zMI S l δ) kr kx := by
  have hnt := hS0.1.1.1
  have hnc := hS0.1.2.2.1.1
  have hnp := hS0.1.2.2.2.2.1
  have hP := hS0.1.2.2.2.1
  have b0 : eqq (fun k i j m => k = 6 ∨ k = 11 ∨ drP k i j m) S0 S := fun k i j m hk => by rw [hE k i j m (by omega), mvS_e S0 t u k i j m (by omega)]
  have f9 : S 9 0 0 0 = S0 9 0 0 0 := b0 _ _ _ _ (by omega)
  have f3 : S 0 0 0 3 = S0 0 0 0 3 := b0 _ _ _ _ (by omega)
  refine zC_of h0 (by decide +kernel) (Nat.le_of_ble_eq_true rfl) (Or.inl rfl) (zJ_cut h0 100 1000 zo_X6_undoReplacing rfl fun K hK => ?_)
  conv => whnf
  repeat' (first
    | (refine ⟨0, 0, ⟨by omega, by omega⟩, ?_⟩)
    | (refine ⟨fun h => ?_, fun h => ?_⟩ <;> (try simp (disch := omega) only [I_0, I_add, I_sub, I_mul, I_neg, I_nat, I_lt, I_le, I_eq, Int.toNat_natCast, ne_eq, not_true, not_false_iff, zt0, zt1, zI_at, zpi_I, zpl_I, zpd_I, zcp_I, cpI_k, Int.reduceToNat, zu_s, zu_k, zu_i, zu_j, zu_n] at h) <;> (try (exfalso; omega)) <;> conv => whnf)
    | (refine ⟨by first | rfl | assumption | exact zin1 rfl | exact Nat.le_of_ble_eq_true rfl | exact ⟨rfl, Or.inl rfl⟩ | exact ⟨rfl, Or.inr (Or.inl rfl)⟩ | exact ⟨rfl, Or.inr (Or.inr rfl)⟩ | exact ⟨Nat.le_of_ble_eq_true rfl, Nat.le_of_ble_eq_true rfl⟩ | exact trivial | omega | (simp (disch := omega) only [I_0, I_add, I_sub, I_mul, I_neg, I_nat, I_lt, I_le, I_eq, Int.toNat_natCast, ne_eq, not_true, not_false_iff, zt0, zt1, zI_at, zpi_I, zpl_I, zpd_I, zcp_I, cpI_k, Int.reduceToNat, zu_s, zu_k, zu_i, zu_j, zu_n, I_in, zarr, zin6, zin8, zin11, zin13, zin15, zin19, zin21, zin22, zin23, zin24, zin25, zin26, zin27, zin28, zin29, zin30, zin29s, zin30s, zin33, zin5, Nat.le_refl, and_self, Prod.mk.injEq, Nat.reduceEqDiff, false_and, not_false_iff]; done) | (simp (disch := omega) only [I_0, I_add, I_sub, I_mul, I_neg, I_nat, I_lt, I_le, I_eq, Int.toNat_natCast, ne_eq, not_true, not_false_iff, zt0, zt1, zI_at, zpi_I, zpl_I, zpd_I, zcp_I, cpI_k, Int.reduceToNat, zu_s, zu_k, zu_i, zu_j, zu_n, I_in, zarr, zin6, zin8, zin11, zin13, zin15, zin19, zin21, zin22, zin23, zin24, zin25, zin26, zin27, zin28, zin29, zin30, zin29s, zin30s, zin33, zin5, Nat.le_refl, and_self, Prod.mk.injEq, Nat.reduceEqDiff, false_and, not_false_iff] <;> omega), ?_⟩; conv => whnf)
    | (refine zif70 (by assumption) ?_; conv => whnf)
    | (refine ⟨_, rfl, ?_⟩; conv => whnf))
  refine zC_to (m_X4_undoReplacing h0 ?_) (by (repeat' (first | exact trivial | (refine And.intro ?_ ?_) | (refine zvi ?_; first | (with_reducible rfl) | (simp (disch := omega) only [I_0, I_add, I_sub, I_mul, I_neg, I_nat, I_lt, I_le, I_eq, Int.toNat_natCast, ne_eq, not_true, not_false_iff, zt0, zt1, zI_at, zpi_I, zpl_I, zpd_I, zcp_I, cpI_k, Int.reduceToNat, zu_s, zu_k, zu_i, zu_j, zu_n]; done) | (simp (disch := omega) only [I_0, I_add, I_sub, I_mul, I_neg, I_nat, I_lt, I_le, I_eq, Int.toNat_natCast, ne_eq, not_true, not_false_iff, zt0, zt1, zI_at, zpi_I, zpl_I, zpd_I, zcp_I, cpI_k, Int.reduceToNat, zu_s, zu_k, zu_i, zu_j, zu_n]; first | omega | (congr 1; omega)) | (congr 1; omega)) | rfl | (simp (disch := omega) only [I_0, I_add, I_sub, I_mul, I_neg, I_nat, I_lt, I_le, I_eq, Int.toNat_natCast, ne_eq, not_true, not_false_iff, zt0, zt1, zI_at, zpi_I, zpl_I, zpd_I, zcp_I, cpI_k, Int.reduceToNat, zu_s, zu_k, zu_i, zu_j, zu_n]; done) | (refine zlk_r rfl ?_; simp (disch := omega) only [I_0, I_add, I_sub, I_mul, I_neg, I_nat, I_lt, I_le, I_eq, Int.toNat_natCast, ne_eq, not_true, not_false_iff, zt0, zt1, zI_at, zpi_I, zpl_I, zpd_I, zcp_I, cpI_k, Int.reduceToNat, zu_s, zu_k, zu_i, zu_j, zu_n]; done)))) rfl
  conv => whnf
  repeat' (first
    | (refine ⟨0, 0, ⟨by omega, by omega⟩, ?_⟩)
    | (refine ⟨fun h => ?_, fun h => ?_⟩ <;> (try simp (disch := omega) only [I_0, I_add, I_sub, I_mul, I_neg, I_nat, I_lt, I_le, I_eq, Int.toNat_natCast, ne_eq, not_true, not_false_iff, zt0, zt1, zI_at, zpi_I, zpl_I, zpd_I, zcp_I, cpI_k, Int.reduceToNat, zu_s, zu_k, zu_i, zu_j, zu_n] at h) <;> (try (exfalso; omega)) <;> conv => whnf)
    | (refine ⟨by first | rfl | assumption | exact zin1 rfl | exact Nat.le_of_ble_eq_true rfl | exact ⟨rfl, Or.inl rfl⟩ | exact ⟨rfl, Or.inr (Or.inl rfl)⟩ | exact ⟨rfl, Or.inr (Or.inr rfl)⟩ | exact ⟨Nat.le_of_ble_eq_true rfl, Nat.le_of_ble_eq_true rfl⟩ | exact trivial | omega | (simp (disch := omega) only [I_0, I_add, I_sub, I_mul, I_neg, I_nat, I_lt, I_le, I_eq, Int.toNat_natCast, ne_eq, not_true, not_false_iff, zt0, zt1, zI_at, zpi_I, zpl_I, zpd_I, zcp_I, cpI_k, Int.reduceToNat, zu_s, zu_k, zu_i, zu_j, zu_n, I_in, zarr, zin6, zin8, zin11, zin13, zin15, zin19, zin21, zin22, zin23, zin24, zin25, zin26, zin27, zin28, zin29, zin30, zin29s, zin30s, zin33, zin5, Nat.le_refl, and_self, Prod.mk.injEq, Nat.reduceEqDiff, false_and, not_false_iff]; done) | (simp (disch := omega) only [I_0, I_add, I_sub, I_mul, I_neg, I_nat, I_lt, I_le, I_eq, Int.toNat_natCast, ne_eq, not_true, not_false_iff, zt0, zt1, zI_at, zpi_I, zpl_I, zpd_I, zcp_I, cpI_k, Int.reduceToNat, zu_s, zu_k, zu_i, zu_j, zu_n, I_in, zarr, zin6, zin8, zin11, zin13, zin15, zin19, zin21, zin22, zin23, zin24, zin25, zin26, zin27, zin28, zin29, zin30, zin29s, zin30s, zin33, zin5, Nat.le_refl, and_self, Prod.mk.injEq, Nat.reduceEqDiff, false_and, not_false_iff] <;> omega), ?_⟩; conv => whnf)
    | (refine zif70 (by assumption) ?_; conv => whnf)
    | (refine ⟨_, rfl, ?_⟩; conv => whnf))
  refine zC_to (m_X0_undoReplacing h0 (S := riI S 4) (n := (S0 9 0 0 0).toNat) (by unfold riI; rw [if_neg (by omega)]; omega) (by omega) ?_) (by (repeat' (first | exact trivial | (refine And.intro ?_ ?_) | (refine zvi ?_; first | (with_reducible rfl) | (simp (disch := omega) only [I_0, I_add, I_sub, I_mul, I_neg, I_nat, I_lt, I_le, I_eq, Int.toNat_natCast, ne_eq, not_true, not_false_iff, zt0, zt1, zI_at, zpi_I, zpl_I, zpd_I, zcp_I, cpI_k, Int.reduceToNat, zu_s, zu_k, zu_i, zu_j, zu_n]; done) | (simp (disch := omega) only [I_0, I_add, I_sub, I_mul, I_neg, I_nat, I_lt, I_le, I_eq, Int.toNat_natCast, ne_eq, not_true, not_false_iff, zt0, zt1, zI_at, zpi_I, zpl_I, zpd_I, zcp_I, cpI_k, Int.reduceToNat, zu_s, zu_k, zu_i, zu_j, zu_n]; first | omega | (congr 1; omega)) | (congr 1; omega)) | rfl | (simp (disch := omega) only [I_0, I_add, I_sub, I_mul, I_neg, I_nat, I_lt, I_le, I_eq, Int.toNat_natCast, ne_eq, not_true, not_false_iff, zt0, zt1, zI_at, zpi_I, zpl_I, zpd_I, zcp_I, cpI_k, Int.reduceToNat, zu_s, zu_k, zu_i, zu_j, zu_n]; done) | (refine zlk_r rfl ?_; simp (disch := omega) only [I_0, I_add, I_sub, I_mul, I_neg, I_nat, I_lt, I_le, I_eq, Int.toNat_natCast, ne_eq, not_true, not_false_iff, zt0, zt1, zI_at, zpi_I, zpl_I, zpd_I, zcp_I, cpI_k, Int.reduceToNat, zu_s, zu_k, zu_i, zu_j, zu_n]; done)))) rfl
  have a1 : eqq (fun k i j m => k = 6 ∨ k = 11) S (ruI (riI S 4) (S0 9 0 0 0).toNat) := fun k i j m hk => by
    unfold ruI riI
    rw [if_neg (by omega), if_neg (by omega)]
  have a2 : ∀ i j x, ruI (riI S 4) (S0 9 0 0 0).toNat 6 i j x = S0 6 i j x := fun i j x => by
    unfold ruI riI
    rw [if_neg (by omega)]
    by_cases g : i < 4 ∧ j = 0 ∧ x < 12
    · rw [if_pos ⟨rfl, g⟩, h8 i x g.1 g.2.2, g.2.1]
    · rw [if_neg (by omega), hE 6 i j x (by omega)]
      unfold mvS
      rw [if_neg (by omega), if_neg (by omega)]
  have a3 : ∀ i j x, ruI (riI S 4) (S0 9 0 0 0).toNat 11 i j x = S0 11 i j x := fun i j x => by
    unfold ruI riI
    by_cases g : (i : Int) < S0 9 0 0 0 ∧ j = 0 ∧ x < 5
    · rw [if_pos (by omega), if_neg (by omega), h13 i x g.1 g.2.2, g.2.1]
    · rw [if_neg (by omega), if_neg (by omega), hE 11 i j x (by omega)]
      unfold mvS
      rw [if_neg (by omega), if_neg (by omega)]
  generalize ruI (riI S 4) (S0 9 0 0 0).toNat = S1 at a1 a2 a3
  have b1 : eqq drP S0 S1 := fun k i j m hk => by
    by_cases g6 : k = 6
    · subst g6; exact a2 i j m
    · by_cases g11 : k = 11
      · subst g11; exact a3 i j m
      · rw [a1 k i j m (by omega), b0 k i j m (by omega)]
  conv => whnf
  repeat' (first
    | (refine ⟨0, 0, ⟨by omega, by omega⟩, ?_⟩)
    | (refine ⟨fun h => ?_, fun h => ?_⟩ <;> (try simp (disch := omega) only [I_0, I_add, I_sub, I_mul, I_neg, I_nat, I_lt, I_le, I_eq, Int.toNat_natCast, ne_eq, not_true, not_false_iff, zt0, zt1, zI_at, zpi_I, zpl_I, zpd_I, zcp_I, cpI_k, Int.reduceToNat, zu_s, zu_k, zu_i, zu_j, zu_n] at h) <;> (try (exfalso; omega)) <;> conv => whnf)
    | (refine ⟨by first | rfl | assumption | exact zin1 rfl | exact Nat.le_of_ble_eq_true rfl | exact ⟨rfl, Or.inl rfl⟩ | exact ⟨rfl, Or.inr (Or.inl rfl)⟩ | exact ⟨rfl, Or.inr (Or.inr rfl)⟩ | exact ⟨Nat.le_of_ble_eq_true rfl, Nat.le_of_ble_eq_true rfl⟩ | exact trivial | omega | (simp (disch := omega) only [I_0, I_add, I_sub, I_mul, I_neg, I_nat, I_lt, I_le, I_eq, Int.toNat_natCast, ne_eq, not_true, not_false_iff, zt0, zt1, zI_at, zpi_I, zpl_I, zpd_I, zcp_I, cpI_k, Int.reduceToNat, zu_s, zu_k, zu_i, zu_j, zu_n, I_in, zarr, zin6, zin8, zin11, zin13, zin15, zin19, zin21, zin22, zin23, zin24, zin25, zin26, zin27, zin28, zin29, zin30, zin29s, zin30s, zin33, zin5, Nat.le_refl, and_self, Prod.mk.injEq, Nat.reduceEqDiff, false_and, not_false_iff]; done) | (simp (disch := omega) only [I_0, I_add, I_sub, I_mul, I_neg, I_nat, I_lt, I_le, I_eq, Int.toNat_natCast, ne_eq, not_true, not_false_iff, zt0, zt1, zI_at, zpi_I, zpl_I, zpd_I, zcp_I, cpI_k, Int.reduceToNat, zu_s, zu_k, zu_i, zu_j, zu_n, I_in, zarr, zin6, zin8, zin11, zin13, zin15, zin19, zin21, zin22, zin23, zin24, zin25, zin26, zin27, zin28, zin29, zin30, zin29s, zin30s, zin33, zin5, Nat.le_refl, and_self, Prod.mk.injEq, Nat.reduceEqDiff, false_and, not_false_iff] <;> omega), ?_⟩; conv => whnf)
    | (refine zif70 (by assumption) ?_; conv => whnf)
    | (refine ⟨_, rfl, ?_⟩; conv => whnf))
  refine zC_to (m_forgetValues h0 (by omega) (S := S1) (n := (S0 0 0 0 3).toNat) (by rw [b1 0 0 0 3 (by omega)]; omega) (by omega) ?_) (by (repeat' (first | exact trivial | (refine And.intro ?_ ?_) | (refine zvi ?_; first | (with_reducible rfl) | (simp (disch := omega) only [I_0, I_add, I_sub, I_mul, I_neg, I_nat, I_lt, I_le, I_eq, Int.toNat_natCast, ne_eq, not_true, not_false_iff, zt0, zt1, zI_at, zpi_I, zpl_I, zpd_I, zcp_I, cpI_k, Int.reduceToNat, zu_s, zu_k, zu_i, zu_j, zu_n]; done) | (simp (disch := omega) only [I_0, I_add, I_sub, I_mul, I_neg, I_nat, I_lt, I_le, I_eq, Int.toNat_natCast, ne_eq, not_true, not_false_iff, zt0, zt1, zI_at, zpi_I, zpl_I, zpd_I, zcp_I, cpI_k, Int.reduceToNat, zu_s, zu_k, zu_i, zu_j, zu_n]; first | omega | (congr 1; omega)) | (congr 1; omega)) | rfl | (simp (disch := omega) only [I_0, I_add, I_sub, I_mul, I_neg, I_nat, I_lt, I_le, I_eq, Int.toNat_natCast, ne_eq, not_true, not_false_iff, zt0, zt1, zI_at, zpi_I, zpl_I, zpd_I, zcp_I, cpI_k, Int.reduceToNat, zu_s, zu_k, zu_i, zu_j, zu_n]; done) | (refine zlk_r rfl ?_; simp (disch := omega) only [I_0, I_add, I_sub, I_mul, I_neg, I_nat, I_lt, I_le, I_eq, Int.toNat_natCast, ne_eq, not_true, not_false_iff, zt0, zt1, zI_at, zpi_I, zpl_I, zpd_I, zcp_I, cpI_k, Int.reduceToNat, zu_s, zu_k, zu_i, zu_j, zu_n]; done)))) rfl
  have c1 : eqq (fun k i j m => k = 27) S1 (fgI S1 (S0 0 0 0 3).toNat) := fun k i j m h => if_neg (by omega)
  have c2 : KV (fgI S1 (S0 0 0 0 3).toNat) := KV_fg (fun p th t' hp hth ht' h => by
    rw [b1 0 0 0 3 (by omega)] at h
    rw [a1 27 p th t' (by omega)]
    exact KV_no hV p th t' hp hth ht' (by omega)) (by rw [b1 0 0 0 3 (by omega)]; omega)
  generalize fgI S1 (S0 0 0 0 3).toNat = S2 at c1 c2
  have b2 : eqq drP S0 S2 := fun k i j m hk => by rw [c1 k i j m (by omega), b1 k i j m hk]
  have w1 : wfT S2 := by
    have q1 : ∀ n, S2 1 0 0 n = S0 1 0 0 n := fun n => b2 _ _ _ _ (by omega)
    have q2 : ∀ n, S2 2 0 0 n = S0 2 0 0 n := fun n => b2 _ _ _ _ (by omega)
    have q3 : ∀ n, S2 3 0 0 n = S0 3 0 0 n := fun n => b2 _ _ _ _ (by omega)
    have q6 : ∀ r n, S2 6 r 0 n = S0 6 r 0 n := fun r n => b2 _ _ _ _ (by omega)
    have hT := hS0.1.1
    unfold wfT at hT ⊢
    simp only [q1, q2, q3, q6]
    exact hT
  have w2 : invC S2 := by
    have q1 : ∀ n, S2 1 0 0 n = S0 1 0 0 n := fun n => b2 _ _ _ _ (by omega)
    have q9 : S2 9 0 0 0 = S0 9 0 0 0 := b2 _ _ _ _ (by omega)
    have q11 : ∀ c x, S2 11 c 0 x = S0 11 c 0 x := fun c x => b2 _ _ _ _ (by omega)
    have q15 : ∀ c x, S2 15 c 0 x = S0 15 c 0 x := fun c x => b2 _ _ _ _ (by omega)
    have e15 : (fun c s => S 15 c 0 s) = (fun c s => S0 15 c 0 s) := owI_f fun c s => b0 _ _ _ _ (by omega)
    have e15' : (fun c s => S2 15 c 0 s) = (fun c s => S0 15 c 0 s) := owI_f q15
    have hC := hS0.1.2.2.1
    have ho := hS.1.2.2.1.2.2.2.2.2.2
    rw [e15, f9] at ho
    unfold invC at hC ⊢
    rw [e15']
    simp only [q1, q9, q11, q15]
    refine ⟨hC.1, hC.2.1, hC.2.2.1, hC.2.2.2.1, hC.2.2.2.2.1, hC.2.2.2.2.2.1, fun c hc => ?_⟩
    have := ho c hc
    unfold ownI at this ⊢
    rw [c1 16 0 0 c (by omega), a1 16 0 0 c (by omega)]
    exact ⟨this.1, fun k hk => by rw [c1 19 c 0 k (by omega), a1 19 c 0 k (by omega)]; exact this.2 k hk⟩
  conv => whnf
  repeat' (first
    | (refine ⟨0, 0, ⟨by omega, by omega⟩, ?_⟩)
    | (refine ⟨fun h => ?_, fun h => ?_⟩ <;> (try simp (disch := omega) only [I_0, I_add, I_sub, I_mul, I_neg, I_nat, I_lt, I_le, I_eq, Int.toNat_natCast, ne_eq, not_true, not_false_iff, zt0, zt1, zI_at, zpi_I, zpl_I, zpd_I, zcp_I, cpI_k, Int.reduceToNat, zu_s, zu_k, zu_i, zu_j, zu_n] at h) <;> (try (exfalso; omega)) <;> conv => whnf)
    | (refine ⟨by first | rfl | assumption | exact zin1 rfl | exact Nat.le_of_ble_eq_true rfl | exact ⟨rfl, Or.inl rfl⟩ | exact ⟨rfl, Or.inr (Or.inl rfl)⟩ | exact ⟨rfl, Or.inr (Or.inr rfl)⟩ | exact ⟨Nat.le_of_ble_eq_true rfl, Nat.le_of_ble_eq_true rfl⟩ | exact trivial | omega | (simp (disch := omega) only [I_0, I_add, I_sub, I_mul, I_neg, I_nat, I_lt, I_le, I_eq, Int.toNat_natCast, ne_eq, not_true, not_false_iff, zt0, zt1, zI_at, zpi_I, zpl_I, zpd_I, zcp_I, cpI_k, Int.reduceToNat, zu_s, zu_k, zu_i, zu_j, zu_n, I_in, zarr, zin6, zin8, zin11, zin13, zin15, zin19, zin21, zin22, zin23, zin24, zin25, zin26, zin27, zin28, zin29, zin30, zin29s, zin30s, zin33, zin5, Nat.le_refl, and_self, Prod.mk.injEq, Nat.reduceEqDiff, false_and, not_false_iff]; done) | (simp (disch := omega) only [I_0, I_add, I_sub, I_mul, I_neg, I_nat, I_lt, I_le, I_eq, Int.toNat_natCast, ne_eq, not_true, not_false_iff, zt0, zt1, zI_at, zpi_I, zpl_I, zpd_I, zcp_I, cpI_k, Int.reduceToNat, zu_s, zu_k, zu_i, zu_j, zu_n, I_in, zarr, zin6, zin8, zin11, zin13, zin15, zin19, zin21, zin22, zin23, zin24, zin25, zin26, zin27, zin28, zin29, zin30, zin29s, zin30s, zin33, zin5, Nat.le_refl, and_self, Prod.mk.injEq, Nat.reduceEqDiff, false_and, not_false_iff] <;> omega), ?_⟩; conv => whnf)
    | (refine zif70 (by assumption) ?_; conv => whnf)
    | (refine ⟨_, rfl, ?_⟩; conv => whnf))
  refine zC_to (m_layOutPages h0 (by omega) (S := S2) (n := (S0 0 0 0 3).toNat) (by rw [b2 0 0 0 3 (by omega)]; omega) (by omega) (fun p hp => wfP_of w1 w2 ?_ ?_) w2.2.2.2.2.2.2 (fun G hG hr => ?_)) (by (repeat' (first | exact trivial | (refine And.intro ?_ ?_) | (refine zvi ?_; first | (with_reducible rfl) | (simp (disch := omega) only [I_0, I_add, I_sub, I_mul, I_neg, I_nat, I_lt, I_le, I_eq, Int.toNat_natCast, ne_eq, not_true, not_false_iff, zt0, zt1, zI_at, zpi_I, zpl_I, zpd_I, zcp_I, cpI_k, Int.reduceToNat, zu_s, zu_k, zu_i, zu_j, zu_n]; done) | (simp (disch := omega) only [I_0, I_add, I_sub, I_mul, I_neg, I_nat, I_lt, I_le, I_eq, Int.toNat_natCast, ne_eq, not_true, not_false_iff, zt0, zt1, zI_at, zpi_I, zpl_I, zpd_I, zcp_I, cpI_k, Int.reduceToNat, zu_s, zu_k, zu_i, zu_j, zu_n]; first | omega | (congr 1; omega)) | (congr 1; omega)) | rfl | (simp (disch := omega) only [I_0, I_add, I_sub, I_mul, I_neg, I_nat, I_lt, I_le, I_eq, Int.toNat_natCast, ne_eq, not_true, not_false_iff, zt0, zt1, zI_at, zpi_I, zpl_I, zpd_I, zcp_I, cpI_k, Int.reduceToNat, zu_s, zu_k, zu_i, zu_j, zu_n]; done) | (refine zlk_r rfl ?_; simp (disch := omega) only [I_0, I_add, I_sub, I_mul, I_neg, I_nat, I_lt, I_le, I_eq, Int.toNat_natCast, ne_eq, not_true, not_false_iff, zt0, zt1, zI_at, zpi_I, zpl_I, zpd_I, zcp_I, cpI_k, Int.reduceToNat, zu_s, zu_k, zu_i, zu_j, zu_n]; done)))) rfl
  · rw [b2 21 p 0 0 (by omega)]; exact (hP p (by omega)).1
  · intro x hx
    rw [b2 21 p 0 0 (by omega)] at hx
    rw [b2 22 p 0 x (by omega), b2 23 p 0 x (by omega), b2 9 0 0 0 (by omega)]
    exact (hP p (by omega)).2.1 x hx
  · have g1 : inv0 G := inv0_lay (S := S0) (S' := S2) (eqq_mono b2 (fun k i j m h => by omega)) hS0 (fun p hp hle => ?_) w1 w2 (by exact hG) hr
    · have g2 : KV G := KV_congr (S := S2) (fun k i j m hk => hG k i j m (by omega)) c2
      have hk := hk G g1 g2 (fun k i j m hk => by rw [hG k i j m (by omega), b2 k i j m hk])
      conv => whnf
      repeat' (first
        | (refine ⟨0, 0, ⟨by omega, by omega⟩, ?_⟩)
        | (refine ⟨fun h => ?_, fun h => ?_⟩ <;> (try simp (disch := omega) only [I_0, I_add, I_sub, I_mul, I_neg, I_nat, I_lt, I_le, I_eq, Int.toNat_natCast, ne_eq, not_true, not_false_iff, zt0, zt1, zI_at, zpi_I, zpl_I, zpd_I, zcp_I, cpI_k, Int.reduceToNat, zu_s, zu_k, zu_i, zu_j, zu_n] at h) <;> (try (exfalso; omega)) <;> conv => whnf)
        | (refine ⟨by first | rfl | assumption | exact zin1 rfl | exact Nat.le_of_ble_eq_true rfl | exact ⟨rfl, Or.inl rfl⟩ | exact ⟨rfl, Or.inr (Or.inl rfl)⟩ | exact ⟨rfl, Or.inr (Or.inr rfl)⟩ | exact ⟨Nat.le_of_ble_eq_true rfl, Nat.le_of_ble_eq_true rfl⟩ | exact trivial | omega | (simp (disch := omega) only [I_0, I_add, I_sub, I_mul, I_neg, I_nat, I_lt, I_le, I_eq, Int.toNat_natCast, ne_eq, not_true, not_false_iff, zt0, zt1, zI_at, zpi_I, zpl_I, zpd_I, zcp_I, cpI_k, Int.reduceToNat, zu_s, zu_k, zu_i, zu_j, zu_n, I_in, zarr, zin6, zin8, zin11, zin13, zin15, zin19, zin21, zin22, zin23, zin24, zin25, zin26, zin27, zin28, zin29, zin30, zin29s, zin30s, zin33, zin5, Nat.le_refl, and_self, Prod.mk.injEq, Nat.reduceEqDiff, false_and, not_false_iff]; done) | (simp (disch := omega) only [I_0, I_add, I_sub, I_mul, I_neg, I_nat, I_lt, I_le, I_eq, Int.toNat_natCast, ne_eq, not_true, not_false_iff, zt0, zt1, zI_at, zpi_I, zpl_I, zpd_I, zcp_I, cpI_k, Int.reduceToNat, zu_s, zu_k, zu_i, zu_j, zu_n, I_in, zarr, zin6, zin8, zin11, zin13, zin15, zin19, zin21, zin22, zin23, zin24, zin25, zin26, zin27, zin28, zin29, zin30, zin29s, zin30s, zin33, zin5, Nat.le_refl, and_self, Prod.mk.injEq, Nat.reduceEqDiff, false_and, not_false_iff] <;> omega), ?_⟩; conv => whnf)
        | (refine zif70 (by assumption) ?_; conv => whnf)
        | (refine ⟨_, rfl, ?_⟩; conv => whnf))
      exact hk
    · have z0 := (hS0.1.2.2.2.1 p hp).2.2.2.2.2.2 hle
      have z1 := (hS.1.2.2.2.1 p hp).2.2.2.2.2.2 (by omega)
      have r0 := (hS0.1.2.2.2.1 p hp).2.2.2.2.2.1.1
      have r1 := (hS.1.2.2.2.1 p hp).2.2.2.2.2.1.1
      rw [z0.1] at r0
      rw [z1.1] at r1
      rw [c1 21 p 0 5 (by omega), a1 21 p 0 5 (by omega), r0, r1]
      rfl
end MV
