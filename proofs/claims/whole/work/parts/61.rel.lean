/-! ===== what the calls change in the model, and refusals told as numbers ===== -/
abbrev zmP : Nat → Nat → Nat → Nat → Prop := fun k _ _ _ => 40 ≤ k ∧ k ≤ 66
theorem RM_dp {G0 G S : zS} (hR : RM G0 S) {r t : Nat} {v : Int} (hr : r < 4) (ht : (t : Int) < G0 1 0 0 0) (ht12 : G0 1 0 0 0 ≤ 12) (hG : eqq drP (dpS G0 r t v) G) : RM G (zu S 42 0 0 (12 * r + t) v) := by
  refine RM_gh (G := zu G0 6 r 0 t v) (fun k i j m hk => ?_) ?_
  · rw [hG k i j m (by omega)]
    unfold dpS fgI
    rw [if_neg (by omega)]
  · have h : eqq (fun k i j m => k = 6) G0 (zu G0 6 r 0 t v) := fun k i j m hk => zu_k hk
    have hS : eqq (fun k i j m => k = 42) S (zu S 42 0 0 (12 * r + t) v) := fun k i j m hk => zu_k hk
    have f1_0 : (zu G0 6 r 0 t v) 1 0 0 0 = G0 1 0 0 0 := h _ _ _ _ (by omega)
    have f1_1 : (zu G0 6 r 0 t v) 1 0 0 1 = G0 1 0 0 1 := h _ _ _ _ (by omega)
    have f0_3 : (zu G0 6 r 0 t v) 0 0 0 3 = G0 0 0 0 3 := h _ _ _ _ (by omega)
    have f0_6 : (zu G0 6 r 0 t v) 0 0 0 6 = G0 0 0 0 6 := h _ _ _ _ (by omega)
    have f9 : (zu G0 6 r 0 t v) 9 0 0 0 = G0 9 0 0 0 := h _ _ _ _ (by omega)
    have f31 : ∀ x1, (zu G0 6 r 0 t v) 31 0 0 x1 = G0 31 0 0 x1 := fun x1 => h _ _ _ _ (by omega)
    have f2 : ∀ x1, (zu G0 6 r 0 t v) 2 0 0 x1 = G0 2 0 0 x1 := fun x1 => h _ _ _ _ (by omega)
    have f3 : ∀ x1, (zu G0 6 r 0 t v) 3 0 0 x1 = G0 3 0 0 x1 := fun x1 => h _ _ _ _ (by omega)
    have f11 : ∀ x1 x2, (zu G0 6 r 0 t v) 11 x1 0 x2 = G0 11 x1 0 x2 := fun x1 x2 => h _ _ _ _ (by omega)
    have f15 : ∀ x1 x2, (zu G0 6 r 0 t v) 15 x1 0 x2 = G0 15 x1 0 x2 := fun x1 x2 => h _ _ _ _ (by omega)
    have f22 : ∀ x1 x2, (zu G0 6 r 0 t v) 22 x1 0 x2 = G0 22 x1 0 x2 := fun x1 x2 => h _ _ _ _ (by omega)
    have f23 : ∀ x1 x2, (zu G0 6 r 0 t v) 23 x1 0 x2 = G0 23 x1 0 x2 := fun x1 x2 => h _ _ _ _ (by omega)
    have f24 : ∀ x1 x2, (zu G0 6 r 0 t v) 24 x1 0 x2 = G0 24 x1 0 x2 := fun x1 x2 => h _ _ _ _ (by omega)
    have f33 : ∀ x1 x2, (zu G0 6 r 0 t v) 33 0 x1 x2 = G0 33 0 x1 x2 := fun x1 x2 => h _ _ _ _ (by omega)
    have f29 : ∀ x1 x2 x3, (zu G0 6 r 0 t v) 29 x1 x2 x3 = G0 29 x1 x2 x3 := fun x1 x2 x3 => h _ _ _ _ (by omega)
    have f30 : ∀ x1 x2 x3, (zu G0 6 r 0 t v) 30 x1 x2 x3 = G0 30 x1 x2 x3 := fun x1 x2 x3 => h _ _ _ _ (by omega)
    have f21_0 : ∀ x1, (zu G0 6 r 0 t v) 21 x1 0 0 = G0 21 x1 0 0 := fun x1 => h _ _ _ _ (by omega)
    have f21_8 : ∀ x1, (zu G0 6 r 0 t v) 21 x1 0 8 = G0 21 x1 0 8 := fun x1 => h _ _ _ _ (by omega)
    have f21_9 : ∀ x1, (zu G0 6 r 0 t v) 21 x1 0 9 = G0 21 x1 0 9 := fun x1 => h _ _ _ _ (by omega)
    have u0 : (zu S 42 0 0 (12 * r + t) v) 40 0 0 0 = S 40 0 0 0 := hS _ _ _ _ (by omega)
    have u4 : (zu S 42 0 0 (12 * r + t) v) 40 0 0 4 = S 40 0 0 4 := hS _ _ _ _ (by omega)
    have u5 : (zu S 42 0 0 (12 * r + t) v) 40 0 0 5 = S 40 0 0 5 := hS _ _ _ _ (by omega)
    have u10 : (zu S 42 0 0 (12 * r + t) v) 40 0 0 10 = S 40 0 0 10 := hS _ _ _ _ (by omega)
    have u19 : (zu S 42 0 0 (12 * r + t) v) 40 0 0 19 = S 40 0 0 19 := hS _ _ _ _ (by omega)
    have u20 : (zu S 42 0 0 (12 * r + t) v) 40 0 0 20 = S 40 0 0 20 := hS _ _ _ _ (by omega)
    have u21 : (zu S 42 0 0 (12 * r + t) v) 40 0 0 21 = S 40 0 0 21 := hS _ _ _ _ (by omega)
    have u22 : (zu S 42 0 0 (12 * r + t) v) 40 0 0 22 = S 40 0 0 22 := hS _ _ _ _ (by omega)
    have u41 : ∀ x1, (zu S 42 0 0 (12 * r + t) v) 41 0 0 x1 = S 41 0 0 x1 := fun x1 => hS _ _ _ _ (by omega)
    have u43 : ∀ x1, (zu S 42 0 0 (12 * r + t) v) 43 0 0 x1 = S 43 0 0 x1 := fun x1 => hS _ _ _ _ (by omega)
    have u44 : ∀ x1, (zu S 42 0 0 (12 * r + t) v) 44 0 0 x1 = S 44 0 0 x1 := fun x1 => hS _ _ _ _ (by omega)
    have u45 : ∀ x1, (zu S 42 0 0 (12 * r + t) v) 45 0 0 x1 = S 45 0 0 x1 := fun x1 => hS _ _ _ _ (by omega)
    have u46 : ∀ x1, (zu S 42 0 0 (12 * r + t) v) 46 0 0 x1 = S 46 0 0 x1 := fun x1 => hS _ _ _ _ (by omega)
    have u47 : ∀ x1, (zu S 42 0 0 (12 * r + t) v) 47 0 0 x1 = S 47 0 0 x1 := fun x1 => hS _ _ _ _ (by omega)
    have u48 : ∀ x1, (zu S 42 0 0 (12 * r + t) v) 48 0 0 x1 = S 48 0 0 x1 := fun x1 => hS _ _ _ _ (by omega)
    have u49 : ∀ x1, (zu S 42 0 0 (12 * r + t) v) 49 0 0 x1 = S 49 0 0 x1 := fun x1 => hS _ _ _ _ (by omega)
    have u50 : ∀ x1, (zu S 42 0 0 (12 * r + t) v) 50 0 0 x1 = S 50 0 0 x1 := fun x1 => hS _ _ _ _ (by omega)
    have u51 : ∀ x1, (zu S 42 0 0 (12 * r + t) v) 51 0 0 x1 = S 51 0 0 x1 := fun x1 => hS _ _ _ _ (by omega)
    have u52 : ∀ x1, (zu S 42 0 0 (12 * r + t) v) 52 0 0 x1 = S 52 0 0 x1 := fun x1 => hS _ _ _ _ (by omega)
    have u53 : ∀ x1, (zu S 42 0 0 (12 * r + t) v) 53 0 0 x1 = S 53 0 0 x1 := fun x1 => hS _ _ _ _ (by omega)
    have u54 : ∀ x1, (zu S 42 0 0 (12 * r + t) v) 54 0 0 x1 = S 54 0 0 x1 := fun x1 => hS _ _ _ _ (by omega)
    have u55 : ∀ x1, (zu S 42 0 0 (12 * r + t) v) 55 0 0 x1 = S 55 0 0 x1 := fun x1 => hS _ _ _ _ (by omega)
    have u56 : ∀ x1, (zu S 42 0 0 (12 * r + t) v) 56 0 0 x1 = S 56 0 0 x1 := fun x1 => hS _ _ _ _ (by omega)
    have u57 : ∀ x1, (zu S 42 0 0 (12 * r + t) v) 57 0 0 x1 = S 57 0 0 x1 := fun x1 => hS _ _ _ _ (by omega)
    have u58 : ∀ x1, (zu S 42 0 0 (12 * r + t) v) 58 0 0 x1 = S 58 0 0 x1 := fun x1 => hS _ _ _ _ (by omega)
    have u59 : ∀ x1, (zu S 42 0 0 (12 * r + t) v) 59 0 0 x1 = S 59 0 0 x1 := fun x1 => hS _ _ _ _ (by omega)
    obtain ⟨r1, r2, r3, r4, r5, r6, r7, r8, r9, r10, r11⟩ := hR
    refine ⟨?_, ?_, ?_, ?_, ?_, ?_, ?_, ?_, ?_, ?_, ?_⟩
    · simp only [f1_0, f1_1, f0_3, f0_6, f9, f31, f2, f3, f11, f15, f22, f23, f24, f33, f29, f30, f21_0, f21_8, f21_9, u0, u4, u5, u10, u19, u20, u21, u22, u41, u43, u44, u45, u46, u47, u48, u49, u50, u51, u52, u53, u54, u55, u56, u57, u58, u59]; exact r1
    · simp only [f1_0, f1_1, f0_3, f0_6, f9, f31, f2, f3, f11, f15, f22, f23, f24, f33, f29, f30, f21_0, f21_8, f21_9, u0, u4, u5, u10, u19, u20, u21, u22, u41, u43, u44, u45, u46, u47, u48, u49, u50, u51, u52, u53, u54, u55, u56, u57, u58, u59]; exact r2
    · intro r' t' hr' ht'
      rw [f1_0] at ht'
      by_cases c : r' = r ∧ t' = t
      · obtain ⟨rfl, rfl⟩ := c
        rw [zu_s, zu_s]
      · have e1 : zu G0 6 r 0 t v 6 r' 0 t' = G0 6 r' 0 t' := if_neg (by omega)
        rw [e1, zu_n (by omega)]
        exact r3 r' t' hr' ht'
    · simp only [f1_0, f1_1, f0_3, f0_6, f9, f31, f2, f3, f11, f15, f22, f23, f24, f33, f29, f30, f21_0, f21_8, f21_9, u0, u4, u5, u10, u19, u20, u21, u22, u41, u43, u44, u45, u46, u47, u48, u49, u50, u51, u52, u53, u54, u55, u56, u57, u58, u59]; exact r4
    · simp only [f1_0, f1_1, f0_3, f0_6, f9, f31, f2, f3, f11, f15, f22, f23, f24, f33, f29, f30, f21_0, f21_8, f21_9, u0, u4, u5, u10, u19, u20, u21, u22, u41, u43, u44, u45, u46, u47, u48, u49, u50, u51, u52, u53, u54, u55, u56, u57, u58, u59]; exact r5
    · simp only [f1_0, f1_1, f0_3, f0_6, f9, f31, f2, f3, f11, f15, f22, f23, f24, f33, f29, f30, f21_0, f21_8, f21_9, u0, u4, u5, u10, u19, u20, u21, u22, u41, u43, u44, u45, u46, u47, u48, u49, u50, u51, u52, u53, u54, u55, u56, u57, u58, u59]; exact r6
    · simp only [f1_0, f1_1, f0_3, f0_6, f9, f31, f2, f3, f11, f15, f22, f23, f24, f33, f29, f30, f21_0, f21_8, f21_9, u0, u4, u5, u10, u19, u20, u21, u22, u41, u43, u44, u45, u46, u47, u48, u49, u50, u51, u52, u53, u54, u55, u56, u57, u58, u59]; exact r7
    · simp only [f1_0, f1_1, f0_3, f0_6, f9, f31, f2, f3, f11, f15, f22, f23, f24, f33, f29, f30, f21_0, f21_8, f21_9, u0, u4, u5, u10, u19, u20, u21, u22, u41, u43, u44, u45, u46, u47, u48, u49, u50, u51, u52, u53, u54, u55, u56, u57, u58, u59]; exact r8
    · simp only [f1_0, f1_1, f0_3, f0_6, f9, f31, f2, f3, f11, f15, f22, f23, f24, f33, f29, f30, f21_0, f21_8, f21_9, u0, u4, u5, u10, u19, u20, u21, u22, u41, u43, u44, u45, u46, u47, u48, u49, u50, u51, u52, u53, u54, u55, u56, u57, u58, u59]; exact r9
    · simp only [f1_0, f1_1, f0_3, f0_6, f9, f31, f2, f3, f11, f15, f22, f23, f24, f33, f29, f30, f21_0, f21_8, f21_9, u0, u4, u5, u10, u19, u20, u21, u22, u41, u43, u44, u45, u46, u47, u48, u49, u50, u51, u52, u53, u54, u55, u56, u57, u58, u59]; exact r10
    · simp only [f1_0, f1_1, f0_3, f0_6, f9, f31, f2, f3, f11, f15, f22, f23, f24, f33, f29, f30, f21_0, f21_8, f21_9, u0, u4, u5, u10, u19, u20, u21, u22, u41, u43, u44, u45, u46, u47, u48, u49, u50, u51, u52, u53, u54, u55, u56, u57, u58, u59]; exact r11
/-- what a script's int may be -/
abbrev rgJ (a : Int) : Prop := -2147483648 ≤ a ∧ a < 2147483648
def rf_setValue (S : zS) (a b c : Int) : Nat := if ¬ ((a = -1 ∨ (0 ≤ a ∧ a < S 1 0 0 1)) ∧ 0 ≤ b ∧ b < S 1 0 0 0) then 1 else if ¬ (0 ≤ c ∧ c ≤ 99) then 2 else 0
def rf_setReference (S : zS) (a b c : Int) : Nat := if ¬ ((a = -1 ∨ (0 ≤ a ∧ a < S 1 0 0 1)) ∧ (0 ≤ b ∧ b < S 1 0 0 0) ∧ 0 ≤ c ∧ c < S 1 0 0 0) then 1 else if ¬ S 2 0 0 c.toNat < S 2 0 0 b.toNat then 2 else 0
def rf_drop (S : zS) (a b : Int) : Nat := if ¬ ((0 ≤ a ∧ a < S 1 0 0 1) ∧ 0 ≤ b ∧ b < S 1 0 0 0) then 1 else if S 6 (a.toNat + 1) 0 b.toNat = -1 then 2 else 0
def rf_value (S : zS) (a b : Int) : Nat := if ¬ ((0 ≤ a ∧ a < S 1 0 0 1) ∧ 0 ≤ b ∧ b < S 1 0 0 0) then 1 else 0
def rf_valueIn (S : zS) (a b c : Int) : Nat := if ¬ ((0 ≤ a ∧ a < S 1 0 0 1) ∧ (0 ≤ b ∧ b < S 0 0 0 3) ∧ 0 ≤ c ∧ c < S 1 0 0 0) then 1 else 0
section M7
variable {E : zEn} {d mc ms : Nat} {kr : Option zV → zM → Prop} {kx : String → zM → Prop} {l : Nat → Nat → Nat → Nat → Int64} {δ : Nat → Nat → Nat → Nat → UInt64} {S : zS}
theorem m_Y_defines (h0 : zOk E) (hd : 13 ≤ d) {G0 G : zS} (hR : RM G0 S) {r t : Nat} {v : Int} (hr : r < 4) (ht : (t : Int) < G0 1 0 0 0) (ht12 : G0 1 0 0 0 ≤ 12) (hI : inv0 G) (hG : eqq drP (dpS G0 r t v) G) (hk : ∀ S', eqq (fun k i j n => swP k i j n ∨ k = 42) S S' → RM (rpF G (G0 0 0 0 3).toNat).1 S' → kr (some (.inl (.int (I (rpF G (G0 0 0 0 3).toNat).2)))) (zI S', zu l 40 0 0 27 (l 40 0 0 27 + (I (rpF G (G0 0 0 0 3).toNat).2).toInt64), δ, zR0, 176))
    : zC E zm_X7_defines d mc ms [.inr (40, 0, 0), .inl (.int (I ((r : Int) - 1))), .inl (.int (I t)), .inl (.int (I v))] (zMI S l δ) kr kx := by
  have hR2 := RM_dp hR hr ht ht12 hG
  have e5 : ((12 : Int) * ((r : Int) - 1 + 1) + t).toNat = 12 * r + t := by omega
  have g3 : G 0 0 0 3 = G0 0 0 0 3 := by
    rw [hG 0 0 0 3 (by omega)]
    unfold dpS fgI
    rw [if_neg (by omega), zu_k (by decide)]
  refine zC_of h0 (by decide +kernel) (Nat.le_of_ble_eq_true rfl) (Or.inl rfl) (zJ_cut h0 100 1000 zo_X7_defines rfl fun K hK => ?_)
  conv => whnf
  repeat' (first
    | (refine ⟨0, 0, ⟨by omega, by omega⟩, ?_⟩)
    | (refine ⟨fun h => ?_, fun h => ?_⟩ <;> (try simp (disch := omega) only [I_0, I_add, I_sub, I_mul, I_neg, I_nat, I_lt, I_le, I_eq, Int.toNat_natCast, ne_eq, not_true, not_false_iff, zt0, zt1, zI_at, zpi_I, zpl_I, zpd_I, zcp_I, cpI_k, Int.reduceToNat, zu_s, zu_k, zu_i, zu_j, zu_n, e5] at h) <;> (try (exfalso; omega)) <;> conv => whnf)
    | (refine ⟨by first | rfl | assumption | exact zin1 rfl | exact Nat.le_of_ble_eq_true rfl | exact ⟨rfl, Or.inl rfl⟩ | exact ⟨rfl, Or.inr (Or.inl rfl)⟩ | exact ⟨rfl, Or.inr (Or.inr rfl)⟩ | exact ⟨Nat.le_of_ble_eq_true rfl, Nat.le_of_ble_eq_true rfl⟩ | exact trivial | omega | (simp (disch := omega) only [I_0, I_add, I_sub, I_mul, I_neg, I_nat, I_lt, I_le, I_eq, Int.toNat_natCast, ne_eq, not_true, not_false_iff, zt0, zt1, zI_at, zpi_I, zpl_I, zpd_I, zcp_I, cpI_k, Int.reduceToNat, zu_s, zu_k, zu_i, zu_j, zu_n, I_in, zarr, zin6, zin8, zin11, zin13, zin15, zin19, zin21, zin22, zin23, zin24, zin25, zin26, zin27, zin28, zin29, zin30, zin29s, zin30s, zin33, zin5, Nat.le_refl, and_self, Prod.mk.injEq, Nat.reduceEqDiff, false_and, not_false_iff, e5]; done) | (simp (disch := omega) only [I_0, I_add, I_sub, I_mul, I_neg, I_nat, I_lt, I_le, I_eq, Int.toNat_natCast, ne_eq, not_true, not_false_iff, zt0, zt1, zI_at, zpi_I, zpl_I, zpd_I, zcp_I, cpI_k, Int.reduceToNat, zu_s, zu_k, zu_i, zu_j, zu_n, I_in, zarr, zin6, zin8, zin11, zin13, zin15, zin19, zin21, zin22, zin23, zin24, zin25, zin26, zin27, zin28, zin29, zin30, zin29s, zin30s, zin33, zin5, Nat.le_refl, and_self, Prod.mk.injEq, Nat.reduceEqDiff, false_and, not_false_iff, e5] <;> omega), ?_⟩; conv => whnf)
    | (refine zif70 (by assumption) ?_; conv => whnf)
    | (refine ⟨_, rfl, ?_⟩; conv => whnf))
  refine zC_to (m_Y_paints h0 (by omega) (S := zu S 42 0 0 (12 * r + t) v) (l := l) (δ := δ) hI hR2 (fun S' q1 q2 => ?_)) (by (repeat' (first | exact trivial | (refine And.intro ?_ ?_) | (refine zvi ?_; first | (with_reducible rfl) | (simp (disch := omega) only [I_0, I_add, I_sub, I_mul, I_neg, I_nat, I_lt, I_le, I_eq, Int.toNat_natCast, ne_eq, not_true, not_false_iff, zt0, zt1, zI_at, zpi_I, zpl_I, zpd_I, zcp_I, cpI_k, Int.reduceToNat, zu_s, zu_k, zu_i, zu_j, zu_n]; done) | (simp (disch := omega) only [I_0, I_add, I_sub, I_mul, I_neg, I_nat, I_lt, I_le, I_eq, Int.toNat_natCast, ne_eq, not_true, not_false_iff, zt0, zt1, zI_at, zpi_I, zpl_I, zpd_I, zcp_I, cpI_k, Int.reduceToNat, zu_s, zu_k, zu_i, zu_j, zu_n]; first | omega | (congr 1; omega)) | (congr 1; omega)) | rfl | (simp (disch := omega) only [I_0, I_add, I_sub, I_mul, I_neg, I_nat, I_lt, I_le, I_eq, Int.toNat_natCast, ne_eq, not_true, not_false_iff, zt0, zt1, zI_at, zpi_I, zpl_I, zpd_I, zcp_I, cpI_k, Int.reduceToNat, zu_s, zu_k, zu_i, zu_j, zu_n]; done) | (refine zlk_r rfl ?_; simp (disch := omega) only [I_0, I_add, I_sub, I_mul, I_neg, I_nat, I_lt, I_le, I_eq, Int.toNat_natCast, ne_eq, not_true, not_false_iff, zt0, zt1, zI_at, zpi_I, zpl_I, zpd_I, zcp_I, cpI_k, Int.reduceToNat, zu_s, zu_k, zu_i, zu_j, zu_n]; done)))) (by (first | rfl | (simp (disch := omega) only [I_0, I_add, I_sub, I_mul, I_neg, I_nat, I_lt, I_le, I_eq, Int.toNat_natCast, ne_eq, not_true, not_false_iff, zt0, zt1, zI_at, zpi_I, zpl_I, zpd_I, zcp_I, cpI_k, Int.reduceToNat, zu_s, zu_k, zu_i, zu_j, zu_n, e5]; done) | (simp (disch := omega) only [I_0, I_add, I_sub, I_mul, I_neg, I_nat, I_lt, I_le, I_eq, Int.toNat_natCast, ne_eq, not_true, not_false_iff, zt0, zt1, zI_at, zpi_I, zpl_I, zpd_I, zcp_I, cpI_k, Int.reduceToNat, zu_s, zu_k, zu_i, zu_j, zu_n, e5]; rfl)))
  rw [g3] at q2 ⊢
  have hk := hk S' (eqq_trans (eqq_zu eqq_rfl (Or.inr rfl)) (eqq_mono q1 (fun k i j n h => Or.inl h))) q2
  conv => whnf
  repeat' (first
    | (refine ⟨0, 0, ⟨by omega, by omega⟩, ?_⟩)
    | (refine ⟨fun h => ?_, fun h => ?_⟩ <;> (try simp (disch := omega) only [I_0, I_add, I_sub, I_mul, I_neg, I_nat, I_lt, I_le, I_eq, Int.toNat_natCast, ne_eq, not_true, not_false_iff, zt0, zt1, zI_at, zpi_I, zpl_I, zpd_I, zcp_I, cpI_k, Int.reduceToNat, zu_s, zu_k, zu_i, zu_j, zu_n] at h) <;> (try (exfalso; omega)) <;> conv => whnf)
    | (refine ⟨by first | rfl | assumption | exact zin1 rfl | exact Nat.le_of_ble_eq_true rfl | exact ⟨rfl, Or.inl rfl⟩ | exact ⟨rfl, Or.inr (Or.inl rfl)⟩ | exact ⟨rfl, Or.inr (Or.inr rfl)⟩ | exact ⟨Nat.le_of_ble_eq_true rfl, Nat.le_of_ble_eq_true rfl⟩ | exact trivial | omega | (simp (disch := omega) only [I_0, I_add, I_sub, I_mul, I_neg, I_nat, I_lt, I_le, I_eq, Int.toNat_natCast, ne_eq, not_true, not_false_iff, zt0, zt1, zI_at, zpi_I, zpl_I, zpd_I, zcp_I, cpI_k, Int.reduceToNat, zu_s, zu_k, zu_i, zu_j, zu_n, I_in, zarr, zin6, zin8, zin11, zin13, zin15, zin19, zin21, zin22, zin23, zin24, zin25, zin26, zin27, zin28, zin29, zin30, zin29s, zin30s, zin33, zin5, Nat.le_refl, and_self, Prod.mk.injEq, Nat.reduceEqDiff, false_and, not_false_iff]; done) | (simp (disch := omega) only [I_0, I_add, I_sub, I_mul, I_neg, I_nat, I_lt, I_le, I_eq, Int.toNat_natCast, ne_eq, not_true, not_false_iff, zt0, zt1, zI_at, zpi_I, zpl_I, zpd_I, zcp_I, cpI_k, Int.reduceToNat, zu_s, zu_k, zu_i, zu_j, zu_n, I_in, zarr, zin6, zin8, zin11, zin13, zin15, zin19, zin21, zin22, zin23, zin24, zin25, zin26, zin27, zin28, zin29, zin30, zin29s, zin30s, zin33, zin5, Nat.le_refl, and_self, Prod.mk.injEq, Nat.reduceEqDiff, false_and, not_false_iff] <;> omega), ?_⟩; conv => whnf)
    | (refine zif70 (by assumption) ?_; conv => whnf)
    | (refine ⟨_, rfl, ?_⟩; conv => whnf))
  exact hk
end M7
