/-! ===== a token added ===== -/
/-- a token more -/
def atS (S : zS) (n : Nat) (a b : Int) : zS := zu (zu (zu S 2 0 0 n a) 6 0 0 n b) 1 0 0 0 (n + 1)
theorem vlS_agree {S S' : zS} (hS : wfT S) (h : ∀ r t : Nat, (t : Int) < S 1 0 0 0 → S' 6 r 0 t = S 6 r 0 t) {ov ov' : Nat → Int} (ho : ∀ t, ov' t = ov t) {th : Nat} (hth : th < 3) : ∀ n t : Nat, (t : Int) < S 1 0 0 0 → vlS S' ov' th n t = vlS S ov th n t := by
  intro n
  induction n with
  | zero => intro t _; rfl
  | succ n ih =>
    intro t ht
    simp only [vlS, ho, h (th + 1) t ht, h 0 t ht]
    have w1 := hS.2.2.2.1 (th + 1) t (by omega) ht
    have w2 := hS.2.2.2.1 0 t (by omega) ht
    by_cases c1 : ov t ≠ -1
    · rw [if_pos c1, if_pos c1]
    · rw [if_neg c1, if_neg c1]
      by_cases c3 : (if S 6 (th + 1) 0 t = -1 then S 6 0 0 t else S 6 (th + 1) 0 t) < 100
      · rw [if_pos c3, if_pos c3]
      · rw [if_neg c3, if_neg c3]
        refine ih _ ?_
        by_cases c2 : S 6 (th + 1) 0 t = -1
        · rw [if_pos c2] at c3 ⊢
          rcases w2 with w | w | ⟨o, w, w3, w4⟩ <;> omega
        · rw [if_neg c2] at c3 ⊢
          rcases w1 with w | w | ⟨o, w, w3, w4⟩ <;> omega
theorem inv0_to {S S' : zS} {n0 : Nat} (h : eqq (fun k _ _ n => (k = 1 ∧ n = 0) ∨ k = 2 ∨ k = 6) S S') (hS : inv0 S) (h9 : S 1 0 0 0 ≤ S' 1 0 0 0) (hT : wfT S') : inv0 S' := by
  have e11' : ∀ i j, S' 1 i j 1 = S 1 i j 1 := fun i j => h _ _ _ _ (by omega)
  have e0 : ∀ i j n, S' 0 i j n = S 0 i j n := fun i j n => h _ _ _ _ (by omega)
  have e3 : ∀ i j n, S' 3 i j n = S 3 i j n := fun i j n => h _ _ _ _ (by omega)
  have e9 : ∀ i j n, S' 9 i j n = S 9 i j n := fun i j n => h _ _ _ _ (by omega)
  have e11 : ∀ i j n, S' 11 i j n = S 11 i j n := fun i j n => h _ _ _ _ (by omega)
  have e15 : ∀ i j n, S' 15 i j n = S 15 i j n := fun i j n => h _ _ _ _ (by omega)
  have e16 : ∀ i j n, S' 16 i j n = S 16 i j n := fun i j n => h _ _ _ _ (by omega)
  have e19 : ∀ i j n, S' 19 i j n = S 19 i j n := fun i j n => h _ _ _ _ (by omega)
  have e21 : ∀ i j n, S' 21 i j n = S 21 i j n := fun i j n => h _ _ _ _ (by omega)
  have e22 : ∀ i j n, S' 22 i j n = S 22 i j n := fun i j n => h _ _ _ _ (by omega)
  have e23 : ∀ i j n, S' 23 i j n = S 23 i j n := fun i j n => h _ _ _ _ (by omega)
  have e24 : ∀ i j n, S' 24 i j n = S 24 i j n := fun i j n => h _ _ _ _ (by omega)
  have e24' : ∀ i j, S' 24 i j = S 24 i j := fun i j => funext fun n => e24 i j n
  have e25 : ∀ i j n, S' 25 i j n = S 25 i j n := fun i j n => h _ _ _ _ (by omega)
  have e31 : ∀ i j n, S' 31 i j n = S 31 i j n := fun i j n => h _ _ _ _ (by omega)
  have e33 : ∀ i j n, S' 33 i j n = S 33 i j n := fun i j n => h _ _ _ _ (by omega)
  have e29 : ∀ i j n, S' 29 i j n = S 29 i j n := fun i j n => h _ _ _ _ (by omega)
  have e30 : ∀ i j n, S' 30 i j n = S 30 i j n := fun i j n => h _ _ _ _ (by omega)
  obtain ⟨⟨h1, h2, h3, h4, h6⟩, h7, h8⟩ := hS
  refine ⟨⟨hT, ?_, ?_, fun p hp => ?_, ?_⟩, fun p hp => ?_, ?_⟩
  · unfold wfL at h2 ⊢
    simp only [e31]
    exact h2
  · unfold invC ownI at h3 ⊢
    simp only [e9, e11, e15, e16, e19]
    exact ⟨h3.1, fun c x hc hx => by have := h3.2.1 c x hc hx; omega, h3.2.2⟩
  · have h4 := h4 p hp
    have t11 := tkI_congr (S := S) (S' := S') (fun c x => e11 c 0 x)
    unfold invP1 rgI at h4 ⊢
    simp only [e0, e9, e21, e22, e23, e24, e24', e25, t11, pgP_congr e15 e22 e23]
    exact ⟨h4.1, h4.2.1, h4.2.2.1, fun t ht hn => h4.2.2.2.1 t ht (by omega), h4.2.2.2.2⟩
  · unfold invN at h6 ⊢
    simp only [e0, e11', e33]
    exact h6
  · have h7 := h7 p hp
    unfold invP2 at h7 ⊢
    simp only [e11', e21, e29]
    exact h7
  · unfold invV at h8 ⊢
    simp only [e29, e30]
    exact h8
/-- no successor yet, no override in the row of none -/
def invU (S : zS) : Prop := (∀ t : Nat, t < 12 → S 1 0 0 0 ≤ t → S 3 0 0 t = -1) ∧ ∀ t, t < 12 → S 4 0 0 t = -1
theorem atS_ok {S : zS} (hS : inv0 S) (hV : KV S) (hU : invU S) {n : Nat} (hn : S 1 0 0 0 = n) (hn2 : n < 12) {a b : Int} (ha : 0 ≤ a ∧ a ≤ 2) (hb : 0 ≤ b ∧ b ≤ 99) : inv0 (atS S n a b) ∧ KV (atS S n a b) := by
  have hE : eqq (fun k _ _ n => (k = 1 ∧ n = 0) ∨ k = 2 ∨ k = 6) S (atS S n a b) := fun k i j m hk => by
    unfold atS zu
    rw [if_neg (by omega), if_neg (by omega), if_neg (by omega)]
  have e10 : atS S n a b 1 0 0 0 = n + 1 := zu_s
  have e11 : atS S n a b 1 0 0 1 = S 1 0 0 1 := hE _ _ _ _ (by omega)
  have e2 : ∀ t, t ≠ n → atS S n a b 2 0 0 t = S 2 0 0 t := fun t ht => by unfold atS; rw [zu_k (by decide), zu_k (by decide), zu_n ht]
  have e2n : atS S n a b 2 0 0 n = a := by unfold atS; rw [zu_k (by decide), zu_k (by decide), zu_s]
  have e6 : ∀ r t, ¬ (r = 0 ∧ t = n) → atS S n a b 6 r 0 t = S 6 r 0 t := fun r t ht => by
    unfold atS zu
    rw [if_neg (by omega), if_neg (by omega), if_neg (by omega)]
  have e6n : atS S n a b 6 0 0 n = b := by unfold atS; rw [zu_k (by decide), zu_s]
  have e3 : ∀ t, atS S n a b 3 0 0 t = S 3 0 0 t := fun t => hE _ _ _ _ (by omega)
  have hT : wfT (atS S n a b) := by
    obtain ⟨h1, h2, h3, h4, h5, h6⟩ := hS.1.1
    unfold wfT
    rw [e10, e11]
    refine ⟨by omega, h2, fun t ht => ?_, fun r t hr ht => ?_, fun r t hr ht hle => ?_, fun t ht => ?_⟩
    · by_cases c : t = n
      · subst c; rw [e2n]; exact ha
      · rw [e2 t c]; exact h3 t ht
    · by_cases c : t = n
      · subst c
        by_cases c2 : r = 0
        · subst c2; rw [e6n]; exact Or.inr (Or.inl hb)
        · rw [e6 r t (by omega)]
          exact Or.inl ⟨h5 r t hr (by omega) (by omega), c2⟩
      · rw [e6 r t (by omega)]
        rcases h4 r t hr (by omega) with g | g | ⟨o, g1, g2, g3⟩
        · exact Or.inl g
        · exact Or.inr (Or.inl g)
        · exact Or.inr (Or.inr ⟨o, g1, by omega, by rw [e2 t c, e2 o (by omega)]; exact g3⟩)
    · rw [e6 r t (by omega)]
      exact h5 r t hr ht (by omega)
    · rw [e3]
      rcases h6 t ht with g | ⟨g1, g2, g3⟩
      · exact Or.inl g
      · refine Or.inr ⟨g1, by omega, ?_⟩
        rw [e2 (S 3 0 0 t).toNat (by omega)]
        by_cases c : t = n
        · have := hU.1 t ht (by omega)
          omega
        · rw [e2 t c]; exact g3
  refine ⟨inv0_to (n0 := n) hE hS (by rw [e10]; omega) hT, fun p th t hp hth ht => ?_⟩
  rw [hE 27 p th t (by omega), hE 0 0 0 3 (by omega), e10, e11]
  rcases hV p th t hp hth ht with g | g
  · exact Or.inl g
  · refine Or.inr ⟨by omega, g.2.1, g.2.2.1, ?_⟩
    rw [vlS_agree hS.1.1 (fun r t' ht' => e6 r t' (by omega)) (fun t' => hE _ _ _ _ (by omega)) hth 3 t g.1]
    exact g.2.2.2
section AT
variable {E : zEn} {d mc ms : Nat} {kr : Option zV → zM → Prop} {kx : String → zM → Prop} {l : Nat → Nat → Nat → Nat → Int64} {δ : Nat → Nat → Nat → Nat → UInt64} {S : zS}
theorem m_addToken (h0 : zOk E) (hd : 1 ≤ d) {n : Nat} (hn : S 1 0 0 0 = n) (hn2 : n < 12) {a b : Int} (ha : 0 ≤ a ∧ a ≤ 2) (hb : 0 ≤ b ∧ b ≤ 99) (hk : kr (some (.inl (.int (I n)))) (zMI (atS S n a b) l δ))
    : zC E zm_X6_addToken d mc ms [.inr (0, 0, 0), .inl (.int (I a)), .inl (.int (I b))] (zMI S l δ) kr kx := by
  refine zC_of h0 (by decide +kernel) (Nat.le_of_ble_eq_true rfl) (Or.inl rfl) (zJ_cut h0 100 1000 zo_X6_addToken rfl fun K hK => ?_)
  conv => whnf
  repeat' (first
    | (refine ⟨0, 0, ⟨by omega, by omega⟩, ?_⟩)
    | (refine ⟨fun h => ?_, fun h => ?_⟩ <;> (try simp (disch := omega) only [I_0, I_add, I_sub, I_mul, I_neg, I_nat, I_lt, I_le, I_eq, Int.toNat_natCast, ne_eq, not_true, not_false_iff, zt0, zt1, zI_at, zpi_I, zpl_I, zpd_I, zcp_I, cpI_k, Int.reduceToNat, zu_s, zu_k, zu_i, zu_j, zu_n] at h) <;> (try (exfalso; omega)) <;> conv => whnf)
    | (refine ⟨by first | rfl | assumption | exact zin1 rfl | exact Nat.le_of_ble_eq_true rfl | exact ⟨rfl, Or.inl rfl⟩ | exact ⟨rfl, Or.inr (Or.inl rfl)⟩ | exact ⟨rfl, Or.inr (Or.inr rfl)⟩ | exact ⟨Nat.le_of_ble_eq_true rfl, Nat.le_of_ble_eq_true rfl⟩ | exact trivial | omega | (simp (disch := omega) only [I_0, I_add, I_sub, I_mul, I_neg, I_nat, I_lt, I_le, I_eq, Int.toNat_natCast, ne_eq, not_true, not_false_iff, zt0, zt1, zI_at, zpi_I, zpl_I, zpd_I, zcp_I, cpI_k, Int.reduceToNat, zu_s, zu_k, zu_i, zu_j, zu_n, I_in, zarr, zin6, zin8, zin11, zin13, zin15, zin19, zin21, zin22, zin23, zin24, zin25, zin26, zin27, zin28, zin29, zin30, zin29s, zin30s, zin33, zin5, Nat.le_refl, and_self, Prod.mk.injEq, Nat.reduceEqDiff, false_and, not_false_iff]; done) | (simp (disch := omega) only [I_0, I_add, I_sub, I_mul, I_neg, I_nat, I_lt, I_le, I_eq, Int.toNat_natCast, ne_eq, not_true, not_false_iff, zt0, zt1, zI_at, zpi_I, zpl_I, zpd_I, zcp_I, cpI_k, Int.reduceToNat, zu_s, zu_k, zu_i, zu_j, zu_n, I_in, zarr, zin6, zin8, zin11, zin13, zin15, zin19, zin21, zin22, zin23, zin24, zin25, zin26, zin27, zin28, zin29, zin30, zin29s, zin30s, zin33, zin5, Nat.le_refl, and_self, Prod.mk.injEq, Nat.reduceEqDiff, false_and, not_false_iff] <;> omega), ?_⟩; conv => whnf)
    | (refine zif70 (by assumption) ?_; conv => whnf)
    | (refine ⟨_, rfl, ?_⟩; conv => whnf))
  refine zC_to (m_needRange h0 (x := a) (a := 0) (b := 2) (by omega) (by omega) (by omega) ?_) (by (repeat' (first | exact trivial | (refine And.intro ?_ ?_) | (refine zvi ?_; first | (with_reducible rfl) | (simp (disch := omega) only [I_0, I_add, I_sub, I_mul, I_neg, I_nat, I_lt, I_le, I_eq, Int.toNat_natCast, ne_eq, not_true, not_false_iff, zt0, zt1, zI_at, zpi_I, zpl_I, zpd_I, zcp_I, cpI_k, Int.reduceToNat, zu_s, zu_k, zu_i, zu_j, zu_n]; done) | (simp (disch := omega) only [I_0, I_add, I_sub, I_mul, I_neg, I_nat, I_lt, I_le, I_eq, Int.toNat_natCast, ne_eq, not_true, not_false_iff, zt0, zt1, zI_at, zpi_I, zpl_I, zpd_I, zcp_I, cpI_k, Int.reduceToNat, zu_s, zu_k, zu_i, zu_j, zu_n]; first | omega | (congr 1; omega)) | (congr 1; omega)) | rfl | (simp (disch := omega) only [I_0, I_add, I_sub, I_mul, I_neg, I_nat, I_lt, I_le, I_eq, Int.toNat_natCast, ne_eq, not_true, not_false_iff, zt0, zt1, zI_at, zpi_I, zpl_I, zpd_I, zcp_I, cpI_k, Int.reduceToNat, zu_s, zu_k, zu_i, zu_j, zu_n]; done) | (refine zlk_r rfl ?_; simp (disch := omega) only [I_0, I_add, I_sub, I_mul, I_neg, I_nat, I_lt, I_le, I_eq, Int.toNat_natCast, ne_eq, not_true, not_false_iff, zt0, zt1, zI_at, zpi_I, zpl_I, zpd_I, zcp_I, cpI_k, Int.reduceToNat, zu_s, zu_k, zu_i, zu_j, zu_n]; done)))) rfl
  conv => whnf
  repeat' (first
    | (refine ⟨0, 0, ⟨by omega, by omega⟩, ?_⟩)
    | (refine ⟨fun h => ?_, fun h => ?_⟩ <;> (try simp (disch := omega) only [I_0, I_add, I_sub, I_mul, I_neg, I_nat, I_lt, I_le, I_eq, Int.toNat_natCast, ne_eq, not_true, not_false_iff, zt0, zt1, zI_at, zpi_I, zpl_I, zpd_I, zcp_I, cpI_k, Int.reduceToNat, zu_s, zu_k, zu_i, zu_j, zu_n] at h) <;> (try (exfalso; omega)) <;> conv => whnf)
    | (refine ⟨by first | rfl | assumption | exact zin1 rfl | exact Nat.le_of_ble_eq_true rfl | exact ⟨rfl, Or.inl rfl⟩ | exact ⟨rfl, Or.inr (Or.inl rfl)⟩ | exact ⟨rfl, Or.inr (Or.inr rfl)⟩ | exact ⟨Nat.le_of_ble_eq_true rfl, Nat.le_of_ble_eq_true rfl⟩ | exact trivial | omega | (simp (disch := omega) only [I_0, I_add, I_sub, I_mul, I_neg, I_nat, I_lt, I_le, I_eq, Int.toNat_natCast, ne_eq, not_true, not_false_iff, zt0, zt1, zI_at, zpi_I, zpl_I, zpd_I, zcp_I, cpI_k, Int.reduceToNat, zu_s, zu_k, zu_i, zu_j, zu_n, I_in, zarr, zin6, zin8, zin11, zin13, zin15, zin19, zin21, zin22, zin23, zin24, zin25, zin26, zin27, zin28, zin29, zin30, zin29s, zin30s, zin33, zin5, Nat.le_refl, and_self, Prod.mk.injEq, Nat.reduceEqDiff, false_and, not_false_iff]; done) | (simp (disch := omega) only [I_0, I_add, I_sub, I_mul, I_neg, I_nat, I_lt, I_le, I_eq, Int.toNat_natCast, ne_eq, not_true, not_false_iff, zt0, zt1, zI_at, zpi_I, zpl_I, zpd_I, zcp_I, cpI_k, Int.reduceToNat, zu_s, zu_k, zu_i, zu_j, zu_n, I_in, zarr, zin6, zin8, zin11, zin13, zin15, zin19, zin21, zin22, zin23, zin24, zin25, zin26, zin27, zin28, zin29, zin30, zin29s, zin30s, zin33, zin5, Nat.le_refl, and_self, Prod.mk.injEq, Nat.reduceEqDiff, false_and, not_false_iff] <;> omega), ?_⟩; conv => whnf)
    | (refine zif70 (by assumption) ?_; conv => whnf)
    | (refine ⟨_, rfl, ?_⟩; conv => whnf))
  refine zC_to (m_needRange h0 (x := b) (a := 0) (b := 99) (by omega) (by omega) (by omega) ?_) (by (repeat' (first | exact trivial | (refine And.intro ?_ ?_) | (refine zvi ?_; first | (with_reducible rfl) | (simp (disch := omega) only [I_0, I_add, I_sub, I_mul, I_neg, I_nat, I_lt, I_le, I_eq, Int.toNat_natCast, ne_eq, not_true, not_false_iff, zt0, zt1, zI_at, zpi_I, zpl_I, zpd_I, zcp_I, cpI_k, Int.reduceToNat, zu_s, zu_k, zu_i, zu_j, zu_n]; done) | (simp (disch := omega) only [I_0, I_add, I_sub, I_mul, I_neg, I_nat, I_lt, I_le, I_eq, Int.toNat_natCast, ne_eq, not_true, not_false_iff, zt0, zt1, zI_at, zpi_I, zpl_I, zpd_I, zcp_I, cpI_k, Int.reduceToNat, zu_s, zu_k, zu_i, zu_j, zu_n]; first | omega | (congr 1; omega)) | (congr 1; omega)) | rfl | (simp (disch := omega) only [I_0, I_add, I_sub, I_mul, I_neg, I_nat, I_lt, I_le, I_eq, Int.toNat_natCast, ne_eq, not_true, not_false_iff, zt0, zt1, zI_at, zpi_I, zpl_I, zpd_I, zcp_I, cpI_k, Int.reduceToNat, zu_s, zu_k, zu_i, zu_j, zu_n]; done) | (refine zlk_r rfl ?_; simp (disch := omega) only [I_0, I_add, I_sub, I_mul, I_neg, I_nat, I_lt, I_le, I_eq, Int.toNat_natCast, ne_eq, not_true, not_false_iff, zt0, zt1, zI_at, zpi_I, zpl_I, zpd_I, zcp_I, cpI_k, Int.reduceToNat, zu_s, zu_k, zu_i, zu_j, zu_n]; done)))) rfl
  conv => whnf
  repeat' (first
    | (refine ⟨0, 0, ⟨by omega, by omega⟩, ?_⟩)
    | (refine ⟨fun h => ?_, fun h => ?_⟩ <;> (try simp (disch := omega) only [I_0, I_add, I_sub, I_mul, I_neg, I_nat, I_lt, I_le, I_eq, Int.toNat_natCast, ne_eq, not_true, not_false_iff, zt0, zt1, zI_at, zpi_I, zpl_I, zpd_I, zcp_I, cpI_k, Int.reduceToNat, zu_s, zu_k, zu_i, zu_j, zu_n, hn] at h) <;> (try (exfalso; omega)) <;> conv => whnf)
    | (refine ⟨by first | rfl | assumption | exact zin1 rfl | exact Nat.le_of_ble_eq_true rfl | exact ⟨rfl, Or.inl rfl⟩ | exact ⟨rfl, Or.inr (Or.inl rfl)⟩ | exact ⟨rfl, Or.inr (Or.inr rfl)⟩ | exact ⟨Nat.le_of_ble_eq_true rfl, Nat.le_of_ble_eq_true rfl⟩ | exact trivial | omega | (simp (disch := omega) only [I_0, I_add, I_sub, I_mul, I_neg, I_nat, I_lt, I_le, I_eq, Int.toNat_natCast, ne_eq, not_true, not_false_iff, zt0, zt1, zI_at, zpi_I, zpl_I, zpd_I, zcp_I, cpI_k, Int.reduceToNat, zu_s, zu_k, zu_i, zu_j, zu_n, I_in, zarr, zin6, zin8, zin11, zin13, zin15, zin19, zin21, zin22, zin23, zin24, zin25, zin26, zin27, zin28, zin29, zin30, zin29s, zin30s, zin33, zin5, Nat.le_refl, and_self, Prod.mk.injEq, Nat.reduceEqDiff, false_and, not_false_iff, hn]; done) | (simp (disch := omega) only [I_0, I_add, I_sub, I_mul, I_neg, I_nat, I_lt, I_le, I_eq, Int.toNat_natCast, ne_eq, not_true, not_false_iff, zt0, zt1, zI_at, zpi_I, zpl_I, zpd_I, zcp_I, cpI_k, Int.reduceToNat, zu_s, zu_k, zu_i, zu_j, zu_n, I_in, zarr, zin6, zin8, zin11, zin13, zin15, zin19, zin21, zin22, zin23, zin24, zin25, zin26, zin27, zin28, zin29, zin30, zin29s, zin30s, zin33, zin5, Nat.le_refl, and_self, Prod.mk.injEq, Nat.reduceEqDiff, false_and, not_false_iff, hn] <;> omega), ?_⟩; conv => whnf)
    | (refine zif70 (by assumption) ?_; conv => whnf)
    | (refine ⟨_, rfl, ?_⟩; conv => whnf))
  refine zC_to (m_needRoom h0 (x := n) (a := 12) (by omega) (by omega) (by omega) ?_) (by (repeat' (first | exact trivial | (refine And.intro ?_ ?_) | (refine zvi ?_; first | (with_reducible rfl) | (simp (disch := omega) only [I_0, I_add, I_sub, I_mul, I_neg, I_nat, I_lt, I_le, I_eq, Int.toNat_natCast, ne_eq, not_true, not_false_iff, zt0, zt1, zI_at, zpi_I, zpl_I, zpd_I, zcp_I, cpI_k, Int.reduceToNat, zu_s, zu_k, zu_i, zu_j, zu_n, hn]; done) | (simp (disch := omega) only [I_0, I_add, I_sub, I_mul, I_neg, I_nat, I_lt, I_le, I_eq, Int.toNat_natCast, ne_eq, not_true, not_false_iff, zt0, zt1, zI_at, zpi_I, zpl_I, zpd_I, zcp_I, cpI_k, Int.reduceToNat, zu_s, zu_k, zu_i, zu_j, zu_n, hn]; first | omega | (congr 1; omega)) | (congr 1; omega)) | rfl | (simp (disch := omega) only [I_0, I_add, I_sub, I_mul, I_neg, I_nat, I_lt, I_le, I_eq, Int.toNat_natCast, ne_eq, not_true, not_false_iff, zt0, zt1, zI_at, zpi_I, zpl_I, zpd_I, zcp_I, cpI_k, Int.reduceToNat, zu_s, zu_k, zu_i, zu_j, zu_n, hn]; done) | (refine zlk_r rfl ?_; simp (disch := omega) only [I_0, I_add, I_sub, I_mul, I_neg, I_nat, I_lt, I_le, I_eq, Int.toNat_natCast, ne_eq, not_true, not_false_iff, zt0, zt1, zI_at, zpi_I, zpl_I, zpd_I, zcp_I, cpI_k, Int.reduceToNat, zu_s, zu_k, zu_i, zu_j, zu_n, hn]; done)))) rfl
  conv => whnf
  repeat' (first
    | (refine ⟨0, 0, ⟨by omega, by omega⟩, ?_⟩)
    | (refine ⟨fun h => ?_, fun h => ?_⟩ <;> (try simp (disch := omega) only [I_0, I_add, I_sub, I_mul, I_neg, I_nat, I_lt, I_le, I_eq, Int.toNat_natCast, ne_eq, not_true, not_false_iff, zt0, zt1, zI_at, zpi_I, zpl_I, zpd_I, zcp_I, cpI_k, Int.reduceToNat, zu_s, zu_k, zu_i, zu_j, zu_n] at h) <;> (try (exfalso; omega)) <;> conv => whnf)
    | (refine ⟨by first | rfl | assumption | exact zin1 rfl | exact Nat.le_of_ble_eq_true rfl | exact ⟨rfl, Or.inl rfl⟩ | exact ⟨rfl, Or.inr (Or.inl rfl)⟩ | exact ⟨rfl, Or.inr (Or.inr rfl)⟩ | exact ⟨Nat.le_of_ble_eq_true rfl, Nat.le_of_ble_eq_true rfl⟩ | exact trivial | omega | (simp (disch := omega) only [I_0, I_add, I_sub, I_mul, I_neg, I_nat, I_lt, I_le, I_eq, Int.toNat_natCast, ne_eq, not_true, not_false_iff, zt0, zt1, zI_at, zpi_I, zpl_I, zpd_I, zcp_I, cpI_k, Int.reduceToNat, zu_s, zu_k, zu_i, zu_j, zu_n, I_in, zarr, zin6, zin8, zin11, zin13, zin15, zin19, zin21, zin22, zin23, zin24, zin25, zin26, zin27, zin28, zin29, zin30, zin29s, zin30s, zin33, zin5, Nat.le_refl, and_self, Prod.mk.injEq, Nat.reduceEqDiff, false_and, not_false_iff]; done) | (simp (disch := omega) only [I_0, I_add, I_sub, I_mul, I_neg, I_nat, I_lt, I_le, I_eq, Int.toNat_natCast, ne_eq, not_true, not_false_iff, zt0, zt1, zI_at, zpi_I, zpl_I, zpd_I, zcp_I, cpI_k, Int.reduceToNat, zu_s, zu_k, zu_i, zu_j, zu_n, I_in, zarr, zin6, zin8, zin11, zin13, zin15, zin19, zin21, zin22, zin23, zin24, zin25, zin26, zin27, zin28, zin29, zin30, zin29s, zin30s, zin33, zin5, Nat.le_refl, and_self, Prod.mk.injEq, Nat.reduceEqDiff, false_and, not_false_iff] <;> omega), ?_⟩; conv => whnf)
    | (refine zif70 (by assumption) ?_; conv => whnf)
    | (refine ⟨_, rfl, ?_⟩; conv => whnf))
  refine zC_to (m_X4_append h0 hn hn2 (a := a) (b := b) ?_) (by (repeat' (first | exact trivial | (refine And.intro ?_ ?_) | (refine zvi ?_; first | (with_reducible rfl) | (simp (disch := omega) only [I_0, I_add, I_sub, I_mul, I_neg, I_nat, I_lt, I_le, I_eq, Int.toNat_natCast, ne_eq, not_true, not_false_iff, zt0, zt1, zI_at, zpi_I, zpl_I, zpd_I, zcp_I, cpI_k, Int.reduceToNat, zu_s, zu_k, zu_i, zu_j, zu_n]; done) | (simp (disch := omega) only [I_0, I_add, I_sub, I_mul, I_neg, I_nat, I_lt, I_le, I_eq, Int.toNat_natCast, ne_eq, not_true, not_false_iff, zt0, zt1, zI_at, zpi_I, zpl_I, zpd_I, zcp_I, cpI_k, Int.reduceToNat, zu_s, zu_k, zu_i, zu_j, zu_n]; first | omega | (congr 1; omega)) | (congr 1; omega)) | rfl | (simp (disch := omega) only [I_0, I_add, I_sub, I_mul, I_neg, I_nat, I_lt, I_le, I_eq, Int.toNat_natCast, ne_eq, not_true, not_false_iff, zt0, zt1, zI_at, zpi_I, zpl_I, zpd_I, zcp_I, cpI_k, Int.reduceToNat, zu_s, zu_k, zu_i, zu_j, zu_n]; done) | (refine zlk_r rfl ?_; simp (disch := omega) only [I_0, I_add, I_sub, I_mul, I_neg, I_nat, I_lt, I_le, I_eq, Int.toNat_natCast, ne_eq, not_true, not_false_iff, zt0, zt1, zI_at, zpi_I, zpl_I, zpd_I, zcp_I, cpI_k, Int.reduceToNat, zu_s, zu_k, zu_i, zu_j, zu_n]; done)))) rfl
  conv => whnf
  repeat' (first
    | (refine ⟨0, 0, ⟨by omega, by omega⟩, ?_⟩)
    | (refine ⟨fun h => ?_, fun h => ?_⟩ <;> (try simp (disch := omega) only [I_0, I_add, I_sub, I_mul, I_neg, I_nat, I_lt, I_le, I_eq, Int.toNat_natCast, ne_eq, not_true, not_false_iff, zt0, zt1, zI_at, zpi_I, zpl_I, zpd_I, zcp_I, cpI_k, Int.reduceToNat, zu_s, zu_k, zu_i, zu_j, zu_n] at h) <;> (try (exfalso; omega)) <;> conv => whnf)
    | (refine ⟨by first | rfl | assumption | exact zin1 rfl | exact Nat.le_of_ble_eq_true rfl | exact ⟨rfl, Or.inl rfl⟩ | exact ⟨rfl, Or.inr (Or.inl rfl)⟩ | exact ⟨rfl, Or.inr (Or.inr rfl)⟩ | exact ⟨Nat.le_of_ble_eq_true rfl, Nat.le_of_ble_eq_true rfl⟩ | exact trivial | omega | (simp (disch := omega) only [I_0, I_add, I_sub, I_mul, I_neg, I_nat, I_lt, I_le, I_eq, Int.toNat_natCast, ne_eq, not_true, not_false_iff, zt0, zt1, zI_at, zpi_I, zpl_I, zpd_I, zcp_I, cpI_k, Int.reduceToNat, zu_s, zu_k, zu_i, zu_j, zu_n, I_in, zarr, zin6, zin8, zin11, zin13, zin15, zin19, zin21, zin22, zin23, zin24, zin25, zin26, zin27, zin28, zin29, zin30, zin29s, zin30s, zin33, zin5, Nat.le_refl, and_self, Prod.mk.injEq, Nat.reduceEqDiff, false_and, not_false_iff]; done) | (simp (disch := omega) only [I_0, I_add, I_sub, I_mul, I_neg, I_nat, I_lt, I_le, I_eq, Int.toNat_natCast, ne_eq, not_true, not_false_iff, zt0, zt1, zI_at, zpi_I, zpl_I, zpd_I, zcp_I, cpI_k, Int.reduceToNat, zu_s, zu_k, zu_i, zu_j, zu_n, I_in, zarr, zin6, zin8, zin11, zin13, zin15, zin19, zin21, zin22, zin23, zin24, zin25, zin26, zin27, zin28, zin29, zin30, zin29s, zin30s, zin33, zin5, Nat.le_refl, and_self, Prod.mk.injEq, Nat.reduceEqDiff, false_and, not_false_iff] <;> omega), ?_⟩; conv => whnf)
    | (refine zif70 (by assumption) ?_; conv => whnf)
    | (refine ⟨_, rfl, ?_⟩; conv => whnf))
  exact hk
end AT
