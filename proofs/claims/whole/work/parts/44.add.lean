/-! ===== a theme, a page, a successor ===== -/
theorem inv0_th {S S' : zS} (h : eqq (fun k _ _ n => k = 1 ∧ n = 1) S S') (hS : inv0 S) (h9 : S 1 0 0 1 ≤ S' 1 0 0 1 ∧ S' 1 0 0 1 ≤ 3) : inv0 S' := by
  have e10 : ∀ i j, S' 1 i j 0 = S 1 i j 0 := fun i j => h _ _ _ _ (by omega)
  have e0 : ∀ i j n, S' 0 i j n = S 0 i j n := fun i j n => h _ _ _ _ (by omega)
  have e2 : ∀ i j n, S' 2 i j n = S 2 i j n := fun i j n => h _ _ _ _ (by omega)
  have e3 : ∀ i j n, S' 3 i j n = S 3 i j n := fun i j n => h _ _ _ _ (by omega)
  have e6 : ∀ i j n, S' 6 i j n = S 6 i j n := fun i j n => h _ _ _ _ (by omega)
  have e9 : ∀ i j n, S' 9 i j n = S 9 i j n := fun i j n => h _ _ _ _ (by omega)
  have e11 : ∀ i j n, S' 11 i j n = S 11 i j n := fun i j n => h _ _ _ _ (by omega)
  have e15 : ∀ i j n, S' 15 i j n = S 15 i j n := fun i j n => h _ _ _ _ (by omega)
  have e16 : ∀ i j n, S' 16 i j n = S 16 i j n := fun i j n => h _ _ _ _ (by omega)
  have e19 : ∀ i j n, S' 19 i j n = S 19 i j n := fun i j n => h _ _ _ _ (by omega)
  have e21 : ∀ i j n, S' 21 i j n = S 21 i j n := fun i j n => h _ _ _ _ (by omega)
  have e22 : ∀ i j n, S' 22 i j n = S 22 i j n := fun i j n => h _ _ _ _ (by omega)
  have e23 : ∀ i j n, S' 23 i j n = S 23 i j n := fun i j n => h _ _ _ _ (by omega)
  have e24 : ∀ i j n, S' 24 i j n = S 24 i j n := fun i j n => h _ _ _ _ (by omega)
  have e24' : ∀ i j, S' 24 i j = S 24 i j := fun i j => funext fun n => e24 i j n
  have e25 : ∀ i j n, S' 25 i j n = S 25 i j n := fun i j n => h _ _ _ _ (by omega)
  have e31 : ∀ i j n, S' 31 i j n = S 31 i j n := fun i j n => h _ _ _ _ (by omega)
  have e33 : ∀ i j n, S' 33 i j n = S 33 i j n := fun i j n => h _ _ _ _ (by omega)
  have e29 : ∀ i j n, S' 29 i j n = S 29 i j n := fun i j n => h _ _ _ _ (by omega)
  have e30 : ∀ i j n, S' 30 i j n = S 30 i j n := fun i j n => h _ _ _ _ (by omega)
  obtain ⟨⟨h1, h2, h3, h4, h6⟩, h7, h8⟩ := hS
  refine ⟨⟨?_, ?_, ?_, fun p hp => ?_, ?_⟩, fun p hp => ?_, ?_⟩
  · unfold wfT at h1 ⊢
    simp only [e10, e2, e3, e6]
    exact ⟨h1.1, by have := h1.2.1; omega, h1.2.2⟩
  · unfold wfL at h2 ⊢
    simp only [e31]
    exact h2
  · unfold invC ownI at h3 ⊢
    simp only [e10, e9, e11, e15, e16, e19]
    exact h3
  · have h4 := h4 p hp
    have t11 := tkI_congr (S := S) (S' := S') (fun c x => e11 c 0 x)
    unfold invP1 rgI at h4 ⊢
    simp only [e0, e10, e9, e21, e22, e23, e24, e24', e25, t11, pgP_congr e15 e22 e23]
    exact h4
  · unfold invN at h6 ⊢
    simp only [e0, e33]
    exact ⟨h6.1, h6.2.1, fun s hs => by have := h6.2.2 s hs; omega⟩
  · have h7 := h7 p hp
    unfold invP2 at h7 ⊢
    simp only [e21, e29]
    exact ⟨h7.1, by have := h7.2.1; omega, h7.2.2⟩
  · unfold invV at h8 ⊢
    simp only [e29, e30]
    exact h8
theorem thS_ok {S : zS} (hS : inv0 S) (hV : KV S) {n : Nat} (hn : S 1 0 0 1 = n) (hn3 : n < 3) : inv0 (zu S 1 0 0 1 (n + 1)) ∧ KV (zu S 1 0 0 1 (n + 1)) := by
  have h : eqq (fun k _ _ n => k = 1 ∧ n = 1) S (zu S 1 0 0 1 (n + 1)) := fun k i j m hk => if_neg (by omega)
  refine ⟨inv0_th h hS (by rw [zu_s]; omega), fun p th t hp hth ht => ?_⟩
  rw [h 27 p th t (by omega), h 1 0 0 0 (by omega), h 0 0 0 3 (by omega), zu_s, vlS_congr (S := S) (ov := S 24 p 0) (fun r t => h _ _ _ _ (by omega)) (fun t => h _ _ _ _ (by omega)) 3 t]
  rcases hV p th t hp hth ht with g | g
  · exact Or.inl g
  · exact Or.inr ⟨g.1, by omega, g.2.2⟩
theorem inv0_pg {S S' : zS} (h : eqq (fun k _ _ n => k = 0 ∧ n = 3) S S') (hS : inv0 S) (h9 : S 0 0 0 3 ≤ S' 0 0 0 3 ∧ S' 0 0 0 3 ≤ 4) : inv0 S' := by
  have e06 : S' 0 0 0 6 = S 0 0 0 6 := h _ _ _ _ (by omega)
  have e1 : ∀ i j n, S' 1 i j n = S 1 i j n := fun i j n => h _ _ _ _ (by omega)
  have e2 : ∀ i j n, S' 2 i j n = S 2 i j n := fun i j n => h _ _ _ _ (by omega)
  have e3 : ∀ i j n, S' 3 i j n = S 3 i j n := fun i j n => h _ _ _ _ (by omega)
  have e6 : ∀ i j n, S' 6 i j n = S 6 i j n := fun i j n => h _ _ _ _ (by omega)
  have e9 : ∀ i j n, S' 9 i j n = S 9 i j n := fun i j n => h _ _ _ _ (by omega)
  have e11 : ∀ i j n, S' 11 i j n = S 11 i j n := fun i j n => h _ _ _ _ (by omega)
  have e15 : ∀ i j n, S' 15 i j n = S 15 i j n := fun i j n => h _ _ _ _ (by omega)
  have e16 : ∀ i j n, S' 16 i j n = S 16 i j n := fun i j n => h _ _ _ _ (by omega)
  have e19 : ∀ i j n, S' 19 i j n = S 19 i j n := fun i j n => h _ _ _ _ (by omega)
  have e21 : ∀ i j n, S' 21 i j n = S 21 i j n := fun i j n => h _ _ _ _ (by omega)
  have e22 : ∀ i j n, S' 22 i j n = S 22 i j n := fun i j n => h _ _ _ _ (by omega)
  have e23 : ∀ i j n, S' 23 i j n = S 23 i j n := fun i j n => h _ _ _ _ (by omega)
  have e24 : ∀ i j n, S' 24 i j n = S 24 i j n := fun i j n => h _ _ _ _ (by omega)
  have e24' : ∀ i j, S' 24 i j = S 24 i j := fun i j => funext fun n => e24 i j n
  have e25 : ∀ i j n, S' 25 i j n = S 25 i j n := fun i j n => h _ _ _ _ (by omega)
  have e31 : ∀ i j n, S' 31 i j n = S 31 i j n := fun i j n => h _ _ _ _ (by omega)
  have e33 : ∀ i j n, S' 33 i j n = S 33 i j n := fun i j n => h _ _ _ _ (by omega)
  have e29 : ∀ i j n, S' 29 i j n = S 29 i j n := fun i j n => h _ _ _ _ (by omega)
  have e30 : ∀ i j n, S' 30 i j n = S 30 i j n := fun i j n => h _ _ _ _ (by omega)
  obtain ⟨⟨h1, h2, h3, h4, h6⟩, h7, h8⟩ := hS
  refine ⟨⟨?_, ?_, ?_, fun p hp => ?_, ?_⟩, fun p hp => ?_, ?_⟩
  · unfold wfT at h1 ⊢
    simp only [e1, e2, e3, e6]
    exact h1
  · unfold wfL at h2 ⊢
    simp only [e31]
    exact h2
  · unfold invC ownI at h3 ⊢
    simp only [e1, e9, e11, e15, e16, e19]
    exact h3
  · have h4 := h4 p hp
    have t11 := tkI_congr (S := S) (S' := S') (fun c x => e11 c 0 x)
    unfold invP1 rgI at h4 ⊢
    simp only [e1, e9, e21, e22, e23, e24, e24', e25, t11, pgP_congr e15 e22 e23]
    exact ⟨h4.1, h4.2.1, h4.2.2.1, h4.2.2.2.1, h4.2.2.2.2.1, h4.2.2.2.2.2.1, fun g => h4.2.2.2.2.2.2 (by omega)⟩
  · unfold invN at h6 ⊢
    simp only [e06, e1, e33]
    exact ⟨by omega, h6.2.1, fun s hs => by have := h6.2.2 s hs; omega⟩
  · have h7 := h7 p hp
    unfold invP2 at h7 ⊢
    simp only [e1, e21, e29]
    exact h7
  · unfold invV at h8 ⊢
    simp only [e29, e30]
    exact h8
theorem pgS_ok {S : zS} (hS : inv0 S) (hV : KV S) {n : Nat} (hn : S 0 0 0 3 = n) (hn4 : n < 4) : inv0 (zu S 0 0 0 3 (n + 1)) ∧ KV (zu S 0 0 0 3 (n + 1)) := by
  have h : eqq (fun k _ _ n => k = 0 ∧ n = 3) S (zu S 0 0 0 3 (n + 1)) := fun k i j m hk => if_neg (by omega)
  refine ⟨inv0_pg h hS (by rw [zu_s]; omega), fun p th t hp hth ht => ?_⟩
  rw [h 27 p th t (by omega), h 1 0 0 0 (by omega), h 1 0 0 1 (by omega), zu_s, vlS_congr (S := S) (ov := S 24 p 0) (fun r t => h _ _ _ _ (by omega)) (fun t => h _ _ _ _ (by omega)) 3 t]
  rcases hV p th t hp hth ht with g | g
  · exact Or.inl g
  · exact Or.inr ⟨g.1, g.2.1, by omega, g.2.2.2⟩
section TP
variable {E : zEn} {d mc ms : Nat} {kr : Option zV → zM → Prop} {kx : String → zM → Prop} {l : Nat → Nat → Nat → Nat → Int64} {δ : Nat → Nat → Nat → Nat → UInt64} {S : zS}
theorem m_addTheme (h0 : zOk E) (hd : 6 ≤ d) (hS : inv0 S) (hV : KV S) {n : Nat} (hn : S 1 0 0 1 = n) (hn3 : n < 3) (hk : ∀ S', cqI (rpF (zu S 1 0 0 1 (n + 1)) (S 0 0 0 3).toNat).1 S' → kr (some (.inl (.int (I n)))) (zI S', zu l 0 0 0 7 (l 0 0 0 7 + (I (rpF (zu S 1 0 0 1 (n + 1)) (S 0 0 0 3).toNat).2).toInt64), δ, zR0, 176))
    : zC E zm_X6_addTheme d mc ms [.inr (0, 0, 0)] (zMI S l δ) kr kx := by
  obtain ⟨g1, g2⟩ := thS_ok hS hV hn hn3
  have g3 : zu S 1 0 0 1 ((n : Int) + 1) 0 0 0 3 = S 0 0 0 3 := zu_k (by decide)
  refine zC_of h0 (by decide +kernel) (Nat.le_of_ble_eq_true rfl) (Or.inl rfl) (zJ_cut h0 100 1000 zo_X6_addTheme rfl fun K hK => ?_)
  conv => whnf
  repeat' (first
    | (refine ⟨0, 0, ⟨by omega, by omega⟩, ?_⟩)
    | (refine ⟨fun h => ?_, fun h => ?_⟩ <;> (try simp (disch := omega) only [I_0, I_add, I_sub, I_mul, I_neg, I_nat, I_lt, I_le, I_eq, Int.toNat_natCast, ne_eq, not_true, not_false_iff, zt0, zt1, zI_at, zpi_I, zpl_I, zpd_I, zcp_I, cpI_k, Int.reduceToNat, zu_s, zu_k, zu_i, zu_j, zu_n, hn] at h) <;> (try (exfalso; omega)) <;> conv => whnf)
    | (refine ⟨by first | rfl | assumption | exact zin1 rfl | exact Nat.le_of_ble_eq_true rfl | exact ⟨rfl, Or.inl rfl⟩ | exact ⟨rfl, Or.inr (Or.inl rfl)⟩ | exact ⟨rfl, Or.inr (Or.inr rfl)⟩ | exact ⟨Nat.le_of_ble_eq_true rfl, Nat.le_of_ble_eq_true rfl⟩ | exact trivial | omega | (simp (disch := omega) only [I_0, I_add, I_sub, I_mul, I_neg, I_nat, I_lt, I_le, I_eq, Int.toNat_natCast, ne_eq, not_true, not_false_iff, zt0, zt1, zI_at, zpi_I, zpl_I, zpd_I, zcp_I, cpI_k, Int.reduceToNat, zu_s, zu_k, zu_i, zu_j, zu_n, I_in, zarr, zin6, zin8, zin11, zin13, zin15, zin19, zin21, zin22, zin23, zin24, zin25, zin26, zin27, zin28, zin29, zin30, zin29s, zin30s, zin33, zin5, Nat.le_refl, and_self, Prod.mk.injEq, Nat.reduceEqDiff, false_and, not_false_iff, hn]; done) | (simp (disch := omega) only [I_0, I_add, I_sub, I_mul, I_neg, I_nat, I_lt, I_le, I_eq, Int.toNat_natCast, ne_eq, not_true, not_false_iff, zt0, zt1, zI_at, zpi_I, zpl_I, zpd_I, zcp_I, cpI_k, Int.reduceToNat, zu_s, zu_k, zu_i, zu_j, zu_n, I_in, zarr, zin6, zin8, zin11, zin13, zin15, zin19, zin21, zin22, zin23, zin24, zin25, zin26, zin27, zin28, zin29, zin30, zin29s, zin30s, zin33, zin5, Nat.le_refl, and_self, Prod.mk.injEq, Nat.reduceEqDiff, false_and, not_false_iff, hn] <;> omega), ?_⟩; conv => whnf)
    | (refine zif70 (by assumption) ?_; conv => whnf)
    | (refine ⟨_, rfl, ?_⟩; conv => whnf))
  refine zC_to (m_needRoom h0 (x := n) (a := 3) (by omega) (by omega) (by omega) ?_) (by (repeat' (first | exact trivial | (refine And.intro ?_ ?_) | (refine zvi ?_; first | (with_reducible rfl) | (simp (disch := omega) only [I_0, I_add, I_sub, I_mul, I_neg, I_nat, I_lt, I_le, I_eq, Int.toNat_natCast, ne_eq, not_true, not_false_iff, zt0, zt1, zI_at, zpi_I, zpl_I, zpd_I, zcp_I, cpI_k, Int.reduceToNat, zu_s, zu_k, zu_i, zu_j, zu_n, hn]; done) | (simp (disch := omega) only [I_0, I_add, I_sub, I_mul, I_neg, I_nat, I_lt, I_le, I_eq, Int.toNat_natCast, ne_eq, not_true, not_false_iff, zt0, zt1, zI_at, zpi_I, zpl_I, zpd_I, zcp_I, cpI_k, Int.reduceToNat, zu_s, zu_k, zu_i, zu_j, zu_n, hn]; first | omega | (congr 1; omega)) | (congr 1; omega)) | rfl | (simp (disch := omega) only [I_0, I_add, I_sub, I_mul, I_neg, I_nat, I_lt, I_le, I_eq, Int.toNat_natCast, ne_eq, not_true, not_false_iff, zt0, zt1, zI_at, zpi_I, zpl_I, zpd_I, zcp_I, cpI_k, Int.reduceToNat, zu_s, zu_k, zu_i, zu_j, zu_n, hn]; done) | (refine zlk_r rfl ?_; simp (disch := omega) only [I_0, I_add, I_sub, I_mul, I_neg, I_nat, I_lt, I_le, I_eq, Int.toNat_natCast, ne_eq, not_true, not_false_iff, zt0, zt1, zI_at, zpi_I, zpl_I, zpd_I, zcp_I, cpI_k, Int.reduceToNat, zu_s, zu_k, zu_i, zu_j, zu_n, hn]; done)))) rfl
  conv => whnf
  repeat' (first
    | (refine ⟨0, 0, ⟨by omega, by omega⟩, ?_⟩)
    | (refine ⟨fun h => ?_, fun h => ?_⟩ <;> (try simp (disch := omega) only [I_0, I_add, I_sub, I_mul, I_neg, I_nat, I_lt, I_le, I_eq, Int.toNat_natCast, ne_eq, not_true, not_false_iff, zt0, zt1, zI_at, zpi_I, zpl_I, zpd_I, zcp_I, cpI_k, Int.reduceToNat, zu_s, zu_k, zu_i, zu_j, zu_n, hn] at h) <;> (try (exfalso; omega)) <;> conv => whnf)
    | (refine ⟨by first | rfl | assumption | exact zin1 rfl | exact Nat.le_of_ble_eq_true rfl | exact ⟨rfl, Or.inl rfl⟩ | exact ⟨rfl, Or.inr (Or.inl rfl)⟩ | exact ⟨rfl, Or.inr (Or.inr rfl)⟩ | exact ⟨Nat.le_of_ble_eq_true rfl, Nat.le_of_ble_eq_true rfl⟩ | exact trivial | omega | (simp (disch := omega) only [I_0, I_add, I_sub, I_mul, I_neg, I_nat, I_lt, I_le, I_eq, Int.toNat_natCast, ne_eq, not_true, not_false_iff, zt0, zt1, zI_at, zpi_I, zpl_I, zpd_I, zcp_I, cpI_k, Int.reduceToNat, zu_s, zu_k, zu_i, zu_j, zu_n, I_in, zarr, zin6, zin8, zin11, zin13, zin15, zin19, zin21, zin22, zin23, zin24, zin25, zin26, zin27, zin28, zin29, zin30, zin29s, zin30s, zin33, zin5, Nat.le_refl, and_self, Prod.mk.injEq, Nat.reduceEqDiff, false_and, not_false_iff, hn]; done) | (simp (disch := omega) only [I_0, I_add, I_sub, I_mul, I_neg, I_nat, I_lt, I_le, I_eq, Int.toNat_natCast, ne_eq, not_true, not_false_iff, zt0, zt1, zI_at, zpi_I, zpl_I, zpd_I, zcp_I, cpI_k, Int.reduceToNat, zu_s, zu_k, zu_i, zu_j, zu_n, I_in, zarr, zin6, zin8, zin11, zin13, zin15, zin19, zin21, zin22, zin23, zin24, zin25, zin26, zin27, zin28, zin29, zin30, zin29s, zin30s, zin33, zin5, Nat.le_refl, and_self, Prod.mk.injEq, Nat.reduceEqDiff, false_and, not_false_iff, hn] <;> omega), ?_⟩; conv => whnf)
    | (refine zif70 (by assumption) ?_; conv => whnf)
    | (refine ⟨_, rfl, ?_⟩; conv => whnf))
  refine zC_to (m_repaint h0 (by omega) (S := zu S 1 0 0 1 (n + 1)) (l := l) (δ := δ) g1 g2 (fun S' hc => ?_)) (by (repeat' (first | exact trivial | (refine And.intro ?_ ?_) | (refine zvi ?_; first | (with_reducible rfl) | (simp (disch := omega) only [I_0, I_add, I_sub, I_mul, I_neg, I_nat, I_lt, I_le, I_eq, Int.toNat_natCast, ne_eq, not_true, not_false_iff, zt0, zt1, zI_at, zpi_I, zpl_I, zpd_I, zcp_I, cpI_k, Int.reduceToNat, zu_s, zu_k, zu_i, zu_j, zu_n]; done) | (simp (disch := omega) only [I_0, I_add, I_sub, I_mul, I_neg, I_nat, I_lt, I_le, I_eq, Int.toNat_natCast, ne_eq, not_true, not_false_iff, zt0, zt1, zI_at, zpi_I, zpl_I, zpd_I, zcp_I, cpI_k, Int.reduceToNat, zu_s, zu_k, zu_i, zu_j, zu_n]; first | omega | (congr 1; omega)) | (congr 1; omega)) | rfl | (simp (disch := omega) only [I_0, I_add, I_sub, I_mul, I_neg, I_nat, I_lt, I_le, I_eq, Int.toNat_natCast, ne_eq, not_true, not_false_iff, zt0, zt1, zI_at, zpi_I, zpl_I, zpd_I, zcp_I, cpI_k, Int.reduceToNat, zu_s, zu_k, zu_i, zu_j, zu_n]; done) | (refine zlk_r rfl ?_; simp (disch := omega) only [I_0, I_add, I_sub, I_mul, I_neg, I_nat, I_lt, I_le, I_eq, Int.toNat_natCast, ne_eq, not_true, not_false_iff, zt0, zt1, zI_at, zpi_I, zpl_I, zpd_I, zcp_I, cpI_k, Int.reduceToNat, zu_s, zu_k, zu_i, zu_j, zu_n]; done)))) (by (first | rfl | (simp (disch := omega) only [I_0, I_add, I_sub, I_mul, I_neg, I_nat, I_lt, I_le, I_eq, Int.toNat_natCast, ne_eq, not_true, not_false_iff, zt0, zt1, zI_at, zpi_I, zpl_I, zpd_I, zcp_I, cpI_k, Int.reduceToNat, zu_s, zu_k, zu_i, zu_j, zu_n, hn]; done) | (simp (disch := omega) only [I_0, I_add, I_sub, I_mul, I_neg, I_nat, I_lt, I_le, I_eq, Int.toNat_natCast, ne_eq, not_true, not_false_iff, zt0, zt1, zI_at, zpi_I, zpl_I, zpd_I, zcp_I, cpI_k, Int.reduceToNat, zu_s, zu_k, zu_i, zu_j, zu_n, hn]; rfl)))
  rw [g3] at hc ⊢
  have hk := hk S' hc
  conv => whnf
  repeat' (first
    | (refine ⟨0, 0, ⟨by omega, by omega⟩, ?_⟩)
    | (refine ⟨fun h => ?_, fun h => ?_⟩ <;> (try simp (disch := omega) only [I_0, I_add, I_sub, I_mul, I_neg, I_nat, I_lt, I_le, I_eq, Int.toNat_natCast, ne_eq, not_true, not_false_iff, zt0, zt1, zI_at, zpi_I, zpl_I, zpd_I, zcp_I, cpI_k, Int.reduceToNat, zu_s, zu_k, zu_i, zu_j, zu_n, hn] at h) <;> (try (exfalso; omega)) <;> conv => whnf)
    | (refine ⟨by first | rfl | assumption | exact zin1 rfl | exact Nat.le_of_ble_eq_true rfl | exact ⟨rfl, Or.inl rfl⟩ | exact ⟨rfl, Or.inr (Or.inl rfl)⟩ | exact ⟨rfl, Or.inr (Or.inr rfl)⟩ | exact ⟨Nat.le_of_ble_eq_true rfl, Nat.le_of_ble_eq_true rfl⟩ | exact trivial | omega | (simp (disch := omega) only [I_0, I_add, I_sub, I_mul, I_neg, I_nat, I_lt, I_le, I_eq, Int.toNat_natCast, ne_eq, not_true, not_false_iff, zt0, zt1, zI_at, zpi_I, zpl_I, zpd_I, zcp_I, cpI_k, Int.reduceToNat, zu_s, zu_k, zu_i, zu_j, zu_n, I_in, zarr, zin6, zin8, zin11, zin13, zin15, zin19, zin21, zin22, zin23, zin24, zin25, zin26, zin27, zin28, zin29, zin30, zin29s, zin30s, zin33, zin5, Nat.le_refl, and_self, Prod.mk.injEq, Nat.reduceEqDiff, false_and, not_false_iff, hn]; done) | (simp (disch := omega) only [I_0, I_add, I_sub, I_mul, I_neg, I_nat, I_lt, I_le, I_eq, Int.toNat_natCast, ne_eq, not_true, not_false_iff, zt0, zt1, zI_at, zpi_I, zpl_I, zpd_I, zcp_I, cpI_k, Int.reduceToNat, zu_s, zu_k, zu_i, zu_j, zu_n, I_in, zarr, zin6, zin8, zin11, zin13, zin15, zin19, zin21, zin22, zin23, zin24, zin25, zin26, zin27, zin28, zin29, zin30, zin29s, zin30s, zin33, zin5, Nat.le_refl, and_self, Prod.mk.injEq, Nat.reduceEqDiff, false_and, not_false_iff, hn] <;> omega), ?_⟩; conv => whnf)
    | (refine zif70 (by assumption) ?_; conv => whnf)
    | (refine ⟨_, rfl, ?_⟩; conv => whnf))
  simp (disch := omega) only [I_0, I_add, I_sub, I_mul, I_neg, I_nat, I_lt, I_le, I_eq, Int.toNat_natCast, ne_eq, not_true, not_false_iff, zt0, zt1, zI_at, zpi_I, zpl_I, zpd_I, zcp_I, cpI_k, Int.reduceToNat, zu_s, zu_k, zu_i, zu_j, zu_n, hn]
  exact hk
theorem m_addPage (h0 : zOk E) (hd : 1 ≤ d) {n : Nat} (hn : S 0 0 0 3 = n) (hn4 : n < 4) (hk : kr (some (.inl (.int (I n)))) (zMI (zu S 0 0 0 3 (n + 1)) l δ))
    : zC E zm_X6_addPage d mc ms [.inr (0, 0, 0)] (zMI S l δ) kr kx := by
  refine zC_of h0 (by decide +kernel) (Nat.le_of_ble_eq_true rfl) (Or.inl rfl) (zJ_cut h0 100 1000 zo_X6_addPage rfl fun K hK => ?_)
  conv => whnf
  repeat' (first
    | (refine ⟨0, 0, ⟨by omega, by omega⟩, ?_⟩)
    | (refine ⟨fun h => ?_, fun h => ?_⟩ <;> (try simp (disch := omega) only [I_0, I_add, I_sub, I_mul, I_neg, I_nat, I_lt, I_le, I_eq, Int.toNat_natCast, ne_eq, not_true, not_false_iff, zt0, zt1, zI_at, zpi_I, zpl_I, zpd_I, zcp_I, cpI_k, Int.reduceToNat, zu_s, zu_k, zu_i, zu_j, zu_n, hn] at h) <;> (try (exfalso; omega)) <;> conv => whnf)
    | (refine ⟨by first | rfl | assumption | exact zin1 rfl | exact Nat.le_of_ble_eq_true rfl | exact ⟨rfl, Or.inl rfl⟩ | exact ⟨rfl, Or.inr (Or.inl rfl)⟩ | exact ⟨rfl, Or.inr (Or.inr rfl)⟩ | exact ⟨Nat.le_of_ble_eq_true rfl, Nat.le_of_ble_eq_true rfl⟩ | exact trivial | omega | (simp (disch := omega) only [I_0, I_add, I_sub, I_mul, I_neg, I_nat, I_lt, I_le, I_eq, Int.toNat_natCast, ne_eq, not_true, not_false_iff, zt0, zt1, zI_at, zpi_I, zpl_I, zpd_I, zcp_I, cpI_k, Int.reduceToNat, zu_s, zu_k, zu_i, zu_j, zu_n, I_in, zarr, zin6, zin8, zin11, zin13, zin15, zin19, zin21, zin22, zin23, zin24, zin25, zin26, zin27, zin28, zin29, zin30, zin29s, zin30s, zin33, zin5, Nat.le_refl, and_self, Prod.mk.injEq, Nat.reduceEqDiff, false_and, not_false_iff, hn]; done) | (simp (disch := omega) only [I_0, I_add, I_sub, I_mul, I_neg, I_nat, I_lt, I_le, I_eq, Int.toNat_natCast, ne_eq, not_true, not_false_iff, zt0, zt1, zI_at, zpi_I, zpl_I, zpd_I, zcp_I, cpI_k, Int.reduceToNat, zu_s, zu_k, zu_i, zu_j, zu_n, I_in, zarr, zin6, zin8, zin11, zin13, zin15, zin19, zin21, zin22, zin23, zin24, zin25, zin26, zin27, zin28, zin29, zin30, zin29s, zin30s, zin33, zin5, Nat.le_refl, and_self, Prod.mk.injEq, Nat.reduceEqDiff, false_and, not_false_iff, hn] <;> omega), ?_⟩; conv => whnf)
    | (refine zif70 (by assumption) ?_; conv => whnf)
    | (refine ⟨_, rfl, ?_⟩; conv => whnf))
  refine zC_to (m_needRoom h0 (x := n) (a := 4) (by omega) (by omega) (by omega) ?_) (by (repeat' (first | exact trivial | (refine And.intro ?_ ?_) | (refine zvi ?_; first | (with_reducible rfl) | (simp (disch := omega) only [I_0, I_add, I_sub, I_mul, I_neg, I_nat, I_lt, I_le, I_eq, Int.toNat_natCast, ne_eq, not_true, not_false_iff, zt0, zt1, zI_at, zpi_I, zpl_I, zpd_I, zcp_I, cpI_k, Int.reduceToNat, zu_s, zu_k, zu_i, zu_j, zu_n, hn]; done) | (simp (disch := omega) only [I_0, I_add, I_sub, I_mul, I_neg, I_nat, I_lt, I_le, I_eq, Int.toNat_natCast, ne_eq, not_true, not_false_iff, zt0, zt1, zI_at, zpi_I, zpl_I, zpd_I, zcp_I, cpI_k, Int.reduceToNat, zu_s, zu_k, zu_i, zu_j, zu_n, hn]; first | omega | (congr 1; omega)) | (congr 1; omega)) | rfl | (simp (disch := omega) only [I_0, I_add, I_sub, I_mul, I_neg, I_nat, I_lt, I_le, I_eq, Int.toNat_natCast, ne_eq, not_true, not_false_iff, zt0, zt1, zI_at, zpi_I, zpl_I, zpd_I, zcp_I, cpI_k, Int.reduceToNat, zu_s, zu_k, zu_i, zu_j, zu_n, hn]; done) | (refine zlk_r rfl ?_; simp (disch := omega) only [I_0, I_add, I_sub, I_mul, I_neg, I_nat, I_lt, I_le, I_eq, Int.toNat_natCast, ne_eq, not_true, not_false_iff, zt0, zt1, zI_at, zpi_I, zpl_I, zpd_I, zcp_I, cpI_k, Int.reduceToNat, zu_s, zu_k, zu_i, zu_j, zu_n, hn]; done)))) rfl
  conv => whnf
  repeat' (first
    | (refine ⟨0, 0, ⟨by omega, by omega⟩, ?_⟩)
    | (refine ⟨fun h => ?_, fun h => ?_⟩ <;> (try simp (disch := omega) only [I_0, I_add, I_sub, I_mul, I_neg, I_nat, I_lt, I_le, I_eq, Int.toNat_natCast, ne_eq, not_true, not_false_iff, zt0, zt1, zI_at, zpi_I, zpl_I, zpd_I, zcp_I, cpI_k, Int.reduceToNat, zu_s, zu_k, zu_i, zu_j, zu_n, hn] at h) <;> (try (exfalso; omega)) <;> conv => whnf)
    | (refine ⟨by first | rfl | assumption | exact zin1 rfl | exact Nat.le_of_ble_eq_true rfl | exact ⟨rfl, Or.inl rfl⟩ | exact ⟨rfl, Or.inr (Or.inl rfl)⟩ | exact ⟨rfl, Or.inr (Or.inr rfl)⟩ | exact ⟨Nat.le_of_ble_eq_true rfl, Nat.le_of_ble_eq_true rfl⟩ | exact trivial | omega | (simp (disch := omega) only [I_0, I_add, I_sub, I_mul, I_neg, I_nat, I_lt, I_le, I_eq, Int.toNat_natCast, ne_eq, not_true, not_false_iff, zt0, zt1, zI_at, zpi_I, zpl_I, zpd_I, zcp_I, cpI_k, Int.reduceToNat, zu_s, zu_k, zu_i, zu_j, zu_n, I_in, zarr, zin6, zin8, zin11, zin13, zin15, zin19, zin21, zin22, zin23, zin24, zin25, zin26, zin27, zin28, zin29, zin30, zin29s, zin30s, zin33, zin5, Nat.le_refl, and_self, Prod.mk.injEq, Nat.reduceEqDiff, false_and, not_false_iff, hn]; done) | (simp (disch := omega) only [I_0, I_add, I_sub, I_mul, I_neg, I_nat, I_lt, I_le, I_eq, Int.toNat_natCast, ne_eq, not_true, not_false_iff, zt0, zt1, zI_at, zpi_I, zpl_I, zpd_I, zcp_I, cpI_k, Int.reduceToNat, zu_s, zu_k, zu_i, zu_j, zu_n, I_in, zarr, zin6, zin8, zin11, zin13, zin15, zin19, zin21, zin22, zin23, zin24, zin25, zin26, zin27, zin28, zin29, zin30, zin29s, zin30s, zin33, zin5, Nat.le_refl, and_self, Prod.mk.injEq, Nat.reduceEqDiff, false_and, not_false_iff, hn] <;> omega), ?_⟩; conv => whnf)
    | (refine zif70 (by assumption) ?_; conv => whnf)
    | (refine ⟨_, rfl, ?_⟩; conv => whnf))
  simp (disch := omega) only [I_0, I_add, I_sub, I_mul, I_neg, I_nat, I_lt, I_le, I_eq, Int.toNat_natCast, ne_eq, not_true, not_false_iff, zt0, zt1, zI_at, zpi_I, zpl_I, zpd_I, zcp_I, cpI_k, Int.reduceToNat, zu_s, zu_k, zu_i, zu_j, zu_n, hn]
  rw [show ((n : Int) + 1 - 1) = n by omega]
  exact hk
end TP
