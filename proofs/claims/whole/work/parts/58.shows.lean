/-! ===== the model: painting ===== -/
theorem paP_id {G : zS} {p : Nat} (h : showsI G p) : paP G p (G 1 0 0 1).toNat = G := by
  funext k i j m
  unfold paP
  by_cases c1 : k = 21 ∧ i = p ∧ j = 0 ∧ m = 9
  · rw [if_pos c1]
    obtain ⟨rfl, rfl, rfl, rfl⟩ := c1
    exact h.1.symm
  · rw [if_neg c1]
    by_cases c2 : k = 29 ∧ i = p ∧ j < (G 1 0 0 1).toNat ∧ m = 0
    · rw [if_pos c2]
      obtain ⟨rfl, rfl, c2, rfl⟩ := c2
      exact (h.2 j (by omega)).1.symm
    · rw [if_neg c2]
      by_cases c3 : k = 30 ∧ i = p ∧ j < (G 1 0 0 1).toNat ∧ (m : Int) < 3 * G 21 p 0 5
      · rw [if_pos c3]
        obtain ⟨rfl, rfl, c3, c4⟩ := c3
        exact ((h.2 j (by omega)).2 m c4).symm
      · rw [if_neg c3]
/-- nothing new so far: in the first t themes and k places of the next -/
def swW (G : zS) (p t k : Nat) : Prop := G 21 p 0 9 = G 1 0 0 1 ∧ G 29 p 0 0 = G 21 p 0 5 ∧ (∀ th j : Nat, th < t → (j : Int) < 3 * G 21 p 0 5 → G 30 p th j = vaI G p th j) ∧ ∀ j : Nat, j < k → G 30 p t j = vaI G p t j
/-- what is written so far -/
def swM (G S S' : zS) (p t k : Nat) : Prop := (∀ th j : Nat, th < t → (j : Int) < 3 * G 21 p 0 5 → S' 55 0 0 (72 * (3 * p + th) + j) = vaI G p th j) ∧ (∀ j : Nat, j < k → S' 55 0 0 (72 * (3 * p + t) + j) = vaI G p t j) ∧ ∀ x : Nat, x < 216 * p ∨ 72 * (3 * p + t) + k ≤ x → S' 55 0 0 x = S 55 0 0 x
abbrev swP : Nat → Nat → Nat → Nat → Prop := fun k i j n => lyP k i j n ∨ k = 53 ∨ k = 54 ∨ k = 55
theorem RM_shows {G S S' : zS} (hR : RM G S) (hG : inv0 G) {p : Nat} (hp : p < 4) (h : eqq swP S S') (h53 : ∀ q, S' 53 0 0 q = if q = p then G 1 0 0 1 else S 53 0 0 q) (h54 : ∀ q, S' 54 0 0 q = if q = p then G 21 p 0 5 else S 54 0 0 q) (h55 : ∀ th j : Nat, (th : Int) < G 1 0 0 1 → (j : Int) < 3 * G 21 p 0 5 → S' 55 0 0 (72 * (3 * p + th) + j) = vaI G p th j) (h55' : ∀ x : Nat, x < 216 * p ∨ 216 * (p + 1) ≤ x → S' 55 0 0 x = S 55 0 0 x) : RM (paP G p (G 1 0 0 1).toNat) S' := by
  have hnh := hG.1.1.2.1
  have g := paP_sh G p (G 1 0 0 1).toNat
  have p9 : paP G p (G 1 0 0 1).toNat 21 p 0 9 = G 1 0 0 1 := by unfold paP; rw [if_pos ⟨rfl, rfl, rfl, rfl⟩]
  have p29 : ∀ th : Nat, (th : Int) < G 1 0 0 1 → paP G p (G 1 0 0 1).toNat 29 p th 0 = G 21 p 0 5 := fun th hth => by unfold paP; rw [if_neg (by omega), if_pos ⟨rfl, rfl, by omega, rfl⟩]
  have p30 : ∀ th k : Nat, (th : Int) < G 1 0 0 1 → (k : Int) < 3 * G 21 p 0 5 → paP G p (G 1 0 0 1).toNat 30 p th k = vaI G p th k := fun th k hth hk => by unfold paP; rw [if_neg (by omega), if_neg (by omega), if_pos ⟨rfl, rfl, by omega, hk⟩]
  have q9 : ∀ q, q ≠ p → paP G p (G 1 0 0 1).toNat 21 q 0 9 = G 21 q 0 9 := fun q hq => by unfold paP; rw [if_neg (by omega), if_neg (by omega), if_neg (by omega)]
  have q29 : ∀ q, q ≠ p → ∀ j n, paP G p (G 1 0 0 1).toNat 29 q j n = G 29 q j n := fun q hq j n => by unfold paP; rw [if_neg (by omega), if_neg (by omega), if_neg (by omega)]
  have q30 : ∀ q, q ≠ p → ∀ j n, paP G p (G 1 0 0 1).toNat 30 q j n = G 30 q j n := fun q hq j n => by unfold paP; rw [if_neg (by omega), if_neg (by omega), if_neg (by omega)]
  generalize paP G p (G 1 0 0 1).toNat = G' at g p9 p29 p30 q9 q29 q30
  have f10 : ∀ n, G' 1 0 0 n = G 1 0 0 n := fun n => g _ _ _ _ (by omega)
  have f9 : G' 9 0 0 0 = G 9 0 0 0 := g _ _ _ _ (by omega)
  have f0 : ∀ n, G' 0 0 0 n = G 0 0 0 n := fun n => g _ _ _ _ (by omega)
  have f31 : ∀ n, G' 31 0 0 n = G 31 0 0 n := fun n => g _ _ _ _ (by omega)
  have f2 : ∀ n, G' 2 0 0 n = G 2 0 0 n := fun n => g _ _ _ _ (by omega)
  have f3 : ∀ n, G' 3 0 0 n = G 3 0 0 n := fun n => g _ _ _ _ (by omega)
  have f6 : ∀ r n, G' 6 r 0 n = G 6 r 0 n := fun r n => g _ _ _ _ (by omega)
  have f11 : ∀ r n, G' 11 r 0 n = G 11 r 0 n := fun r n => g _ _ _ _ (by omega)
  have f15 : ∀ r n, G' 15 r 0 n = G 15 r 0 n := fun r n => g _ _ _ _ (by omega)
  have f210 : ∀ p, G' 21 p 0 0 = G 21 p 0 0 := fun p => g _ _ _ _ (by omega)
  have f218 : ∀ p, G' 21 p 0 8 = G 21 p 0 8 := fun p => g _ _ _ _ (by omega)
  have f22 : ∀ r n, G' 22 r 0 n = G 22 r 0 n := fun r n => g _ _ _ _ (by omega)
  have f23 : ∀ r n, G' 23 r 0 n = G 23 r 0 n := fun r n => g _ _ _ _ (by omega)
  have f24 : ∀ r n, G' 24 r 0 n = G 24 r 0 n := fun r n => g _ _ _ _ (by omega)
  have f33 : ∀ r n, G' 33 0 r n = G 33 0 r n := fun r n => g _ _ _ _ (by omega)
  have e41 : ∀ i j n, S' 41 i j n = S 41 i j n := fun i j n => h _ _ _ _ (by omega)
  have e42 : ∀ i j n, S' 42 i j n = S 42 i j n := fun i j n => h _ _ _ _ (by omega)
  have e43 : ∀ i j n, S' 43 i j n = S 43 i j n := fun i j n => h _ _ _ _ (by omega)
  have e44 : ∀ i j n, S' 44 i j n = S 44 i j n := fun i j n => h _ _ _ _ (by omega)
  have e45 : ∀ i j n, S' 45 i j n = S 45 i j n := fun i j n => h _ _ _ _ (by omega)
  have e46 : ∀ i j n, S' 46 i j n = S 46 i j n := fun i j n => h _ _ _ _ (by omega)
  have e47 : ∀ i j n, S' 47 i j n = S 47 i j n := fun i j n => h _ _ _ _ (by omega)
  have e48 : ∀ i j n, S' 48 i j n = S 48 i j n := fun i j n => h _ _ _ _ (by omega)
  have e49 : ∀ i j n, S' 49 i j n = S 49 i j n := fun i j n => h _ _ _ _ (by omega)
  have e50 : ∀ i j n, S' 50 i j n = S 50 i j n := fun i j n => h _ _ _ _ (by omega)
  have e51 : ∀ i j n, S' 51 i j n = S 51 i j n := fun i j n => h _ _ _ _ (by omega)
  have e52 : ∀ i j n, S' 52 i j n = S 52 i j n := fun i j n => h _ _ _ _ (by omega)
  have e56 : ∀ i j n, S' 56 i j n = S 56 i j n := fun i j n => h _ _ _ _ (by omega)
  have e57 : ∀ i j n, S' 57 i j n = S 57 i j n := fun i j n => h _ _ _ _ (by omega)
  have e58 : ∀ i j n, S' 58 i j n = S 58 i j n := fun i j n => h _ _ _ _ (by omega)
  have e59 : ∀ i j n, S' 59 i j n = S 59 i j n := fun i j n => h _ _ _ _ (by omega)
  have u0 := h 40 0 0 0 (by omega)
  have u4 := h 40 0 0 4 (by omega)
  have u5 := h 40 0 0 5 (by omega)
  have u10 := h 40 0 0 10 (by omega)
  have u19 := h 40 0 0 19 (by omega)
  have u20 := h 40 0 0 20 (by omega)
  have u21 := h 40 0 0 21 (by omega)
  have u22 := h 40 0 0 22 (by omega)
  obtain ⟨r1, r2, r3, r4, r5, r6, r7, r8, r9, r10, r11⟩ := hR
  refine ⟨?_, ?_, ?_, ?_, ?_, ?_, ?_, ?_, ?_, ?_, ?_⟩
  · simp only [f10, f9, f0, f31, u0, u4, u5, u10, u19, u20, u21, u22]; exact r1
  · simp only [f10, f2, f3, e41, e43]; exact r2
  · simp only [f10, f6, e42]; exact r3
  · simp only [f9, f11, e44, e45, e46]; exact r4
  · simp only [f9, f15, e47]; exact r5
  · intro q hq
    rw [e48, e52, h53, h54, f210, f218]
    by_cases c : q = p
    · subst c
      rw [if_pos rfl, if_pos rfl, p9, p29 0 (by omega)]
      exact ⟨(r6 q hq).1, (r6 q hq).2.1, rfl, rfl⟩
    · rw [if_neg c, if_neg c, q9 q c, q29 q c]
      exact r6 q hq
  · simp only [f210, f22, f23, e49, e50]; exact r7
  · simp only [f10, f24, e51]; exact r8
  · intro q th k hq hth hk
    by_cases c : q = p
    · subst c
      rw [p9] at hth
      rw [p29 0 (by omega)] at hk
      rw [p30 th k hth hk]
      exact h55 th k hth hk
    · rw [q9 q c] at hth
      rw [q29 q c] at hk
      have h2 := hG.2.1 q hq
      have h3 := (hG.2.2 q 0 (Or.inl ⟨hq, by omega⟩)).1
      have hth3 : th < 3 := by have := h2.2.1; omega
      rw [q30 q c, h55' (72 * (3 * q + th) + k) (by omega)]
      exact r9 q th k hq hth hk
  · intro s hs
    rw [f0] at hs
    rw [f33, f33, q29 4 (by omega), e56, e57, e58]
    exact r10 s hs
  · intro s k hs hk
    rw [f0] at hs
    rw [q29 4 (by omega)] at hk
    rw [q30 4 (by omega), e59]
    exact r11 s k hs hk
theorem divI : ∀ k : Nat, k < 72 → I k / I 3 = I (k / 3 : Nat) ∧ I k - I k / I 3 * I 3 = I (k % 3 : Nat) := by decide +kernel
section M4
variable {E : zEn} {d mc ms : Nat} {kr : Option zV → zM → Prop} {kx : String → zM → Prop} {l : Nat → Nat → Nat → Nat → Int64} {δ : Nat → Nat → Nat → Nat → UInt64} {S : zS}
theorem m_Y_shows (h0 : zOk E) (hd : 11 ≤ d) {G : zS} (hG : inv0 G) (hR : RM G S) {p : Nat} (hp : p < 4) (hk1 : ¬ showsI G p → ∀ S', eqq swP S S' → RM (paP G p (G 1 0 0 1).toNat) S' → kr (some (.inl (.int (I 1)))) (zMI S' l δ)) (hk0 : showsI G p → ∀ S', eqq swP S S' → RM G S' → kr (some (.inl (.int (I 0)))) (zMI S' l δ))
    : zC E zm_X7_shows d mc ms [.inr (40, 0, 0), .inl (.int (I p))] (zMI S l δ) kr kx := by
  have hnh := hG.1.1.2.1
  have hrg := (rg_tok hG.1 hp).1
  have h2 := hG.2.1 p hp
  have hv := (hG.2.2 p 0 (Or.inl ⟨hp, by omega⟩)).1
  obtain ⟨n, hn⟩ : ∃ n : Nat, G 21 p 0 5 = n := ⟨(G 21 p 0 5).toNat, by omega⟩
  have r6 := hR.2.2.2.2.2.1 p hp
  refine zC_of h0 (by decide +kernel) (Nat.le_of_ble_eq_true rfl) (Or.inl rfl) (zJ_cut h0 100 38 zo_X7_shows rfl fun K hK => ?_)
  conv => whnf
  repeat' (first
    | (refine ⟨0, 0, ⟨by omega, by omega⟩, ?_⟩)
    | (refine ⟨fun h => ?_, fun h => ?_⟩ <;> (try simp (disch := omega) only [I_0, I_add, I_sub, I_mul, I_neg, I_nat, I_lt, I_le, I_eq, Int.toNat_natCast, ne_eq, not_true, not_false_iff, zt0, zt1, zI_at, zpi_I, zpl_I, zpd_I, zcp_I, cpI_k, Int.reduceToNat, zu_s, zu_k, zu_i, zu_j, zu_n] at h) <;> (try (exfalso; omega)) <;> conv => whnf)
    | (refine ⟨by first | rfl | assumption | exact zin1 rfl | exact Nat.le_of_ble_eq_true rfl | exact ⟨rfl, Or.inl rfl⟩ | exact ⟨rfl, Or.inr (Or.inl rfl)⟩ | exact ⟨rfl, Or.inr (Or.inr rfl)⟩ | exact ⟨Nat.le_of_ble_eq_true rfl, Nat.le_of_ble_eq_true rfl⟩ | exact trivial | omega | (simp (disch := omega) only [I_0, I_add, I_sub, I_mul, I_neg, I_nat, I_lt, I_le, I_eq, Int.toNat_natCast, ne_eq, not_true, not_false_iff, zt0, zt1, zI_at, zpi_I, zpl_I, zpd_I, zcp_I, cpI_k, Int.reduceToNat, zu_s, zu_k, zu_i, zu_j, zu_n, I_in, zarr, zin6, zin8, zin11, zin13, zin15, zin19, zin21, zin22, zin23, zin24, zin25, zin26, zin27, zin28, zin29, zin30, zin29s, zin30s, zin33, zin5, Nat.le_refl, and_self, Prod.mk.injEq, Nat.reduceEqDiff, false_and, not_false_iff]; done) | (simp (disch := omega) only [I_0, I_add, I_sub, I_mul, I_neg, I_nat, I_lt, I_le, I_eq, Int.toNat_natCast, ne_eq, not_true, not_false_iff, zt0, zt1, zI_at, zpi_I, zpl_I, zpd_I, zcp_I, cpI_k, Int.reduceToNat, zu_s, zu_k, zu_i, zu_j, zu_n, I_in, zarr, zin6, zin8, zin11, zin13, zin15, zin19, zin21, zin22, zin23, zin24, zin25, zin26, zin27, zin28, zin29, zin30, zin29s, zin30s, zin33, zin5, Nat.le_refl, and_self, Prod.mk.injEq, Nat.reduceEqDiff, false_and, not_false_iff] <;> omega), ?_⟩; conv => whnf)
    | (refine zif70 (by assumption) ?_; conv => whnf)
    | (refine ⟨_, rfl, ?_⟩; conv => whnf))
  refine zC_to (m_Y_laysOut h0 hG.1 hR hp (by omega) (fun S1 q1 q2 => ?_)) (by (repeat' (first | exact trivial | (refine And.intro ?_ ?_) | (refine zvi ?_; first | (with_reducible rfl) | (simp (disch := omega) only [I_0, I_add, I_sub, I_mul, I_neg, I_nat, I_lt, I_le, I_eq, Int.toNat_natCast, ne_eq, not_true, not_false_iff, zt0, zt1, zI_at, zpi_I, zpl_I, zpd_I, zcp_I, cpI_k, Int.reduceToNat, zu_s, zu_k, zu_i, zu_j, zu_n]; done) | (simp (disch := omega) only [I_0, I_add, I_sub, I_mul, I_neg, I_nat, I_lt, I_le, I_eq, Int.toNat_natCast, ne_eq, not_true, not_false_iff, zt0, zt1, zI_at, zpi_I, zpl_I, zpd_I, zcp_I, cpI_k, Int.reduceToNat, zu_s, zu_k, zu_i, zu_j, zu_n]; first | omega | (congr 1; omega)) | (congr 1; omega)) | rfl | (simp (disch := omega) only [I_0, I_add, I_sub, I_mul, I_neg, I_nat, I_lt, I_le, I_eq, Int.toNat_natCast, ne_eq, not_true, not_false_iff, zt0, zt1, zI_at, zpi_I, zpl_I, zpd_I, zcp_I, cpI_k, Int.reduceToNat, zu_s, zu_k, zu_i, zu_j, zu_n]; done) | (refine zlk_r rfl ?_; simp (disch := omega) only [I_0, I_add, I_sub, I_mul, I_neg, I_nat, I_lt, I_le, I_eq, Int.toNat_natCast, ne_eq, not_true, not_false_iff, zt0, zt1, zI_at, zpi_I, zpl_I, zpd_I, zcp_I, cpI_k, Int.reduceToNat, zu_s, zu_k, zu_i, zu_j, zu_n]; done)))) rfl
  have hR1 : RM G S1 := RM_sc (eqq_mono q1 (fun k i j n h => by omega)) hR
  have outer : ∀ m t : Nat, (t : Int) + m = G 1 0 0 1 → ∀ (S' : zS) (b : Int), (b = 0 ∨ b = 1) → (b = 0 ↔ swW G p t 0) → eqq (fun k i j n => lyP k i j n ∨ k = 55) S S' → ldF G S' p → swM G S S' p t 0 → zJ E zm_X7_shows d mc ms kr kx 38 [(0, .inr (40, 0, 0)), (1, .inl (.int (I p))), (2, .inl (.int (I n))), (3, .inl (.int (I b))), (4, .inl (.int (I t)))] [] (zMI S' l δ) (0, 0) := by
    intro m
    induction m with
    | zero =>
      intro t ht S' b hb hbw hS' hl hM
      have e4 : S' 40 0 0 4 = G 1 0 0 1 := (hS' _ _ _ _ (by omega)).trans hR.1.2.1
      have hRM : RM (paP G p (G 1 0 0 1).toNat) (zu (zu S' 53 0 0 p (G 1 0 0 1)) 54 0 0 p n) := by
        refine RM_shows hR hG hp (eqq_zu (eqq_zu (eqq_mono hS' (fun k i j n h => by omega)) (by omega)) (by omega)) (fun q => ?_) (fun q => ?_) (fun th j hth hj => ?_) (fun x hx => ?_)
        · rw [zu_k (by decide)]
          by_cases c : q = p
          · subst c; rw [zu_s, if_pos rfl]
          · rw [zu_n c, if_neg c]; exact hS' _ _ _ _ (by omega)
        · by_cases c : q = p
          · subst c; rw [zu_s, if_pos rfl, hn]
          · rw [zu_n c, if_neg c, zu_k (by decide)]; exact hS' _ _ _ _ (by omega)
        · rw [zu_k (by decide), zu_k (by decide)]
          exact hM.1 th j (by omega) hj
        · rw [zu_k (by decide), zu_k (by decide)]
          exact hM.2.2 x (by omega)
      have hE : eqq swP S (zu (zu S' 53 0 0 p (G 1 0 0 1)) 54 0 0 p n) := eqq_zu (eqq_zu (eqq_mono hS' (fun k i j n h => by omega)) (by omega)) (by omega)
      have hsw : swW G p t 0 ↔ showsI G p := by
        constructor
        · intro g
          refine ⟨g.1, fun th hth => ⟨?_, fun k hk => g.2.2.1 th k (by omega) hk⟩⟩
          rw [h2.2.2 th (by rw [g.1]; exact hth)]
          exact g.2.1
        · intro g
          exact ⟨g.1, (g.2 0 (by omega)).1, fun th j hth hj => (g.2 th (by omega)).2 j hj, fun j hj => by omega⟩
      refine zJ_at h0 100 zo_X7_shows rfl fun K hK => ?_
      rcases hb with rfl | rfl
      · have hs := hsw.mp (hbw.mp rfl)
        rw [paP_id hs] at hRM
        have hk := hk0 hs _ hE hRM
        conv => whnf
        repeat' (first
          | (refine ⟨0, 0, ⟨by omega, by omega⟩, ?_⟩)
          | (refine ⟨fun h => ?_, fun h => ?_⟩ <;> (try simp (disch := omega) only [I_0, I_add, I_sub, I_mul, I_neg, I_nat, I_lt, I_le, I_eq, Int.toNat_natCast, ne_eq, not_true, not_false_iff, zt0, zt1, zI_at, zpi_I, zpl_I, zpd_I, zcp_I, cpI_k, Int.reduceToNat, zu_s, zu_k, zu_i, zu_j, zu_n, e4] at h) <;> (try (exfalso; omega)) <;> conv => whnf)
          | (refine ⟨by first | rfl | assumption | exact zin1 rfl | exact Nat.le_of_ble_eq_true rfl | exact ⟨rfl, Or.inl rfl⟩ | exact ⟨rfl, Or.inr (Or.inl rfl)⟩ | exact ⟨rfl, Or.inr (Or.inr rfl)⟩ | exact ⟨Nat.le_of_ble_eq_true rfl, Nat.le_of_ble_eq_true rfl⟩ | exact trivial | omega | (simp (disch := omega) only [I_0, I_add, I_sub, I_mul, I_neg, I_nat, I_lt, I_le, I_eq, Int.toNat_natCast, ne_eq, not_true, not_false_iff, zt0, zt1, zI_at, zpi_I, zpl_I, zpd_I, zcp_I, cpI_k, Int.reduceToNat, zu_s, zu_k, zu_i, zu_j, zu_n, I_in, zarr, zin6, zin8, zin11, zin13, zin15, zin19, zin21, zin22, zin23, zin24, zin25, zin26, zin27, zin28, zin29, zin30, zin29s, zin30s, zin33, zin5, Nat.le_refl, and_self, Prod.mk.injEq, Nat.reduceEqDiff, false_and, not_false_iff, e4]; done) | (simp (disch := omega) only [I_0, I_add, I_sub, I_mul, I_neg, I_nat, I_lt, I_le, I_eq, Int.toNat_natCast, ne_eq, not_true, not_false_iff, zt0, zt1, zI_at, zpi_I, zpl_I, zpd_I, zcp_I, cpI_k, Int.reduceToNat, zu_s, zu_k, zu_i, zu_j, zu_n, I_in, zarr, zin6, zin8, zin11, zin13, zin15, zin19, zin21, zin22, zin23, zin24, zin25, zin26, zin27, zin28, zin29, zin30, zin29s, zin30s, zin33, zin5, Nat.le_refl, and_self, Prod.mk.injEq, Nat.reduceEqDiff, false_and, not_false_iff, e4] <;> omega), ?_⟩; conv => whnf)
          | (refine zif70 (by assumption) ?_; conv => whnf)
          | (refine ⟨_, rfl, ?_⟩; conv => whnf))
        simp (disch := omega) only [I_0, I_add, I_sub, I_mul, I_neg, I_nat, I_lt, I_le, I_eq, Int.toNat_natCast, ne_eq, not_true, not_false_iff, zt0, zt1, zI_at, zpi_I, zpl_I, zpd_I, zcp_I, cpI_k, Int.reduceToNat, zu_s, zu_k, zu_i, zu_j, zu_n, e4]
        exact hk
      · have hk := hk1 (fun g => absurd (hbw.mpr (hsw.mpr g)) (by decide)) _ hE hRM
        conv => whnf
        repeat' (first
          | (refine ⟨0, 0, ⟨by omega, by omega⟩, ?_⟩)
          | (refine ⟨fun h => ?_, fun h => ?_⟩ <;> (try simp (disch := omega) only [I_0, I_add, I_sub, I_mul, I_neg, I_nat, I_lt, I_le, I_eq, Int.toNat_natCast, ne_eq, not_true, not_false_iff, zt0, zt1, zI_at, zpi_I, zpl_I, zpd_I, zcp_I, cpI_k, Int.reduceToNat, zu_s, zu_k, zu_i, zu_j, zu_n, e4] at h) <;> (try (exfalso; omega)) <;> conv => whnf)
          | (refine ⟨by first | rfl | assumption | exact zin1 rfl | exact Nat.le_of_ble_eq_true rfl | exact ⟨rfl, Or.inl rfl⟩ | exact ⟨rfl, Or.inr (Or.inl rfl)⟩ | exact ⟨rfl, Or.inr (Or.inr rfl)⟩ | exact ⟨Nat.le_of_ble_eq_true rfl, Nat.le_of_ble_eq_true rfl⟩ | exact trivial | omega | (simp (disch := omega) only [I_0, I_add, I_sub, I_mul, I_neg, I_nat, I_lt, I_le, I_eq, Int.toNat_natCast, ne_eq, not_true, not_false_iff, zt0, zt1, zI_at, zpi_I, zpl_I, zpd_I, zcp_I, cpI_k, Int.reduceToNat, zu_s, zu_k, zu_i, zu_j, zu_n, I_in, zarr, zin6, zin8, zin11, zin13, zin15, zin19, zin21, zin22, zin23, zin24, zin25, zin26, zin27, zin28, zin29, zin30, zin29s, zin30s, zin33, zin5, Nat.le_refl, and_self, Prod.mk.injEq, Nat.reduceEqDiff, false_and, not_false_iff, e4]; done) | (simp (disch := omega) only [I_0, I_add, I_sub, I_mul, I_neg, I_nat, I_lt, I_le, I_eq, Int.toNat_natCast, ne_eq, not_true, not_false_iff, zt0, zt1, zI_at, zpi_I, zpl_I, zpd_I, zcp_I, cpI_k, Int.reduceToNat, zu_s, zu_k, zu_i, zu_j, zu_n, I_in, zarr, zin6, zin8, zin11, zin13, zin15, zin19, zin21, zin22, zin23, zin24, zin25, zin26, zin27, zin28, zin29, zin30, zin29s, zin30s, zin33, zin5, Nat.le_refl, and_self, Prod.mk.injEq, Nat.reduceEqDiff, false_and, not_false_iff, e4] <;> omega), ?_⟩; conv => whnf)
          | (refine zif70 (by assumption) ?_; conv => whnf)
          | (refine ⟨_, rfl, ?_⟩; conv => whnf))
        simp (disch := omega) only [I_0, I_add, I_sub, I_mul, I_neg, I_nat, I_lt, I_le, I_eq, Int.toNat_natCast, ne_eq, not_true, not_false_iff, zt0, zt1, zI_at, zpi_I, zpl_I, zpd_I, zcp_I, cpI_k, Int.reduceToNat, zu_s, zu_k, zu_i, zu_j, zu_n, e4]
        exact hk
    | succ m ih =>
      intro t ht S' b hb hbw hS' hl hM
      have e4 : S' 40 0 0 4 = G 1 0 0 1 := (hS' _ _ _ _ (by omega)).trans hR.1.2.1
      have inner : ∀ m k : Nat, k + m = 3 * n → ∀ (S' : zS) (b : Int), (b = 0 ∨ b = 1) → (b = 0 ↔ swW G p t k) → eqq (fun k i j n => lyP k i j n ∨ k = 55) S S' → ldF G S' p → swM G S S' p t k → zJ E zm_X7_shows d mc ms kr kx 50 [(0, .inr (40, 0, 0)), (1, .inl (.int (I p))), (2, .inl (.int (I n))), (3, .inl (.int (I b))), (4, .inl (.int (I t))), (5, .inl (.int (I k)))] [] (zMI S' l δ) (0, 0) := by
        intro m
        induction m with
        | zero =>
          intro k hk S' b hb hbw hS' hl hM
          have : k = 3 * n := by omega
          subst this
          refine zJ_at h0 100 zo_X7_shows rfl fun K hK => ?_
          conv => whnf
          repeat' (first
            | (refine ⟨0, 0, ⟨by omega, by omega⟩, ?_⟩)
            | (refine ⟨fun h => ?_, fun h => ?_⟩ <;> (try simp (disch := omega) only [I_0, I_add, I_sub, I_mul, I_neg, I_nat, I_lt, I_le, I_eq, Int.toNat_natCast, ne_eq, not_true, not_false_iff, zt0, zt1, zI_at, zpi_I, zpl_I, zpd_I, zcp_I, cpI_k, Int.reduceToNat, zu_s, zu_k, zu_i, zu_j, zu_n] at h) <;> (try (exfalso; omega)) <;> conv => whnf)
            | (refine ⟨by first | rfl | assumption | exact zin1 rfl | exact Nat.le_of_ble_eq_true rfl | exact ⟨rfl, Or.inl rfl⟩ | exact ⟨rfl, Or.inr (Or.inl rfl)⟩ | exact ⟨rfl, Or.inr (Or.inr rfl)⟩ | exact ⟨Nat.le_of_ble_eq_true rfl, Nat.le_of_ble_eq_true rfl⟩ | exact trivial | omega | (simp (disch := omega) only [I_0, I_add, I_sub, I_mul, I_neg, I_nat, I_lt, I_le, I_eq, Int.toNat_natCast, ne_eq, not_true, not_false_iff, zt0, zt1, zI_at, zpi_I, zpl_I, zpd_I, zcp_I, cpI_k, Int.reduceToNat, zu_s, zu_k, zu_i, zu_j, zu_n, I_in, zarr, zin6, zin8, zin11, zin13, zin15, zin19, zin21, zin22, zin23, zin24, zin25, zin26, zin27, zin28, zin29, zin30, zin29s, zin30s, zin33, zin5, Nat.le_refl, and_self, Prod.mk.injEq, Nat.reduceEqDiff, false_and, not_false_iff]; done) | (simp (disch := omega) only [I_0, I_add, I_sub, I_mul, I_neg, I_nat, I_lt, I_le, I_eq, Int.toNat_natCast, ne_eq, not_true, not_false_iff, zt0, zt1, zI_at, zpi_I, zpl_I, zpd_I, zcp_I, cpI_k, Int.reduceToNat, zu_s, zu_k, zu_i, zu_j, zu_n, I_in, zarr, zin6, zin8, zin11, zin13, zin15, zin19, zin21, zin22, zin23, zin24, zin25, zin26, zin27, zin28, zin29, zin30, zin29s, zin30s, zin33, zin5, Nat.le_refl, and_self, Prod.mk.injEq, Nat.reduceEqDiff, false_and, not_false_iff] <;> omega), ?_⟩; conv => whnf)
            | (refine zif70 (by assumption) ?_; conv => whnf)
            | (refine ⟨_, rfl, ?_⟩; conv => whnf))
          refine hK _ _ _ _ _ (zJ_to (by (repeat' (first | exact trivial | (refine And.intro ?_ ?_) | (refine zlk_i rfl ?_; first | (with_reducible rfl) | (simp (disch := omega) only [I_0, I_add, I_sub, I_mul, I_neg, I_nat, I_lt, I_le, I_eq, Int.toNat_natCast, ne_eq, not_true, not_false_iff, zt0, zt1, zI_at, zpi_I, zpl_I, zpd_I, zcp_I, cpI_k, Int.reduceToNat, zu_s, zu_k, zu_i, zu_j, zu_n]; done) | (simp (disch := omega) only [I_0, I_add, I_sub, I_mul, I_neg, I_nat, I_lt, I_le, I_eq, Int.toNat_natCast, ne_eq, not_true, not_false_iff, zt0, zt1, zI_at, zpi_I, zpl_I, zpd_I, zcp_I, cpI_k, Int.reduceToNat, zu_s, zu_k, zu_i, zu_j, zu_n]; first | omega | (congr 1; omega)) | (congr 1; omega)) | rfl | (simp (disch := omega) only [I_0, I_add, I_sub, I_mul, I_neg, I_nat, I_lt, I_le, I_eq, Int.toNat_natCast, ne_eq, not_true, not_false_iff, zt0, zt1, zI_at, zpi_I, zpl_I, zpd_I, zcp_I, cpI_k, Int.reduceToNat, zu_s, zu_k, zu_i, zu_j, zu_n]; done) | (refine zlk_r rfl ?_; simp (disch := omega) only [I_0, I_add, I_sub, I_mul, I_neg, I_nat, I_lt, I_le, I_eq, Int.toNat_natCast, ne_eq, not_true, not_false_iff, zt0, zt1, zI_at, zpi_I, zpl_I, zpd_I, zcp_I, cpI_k, Int.reduceToNat, zu_s, zu_k, zu_i, zu_j, zu_n]; done)))) rfl rfl (ih (t + 1) (by omega) S' b hb ?_ hS' hl ⟨fun th j hth hj => ?_, fun j hj => by omega, fun x hx => hM.2.2 x (by omega)⟩))
          · rw [hbw]
            constructor
            · intro g
              refine ⟨g.1, g.2.1, fun th j hth hj => ?_, fun j hj => by omega⟩
              by_cases c : th = t
              · subst c; exact g.2.2.2 j (by omega)
              · exact g.2.2.1 th j (by omega) hj
            · intro g
              exact ⟨g.1, g.2.1, fun th j hth hj => g.2.2.1 th j (by omega) hj, fun j hj => g.2.2.1 t j (by omega) (by omega)⟩
          · by_cases c : th = t
            · subst c; exact hM.2.1 j (by omega)
            · exact hM.1 th j (by omega) hj
        | succ m ih2 =>
          intro k hk S' b hb hbw hS' hl hM
          have hR' : RV G S' := ⟨fun r t hr ht => (hS' _ _ _ _ (by omega)).trans (hR.2.2.1 r t hr ht), fun p t hp ht => (hS' _ _ _ _ (by omega)).trans (hR.2.2.2.2.2.2.2.1 p t hp ht)⟩
          obtain ⟨d1, d2⟩ := divI k (by omega)
          have hvb := vaI_b hG.1 hp (th := t) (k := k) (by omega) (by omega)
          have hrd : S' 55 0 0 (72 * (3 * p + t) + k) = S 55 0 0 (72 * (3 * p + t) + k) := hM.2.2 _ (Or.inr (Nat.le_refl _))
          obtain ⟨sv, hsv⟩ : ∃ sv : Int, (S 55 0 0 (72 * (3 * p + t) + k)) = sv := ⟨_, rfl⟩
          have e7 : (3 * (k / 3) + k % 3) = k := by omega
          have go : ∀ b2 : Int, (b2 = 0 ∨ b2 = 1) → (b2 = 0 ↔ b = 0 ∧ G 30 p t k = vaI G p t k) → zJ E zm_X7_shows d mc ms kr kx 50 [(0, .inr (40, 0, 0)), (1, .inl (.int (I p))), (2, .inl (.int (I n))), (3, .inl (.int (I b2))), (4, .inl (.int (I t))), (5, .inl (.int (I (k + 1 : Nat))))] [] (zMI (zu S' 55 0 0 (72 * (3 * p + t) + k) (vaI G p t k)) l δ) (0, 0) := by
            intro b2 hb2 hbw2
            refine ih2 (k + 1) (by omega) _ b2 hb2 ?_ (eqq_zu hS' (by omega)) (ldF_ly hl (fun r => zu_k (by decide)) (fun r => zu_k (by decide)) (fun r => zu_k (by decide))) ⟨fun th j hth hj => ?_, fun j hj => ?_, fun x hx => ?_⟩
            · rw [hbw2, hbw]
              constructor
              · intro g
                refine ⟨g.1.1, g.1.2.1, g.1.2.2.1, fun j hj => ?_⟩
                by_cases c : j = k
                · subst c; exact g.2
                · exact g.1.2.2.2 j (by omega)
              · intro g
                exact ⟨⟨g.1, g.2.1, g.2.2.1, fun j hj => g.2.2.2 j (by omega)⟩, g.2.2.2 k (by omega)⟩
            · rw [zu_n (by omega)]
              exact hM.1 th j hth hj
            · by_cases c : j = k
              · subst c; rw [zu_s]
              · rw [zu_n (by omega)]; exact hM.2.1 j (by omega)
            · rw [zu_n (by omega)]
              exact hM.2.2 x (by omega)
          have live : swW G p t k → sv = G 30 p t k := fun g => by
            rw [← hsv]
            exact hR.2.2.2.2.2.2.2.2.1 p t k hp (by rw [g.1]; omega) (by rw [g.2.1]; omega)
          have e8 : ((72 * (3 * p + t) : Nat) : Int).toNat = 72 * (3 * p + t) := Int.toNat_natCast _
          have e9 : (((72 * (3 * p + t) : Nat) : Int) + k).toNat = 72 * (3 * p + t) + k := by omega
          refine zJ_at h0 100 zo_X7_shows rfl fun K hK => ?_
          conv => whnf
          repeat' (first
            | (refine ⟨0, 0, ⟨by omega, by omega⟩, ?_⟩)
            | (refine ⟨fun h => ?_, fun h => ?_⟩ <;> (try simp (disch := omega) only [I_0, I_add, I_sub, I_mul, I_neg, I_nat, I_lt, I_le, I_eq, Int.toNat_natCast, ne_eq, not_true, not_false_iff, zt0, zt1, zI_at, zpi_I, zpl_I, zpd_I, zcp_I, cpI_k, Int.reduceToNat, zu_s, zu_k, zu_i, zu_j, zu_n] at h) <;> (try (exfalso; omega)) <;> conv => whnf)
            | (refine ⟨by first | rfl | assumption | exact zin1 rfl | exact Nat.le_of_ble_eq_true rfl | exact ⟨rfl, Or.inl rfl⟩ | exact ⟨rfl, Or.inr (Or.inl rfl)⟩ | exact ⟨rfl, Or.inr (Or.inr rfl)⟩ | exact ⟨Nat.le_of_ble_eq_true rfl, Nat.le_of_ble_eq_true rfl⟩ | exact trivial | omega | (simp (disch := omega) only [I_0, I_add, I_sub, I_mul, I_neg, I_nat, I_lt, I_le, I_eq, Int.toNat_natCast, ne_eq, not_true, not_false_iff, zt0, zt1, zI_at, zpi_I, zpl_I, zpd_I, zcp_I, cpI_k, Int.reduceToNat, zu_s, zu_k, zu_i, zu_j, zu_n, I_in, zarr, zin6, zin8, zin11, zin13, zin15, zin19, zin21, zin22, zin23, zin24, zin25, zin26, zin27, zin28, zin29, zin30, zin29s, zin30s, zin33, zin5, Nat.le_refl, and_self, Prod.mk.injEq, Nat.reduceEqDiff, false_and, not_false_iff]; done) | (simp (disch := omega) only [I_0, I_add, I_sub, I_mul, I_neg, I_nat, I_lt, I_le, I_eq, Int.toNat_natCast, ne_eq, not_true, not_false_iff, zt0, zt1, zI_at, zpi_I, zpl_I, zpd_I, zcp_I, cpI_k, Int.reduceToNat, zu_s, zu_k, zu_i, zu_j, zu_n, I_in, zarr, zin6, zin8, zin11, zin13, zin15, zin19, zin21, zin22, zin23, zin24, zin25, zin26, zin27, zin28, zin29, zin30, zin29s, zin30s, zin33, zin5, Nat.le_refl, and_self, Prod.mk.injEq, Nat.reduceEqDiff, false_and, not_false_iff] <;> omega), ?_⟩; conv => whnf)
            | (refine zif70 (by assumption) ?_; conv => whnf)
            | (refine ⟨_, rfl, ?_⟩; conv => whnf))
          refine zC_to (m_Y_place h0 (p := p) (t := t) hp (by omega) ?_) (by (repeat' (first | exact trivial | (refine And.intro ?_ ?_) | (refine zvi ?_; first | (with_reducible rfl) | (simp (disch := omega) only [I_0, I_add, I_sub, I_mul, I_neg, I_nat, I_lt, I_le, I_eq, Int.toNat_natCast, ne_eq, not_true, not_false_iff, zt0, zt1, zI_at, zpi_I, zpl_I, zpd_I, zcp_I, cpI_k, Int.reduceToNat, zu_s, zu_k, zu_i, zu_j, zu_n]; done) | (simp (disch := omega) only [I_0, I_add, I_sub, I_mul, I_neg, I_nat, I_lt, I_le, I_eq, Int.toNat_natCast, ne_eq, not_true, not_false_iff, zt0, zt1, zI_at, zpi_I, zpl_I, zpd_I, zcp_I, cpI_k, Int.reduceToNat, zu_s, zu_k, zu_i, zu_j, zu_n]; first | omega | (congr 1; omega)) | (congr 1; omega)) | rfl | (simp (disch := omega) only [I_0, I_add, I_sub, I_mul, I_neg, I_nat, I_lt, I_le, I_eq, Int.toNat_natCast, ne_eq, not_true, not_false_iff, zt0, zt1, zI_at, zpi_I, zpl_I, zpd_I, zcp_I, cpI_k, Int.reduceToNat, zu_s, zu_k, zu_i, zu_j, zu_n]; done) | (refine zlk_r rfl ?_; simp (disch := omega) only [I_0, I_add, I_sub, I_mul, I_neg, I_nat, I_lt, I_le, I_eq, Int.toNat_natCast, ne_eq, not_true, not_false_iff, zt0, zt1, zI_at, zpi_I, zpl_I, zpd_I, zcp_I, cpI_k, Int.reduceToNat, zu_s, zu_k, zu_i, zu_j, zu_n]; done)))) rfl
          conv => whnf
          repeat' (first
            | (refine ⟨0, 0, ⟨by omega, by omega⟩, ?_⟩)
            | (refine ⟨fun h => ?_, fun h => ?_⟩ <;> (try simp (disch := omega) only [I_0, I_add, I_sub, I_mul, I_neg, I_nat, I_lt, I_le, I_eq, Int.toNat_natCast, ne_eq, not_true, not_false_iff, zt0, zt1, zI_at, zpi_I, zpl_I, zpd_I, zcp_I, cpI_k, Int.reduceToNat, zu_s, zu_k, zu_i, zu_j, zu_n] at h) <;> (try (exfalso; omega)) <;> conv => whnf)
            | (refine ⟨by first | rfl | assumption | exact zin1 rfl | exact Nat.le_of_ble_eq_true rfl | exact ⟨rfl, Or.inl rfl⟩ | exact ⟨rfl, Or.inr (Or.inl rfl)⟩ | exact ⟨rfl, Or.inr (Or.inr rfl)⟩ | exact ⟨Nat.le_of_ble_eq_true rfl, Nat.le_of_ble_eq_true rfl⟩ | exact trivial | omega | (simp (disch := omega) only [I_0, I_add, I_sub, I_mul, I_neg, I_nat, I_lt, I_le, I_eq, Int.toNat_natCast, ne_eq, not_true, not_false_iff, zt0, zt1, zI_at, zpi_I, zpl_I, zpd_I, zcp_I, cpI_k, Int.reduceToNat, zu_s, zu_k, zu_i, zu_j, zu_n, I_in, zarr, zin6, zin8, zin11, zin13, zin15, zin19, zin21, zin22, zin23, zin24, zin25, zin26, zin27, zin28, zin29, zin30, zin29s, zin30s, zin33, zin5, Nat.le_refl, and_self, Prod.mk.injEq, Nat.reduceEqDiff, false_and, not_false_iff]; done) | (simp (disch := omega) only [I_0, I_add, I_sub, I_mul, I_neg, I_nat, I_lt, I_le, I_eq, Int.toNat_natCast, ne_eq, not_true, not_false_iff, zt0, zt1, zI_at, zpi_I, zpl_I, zpd_I, zcp_I, cpI_k, Int.reduceToNat, zu_s, zu_k, zu_i, zu_j, zu_n, I_in, zarr, zin6, zin8, zin11, zin13, zin15, zin19, zin21, zin22, zin23, zin24, zin25, zin26, zin27, zin28, zin29, zin30, zin29s, zin30s, zin33, zin5, Nat.le_refl, and_self, Prod.mk.injEq, Nat.reduceEqDiff, false_and, not_false_iff] <;> omega), ?_⟩; conv => whnf)
            | (refine zif70 (by assumption) ?_; conv => whnf)
            | (refine ⟨_, rfl, ?_⟩; conv => whnf))
          refine zC_to (m_Y_part h0 (by omega) hG.1 hR' (p := p) (th := t) (r := k / 3) (q := k % 3) hl hp (by omega) (by omega) (by omega) ?_) (by (repeat' (first | exact trivial | (refine And.intro ?_ ?_) | (refine zvi ?_; first | (with_reducible rfl) | (simp (disch := omega) only [I_0, I_add, I_sub, I_mul, I_neg, I_nat, I_lt, I_le, I_eq, Int.toNat_natCast, ne_eq, not_true, not_false_iff, zt0, zt1, zI_at, zpi_I, zpl_I, zpd_I, zcp_I, cpI_k, Int.reduceToNat, zu_s, zu_k, zu_i, zu_j, zu_n, d1, d2]; done) | (simp (disch := omega) only [I_0, I_add, I_sub, I_mul, I_neg, I_nat, I_lt, I_le, I_eq, Int.toNat_natCast, ne_eq, not_true, not_false_iff, zt0, zt1, zI_at, zpi_I, zpl_I, zpd_I, zcp_I, cpI_k, Int.reduceToNat, zu_s, zu_k, zu_i, zu_j, zu_n, d1, d2]; first | omega | (congr 1; omega)) | (congr 1; omega)) | rfl | (simp (disch := omega) only [I_0, I_add, I_sub, I_mul, I_neg, I_nat, I_lt, I_le, I_eq, Int.toNat_natCast, ne_eq, not_true, not_false_iff, zt0, zt1, zI_at, zpi_I, zpl_I, zpd_I, zcp_I, cpI_k, Int.reduceToNat, zu_s, zu_k, zu_i, zu_j, zu_n, d1, d2]; done) | (refine zlk_r rfl ?_; simp (disch := omega) only [I_0, I_add, I_sub, I_mul, I_neg, I_nat, I_lt, I_le, I_eq, Int.toNat_natCast, ne_eq, not_true, not_false_iff, zt0, zt1, zI_at, zpi_I, zpl_I, zpd_I, zcp_I, cpI_k, Int.reduceToNat, zu_s, zu_k, zu_i, zu_j, zu_n, d1, d2]; done)))) rfl
          rw [e7]
          rcases hb with rfl | rfl
          · have hw := hbw.mp rfl
            have hlv := live hw
            have hgb := (hG.2.2 p t (Or.inl ⟨hp, by omega⟩)).2 k (by rw [h2.2.2 t (by rw [hw.1]; omega), hw.2.1]; omega)
            have hrd2 : S' 55 0 0 (72 * (3 * p + t) + k) = G 30 p t k := by rw [hrd, hsv, hlv]
            conv => whnf
            repeat' (first
              | (refine ⟨0, 0, ⟨by omega, by omega⟩, ?_⟩)
              | (refine ⟨fun h => ?_, fun h => ?_⟩ <;> (try simp (disch := omega) only [I_0, I_add, I_sub, I_mul, I_neg, I_nat, I_lt, I_le, I_eq, Int.toNat_natCast, ne_eq, not_true, not_false_iff, zt0, zt1, zI_at, zpi_I, zpl_I, zpd_I, zcp_I, cpI_k, Int.reduceToNat, zu_s, zu_k, zu_i, zu_j, zu_n, e9, hrd2] at h) <;> (try (exfalso; omega)) <;> conv => whnf)
              | (refine ⟨by first | rfl | assumption | exact zin1 rfl | exact Nat.le_of_ble_eq_true rfl | exact ⟨rfl, Or.inl rfl⟩ | exact ⟨rfl, Or.inr (Or.inl rfl)⟩ | exact ⟨rfl, Or.inr (Or.inr rfl)⟩ | exact ⟨Nat.le_of_ble_eq_true rfl, Nat.le_of_ble_eq_true rfl⟩ | exact trivial | omega | (simp (disch := omega) only [I_0, I_add, I_sub, I_mul, I_neg, I_nat, I_lt, I_le, I_eq, Int.toNat_natCast, ne_eq, not_true, not_false_iff, zt0, zt1, zI_at, zpi_I, zpl_I, zpd_I, zcp_I, cpI_k, Int.reduceToNat, zu_s, zu_k, zu_i, zu_j, zu_n, I_in, zarr, zin6, zin8, zin11, zin13, zin15, zin19, zin21, zin22, zin23, zin24, zin25, zin26, zin27, zin28, zin29, zin30, zin29s, zin30s, zin33, zin5, Nat.le_refl, and_self, Prod.mk.injEq, Nat.reduceEqDiff, false_and, not_false_iff, e9, hrd2]; done) | (simp (disch := omega) only [I_0, I_add, I_sub, I_mul, I_neg, I_nat, I_lt, I_le, I_eq, Int.toNat_natCast, ne_eq, not_true, not_false_iff, zt0, zt1, zI_at, zpi_I, zpl_I, zpd_I, zcp_I, cpI_k, Int.reduceToNat, zu_s, zu_k, zu_i, zu_j, zu_n, I_in, zarr, zin6, zin8, zin11, zin13, zin15, zin19, zin21, zin22, zin23, zin24, zin25, zin26, zin27, zin28, zin29, zin30, zin29s, zin30s, zin33, zin5, Nat.le_refl, and_self, Prod.mk.injEq, Nat.reduceEqDiff, false_and, not_false_iff, e9, hrd2] <;> omega), ?_⟩; conv => whnf)
              | (refine zif70 (by assumption) ?_; conv => whnf)
              | (refine ⟨_, rfl, ?_⟩; conv => whnf))
            · exact hK _ _ _ _ _ (zJ_to (by (repeat' (first | exact trivial | (refine And.intro ?_ ?_) | (refine zlk_i rfl ?_; first | (with_reducible rfl) | (simp (disch := omega) only [I_0, I_add, I_sub, I_mul, I_neg, I_nat, I_lt, I_le, I_eq, Int.toNat_natCast, ne_eq, not_true, not_false_iff, zt0, zt1, zI_at, zpi_I, zpl_I, zpd_I, zcp_I, cpI_k, Int.reduceToNat, zu_s, zu_k, zu_i, zu_j, zu_n]; done) | (simp (disch := omega) only [I_0, I_add, I_sub, I_mul, I_neg, I_nat, I_lt, I_le, I_eq, Int.toNat_natCast, ne_eq, not_true, not_false_iff, zt0, zt1, zI_at, zpi_I, zpl_I, zpd_I, zcp_I, cpI_k, Int.reduceToNat, zu_s, zu_k, zu_i, zu_j, zu_n]; first | omega | (congr 1; omega)) | (congr 1; omega)) | rfl | (simp (disch := omega) only [I_0, I_add, I_sub, I_mul, I_neg, I_nat, I_lt, I_le, I_eq, Int.toNat_natCast, ne_eq, not_true, not_false_iff, zt0, zt1, zI_at, zpi_I, zpl_I, zpd_I, zcp_I, cpI_k, Int.reduceToNat, zu_s, zu_k, zu_i, zu_j, zu_n]; done) | (refine zlk_r rfl ?_; simp (disch := omega) only [I_0, I_add, I_sub, I_mul, I_neg, I_nat, I_lt, I_le, I_eq, Int.toNat_natCast, ne_eq, not_true, not_false_iff, zt0, zt1, zI_at, zpi_I, zpl_I, zpd_I, zcp_I, cpI_k, Int.reduceToNat, zu_s, zu_k, zu_i, zu_j, zu_n]; done)))) rfl (by (first | rfl | (simp (disch := omega) only [I_0, I_add, I_sub, I_mul, I_neg, I_nat, I_lt, I_le, I_eq, Int.toNat_natCast, ne_eq, not_true, not_false_iff, zt0, zt1, zI_at, zpi_I, zpl_I, zpd_I, zcp_I, cpI_k, Int.reduceToNat, zu_s, zu_k, zu_i, zu_j, zu_n, e9]; done) | (simp (disch := omega) only [I_0, I_add, I_sub, I_mul, I_neg, I_nat, I_lt, I_le, I_eq, Int.toNat_natCast, ne_eq, not_true, not_false_iff, zt0, zt1, zI_at, zpi_I, zpl_I, zpd_I, zcp_I, cpI_k, Int.reduceToNat, zu_s, zu_k, zu_i, zu_j, zu_n, e9]; rfl))) (go 0 (Or.inl rfl) (by omega)))
            · exact hK _ _ _ _ _ (zJ_to (by (repeat' (first | exact trivial | (refine And.intro ?_ ?_) | (refine zlk_i rfl ?_; first | (with_reducible rfl) | (simp (disch := omega) only [I_0, I_add, I_sub, I_mul, I_neg, I_nat, I_lt, I_le, I_eq, Int.toNat_natCast, ne_eq, not_true, not_false_iff, zt0, zt1, zI_at, zpi_I, zpl_I, zpd_I, zcp_I, cpI_k, Int.reduceToNat, zu_s, zu_k, zu_i, zu_j, zu_n]; done) | (simp (disch := omega) only [I_0, I_add, I_sub, I_mul, I_neg, I_nat, I_lt, I_le, I_eq, Int.toNat_natCast, ne_eq, not_true, not_false_iff, zt0, zt1, zI_at, zpi_I, zpl_I, zpd_I, zcp_I, cpI_k, Int.reduceToNat, zu_s, zu_k, zu_i, zu_j, zu_n]; first | omega | (congr 1; omega)) | (congr 1; omega)) | rfl | (simp (disch := omega) only [I_0, I_add, I_sub, I_mul, I_neg, I_nat, I_lt, I_le, I_eq, Int.toNat_natCast, ne_eq, not_true, not_false_iff, zt0, zt1, zI_at, zpi_I, zpl_I, zpd_I, zcp_I, cpI_k, Int.reduceToNat, zu_s, zu_k, zu_i, zu_j, zu_n]; done) | (refine zlk_r rfl ?_; simp (disch := omega) only [I_0, I_add, I_sub, I_mul, I_neg, I_nat, I_lt, I_le, I_eq, Int.toNat_natCast, ne_eq, not_true, not_false_iff, zt0, zt1, zI_at, zpi_I, zpl_I, zpd_I, zcp_I, cpI_k, Int.reduceToNat, zu_s, zu_k, zu_i, zu_j, zu_n]; done)))) rfl (by (first | rfl | (simp (disch := omega) only [I_0, I_add, I_sub, I_mul, I_neg, I_nat, I_lt, I_le, I_eq, Int.toNat_natCast, ne_eq, not_true, not_false_iff, zt0, zt1, zI_at, zpi_I, zpl_I, zpd_I, zcp_I, cpI_k, Int.reduceToNat, zu_s, zu_k, zu_i, zu_j, zu_n, e9]; done) | (simp (disch := omega) only [I_0, I_add, I_sub, I_mul, I_neg, I_nat, I_lt, I_le, I_eq, Int.toNat_natCast, ne_eq, not_true, not_false_iff, zt0, zt1, zI_at, zpi_I, zpl_I, zpd_I, zcp_I, cpI_k, Int.reduceToNat, zu_s, zu_k, zu_i, zu_j, zu_n, e9]; rfl))) (go 1 (Or.inr rfl) (by omega)))
          · conv => whnf
            repeat' (first
              | (refine ⟨0, 0, ⟨by omega, by omega⟩, ?_⟩)
              | (refine ⟨fun h => ?_, fun h => ?_⟩ <;> (try simp (disch := omega) only [I_0, I_add, I_sub, I_mul, I_neg, I_nat, I_lt, I_le, I_eq, Int.toNat_natCast, ne_eq, not_true, not_false_iff, zt0, zt1, zI_at, zpi_I, zpl_I, zpd_I, zcp_I, cpI_k, Int.reduceToNat, zu_s, zu_k, zu_i, zu_j, zu_n, e9] at h) <;> (try (exfalso; omega)) <;> conv => whnf)
              | (refine ⟨by first | rfl | assumption | exact zin1 rfl | exact Nat.le_of_ble_eq_true rfl | exact ⟨rfl, Or.inl rfl⟩ | exact ⟨rfl, Or.inr (Or.inl rfl)⟩ | exact ⟨rfl, Or.inr (Or.inr rfl)⟩ | exact ⟨Nat.le_of_ble_eq_true rfl, Nat.le_of_ble_eq_true rfl⟩ | exact trivial | omega | (simp (disch := omega) only [I_0, I_add, I_sub, I_mul, I_neg, I_nat, I_lt, I_le, I_eq, Int.toNat_natCast, ne_eq, not_true, not_false_iff, zt0, zt1, zI_at, zpi_I, zpl_I, zpd_I, zcp_I, cpI_k, Int.reduceToNat, zu_s, zu_k, zu_i, zu_j, zu_n, I_in, zarr, zin6, zin8, zin11, zin13, zin15, zin19, zin21, zin22, zin23, zin24, zin25, zin26, zin27, zin28, zin29, zin30, zin29s, zin30s, zin33, zin5, Nat.le_refl, and_self, Prod.mk.injEq, Nat.reduceEqDiff, false_and, not_false_iff, e9]; done) | (simp (disch := omega) only [I_0, I_add, I_sub, I_mul, I_neg, I_nat, I_lt, I_le, I_eq, Int.toNat_natCast, ne_eq, not_true, not_false_iff, zt0, zt1, zI_at, zpi_I, zpl_I, zpd_I, zcp_I, cpI_k, Int.reduceToNat, zu_s, zu_k, zu_i, zu_j, zu_n, I_in, zarr, zin6, zin8, zin11, zin13, zin15, zin19, zin21, zin22, zin23, zin24, zin25, zin26, zin27, zin28, zin29, zin30, zin29s, zin30s, zin33, zin5, Nat.le_refl, and_self, Prod.mk.injEq, Nat.reduceEqDiff, false_and, not_false_iff, e9] <;> omega), ?_⟩; conv => whnf)
              | (refine zif70 (by assumption) ?_; conv => whnf)
              | (refine ⟨_, rfl, ?_⟩; conv => whnf))
            exact hK _ _ _ _ _ (zJ_to (by (repeat' (first | exact trivial | (refine And.intro ?_ ?_) | (refine zlk_i rfl ?_; first | (with_reducible rfl) | (simp (disch := omega) only [I_0, I_add, I_sub, I_mul, I_neg, I_nat, I_lt, I_le, I_eq, Int.toNat_natCast, ne_eq, not_true, not_false_iff, zt0, zt1, zI_at, zpi_I, zpl_I, zpd_I, zcp_I, cpI_k, Int.reduceToNat, zu_s, zu_k, zu_i, zu_j, zu_n]; done) | (simp (disch := omega) only [I_0, I_add, I_sub, I_mul, I_neg, I_nat, I_lt, I_le, I_eq, Int.toNat_natCast, ne_eq, not_true, not_false_iff, zt0, zt1, zI_at, zpi_I, zpl_I, zpd_I, zcp_I, cpI_k, Int.reduceToNat, zu_s, zu_k, zu_i, zu_j, zu_n]; first | omega | (congr 1; omega)) | (congr 1; omega)) | rfl | (simp (disch := omega) only [I_0, I_add, I_sub, I_mul, I_neg, I_nat, I_lt, I_le, I_eq, Int.toNat_natCast, ne_eq, not_true, not_false_iff, zt0, zt1, zI_at, zpi_I, zpl_I, zpd_I, zcp_I, cpI_k, Int.reduceToNat, zu_s, zu_k, zu_i, zu_j, zu_n]; done) | (refine zlk_r rfl ?_; simp (disch := omega) only [I_0, I_add, I_sub, I_mul, I_neg, I_nat, I_lt, I_le, I_eq, Int.toNat_natCast, ne_eq, not_true, not_false_iff, zt0, zt1, zI_at, zpi_I, zpl_I, zpd_I, zcp_I, cpI_k, Int.reduceToNat, zu_s, zu_k, zu_i, zu_j, zu_n]; done)))) rfl (by (first | rfl | (simp (disch := omega) only [I_0, I_add, I_sub, I_mul, I_neg, I_nat, I_lt, I_le, I_eq, Int.toNat_natCast, ne_eq, not_true, not_false_iff, zt0, zt1, zI_at, zpi_I, zpl_I, zpd_I, zcp_I, cpI_k, Int.reduceToNat, zu_s, zu_k, zu_i, zu_j, zu_n, e9]; done) | (simp (disch := omega) only [I_0, I_add, I_sub, I_mul, I_neg, I_nat, I_lt, I_le, I_eq, Int.toNat_natCast, ne_eq, not_true, not_false_iff, zt0, zt1, zI_at, zpi_I, zpl_I, zpd_I, zcp_I, cpI_k, Int.reduceToNat, zu_s, zu_k, zu_i, zu_j, zu_n, e9]; rfl))) (go 1 (Or.inr rfl) (by omega)))
      refine zJ_cut h0 100 50 zo_X7_shows rfl fun K hK => ?_
      conv => whnf
      repeat' (first
        | (refine ⟨0, 0, ⟨by omega, by omega⟩, ?_⟩)
        | (refine ⟨fun h => ?_, fun h => ?_⟩ <;> (try simp (disch := omega) only [I_0, I_add, I_sub, I_mul, I_neg, I_nat, I_lt, I_le, I_eq, Int.toNat_natCast, ne_eq, not_true, not_false_iff, zt0, zt1, zI_at, zpi_I, zpl_I, zpd_I, zcp_I, cpI_k, Int.reduceToNat, zu_s, zu_k, zu_i, zu_j, zu_n, e4] at h) <;> (try (exfalso; omega)) <;> conv => whnf)
        | (refine ⟨by first | rfl | assumption | exact zin1 rfl | exact Nat.le_of_ble_eq_true rfl | exact ⟨rfl, Or.inl rfl⟩ | exact ⟨rfl, Or.inr (Or.inl rfl)⟩ | exact ⟨rfl, Or.inr (Or.inr rfl)⟩ | exact ⟨Nat.le_of_ble_eq_true rfl, Nat.le_of_ble_eq_true rfl⟩ | exact trivial | omega | (simp (disch := omega) only [I_0, I_add, I_sub, I_mul, I_neg, I_nat, I_lt, I_le, I_eq, Int.toNat_natCast, ne_eq, not_true, not_false_iff, zt0, zt1, zI_at, zpi_I, zpl_I, zpd_I, zcp_I, cpI_k, Int.reduceToNat, zu_s, zu_k, zu_i, zu_j, zu_n, I_in, zarr, zin6, zin8, zin11, zin13, zin15, zin19, zin21, zin22, zin23, zin24, zin25, zin26, zin27, zin28, zin29, zin30, zin29s, zin30s, zin33, zin5, Nat.le_refl, and_self, Prod.mk.injEq, Nat.reduceEqDiff, false_and, not_false_iff, e4]; done) | (simp (disch := omega) only [I_0, I_add, I_sub, I_mul, I_neg, I_nat, I_lt, I_le, I_eq, Int.toNat_natCast, ne_eq, not_true, not_false_iff, zt0, zt1, zI_at, zpi_I, zpl_I, zpd_I, zcp_I, cpI_k, Int.reduceToNat, zu_s, zu_k, zu_i, zu_j, zu_n, I_in, zarr, zin6, zin8, zin11, zin13, zin15, zin19, zin21, zin22, zin23, zin24, zin25, zin26, zin27, zin28, zin29, zin30, zin29s, zin30s, zin33, zin5, Nat.le_refl, and_self, Prod.mk.injEq, Nat.reduceEqDiff, false_and, not_false_iff, e4] <;> omega), ?_⟩; conv => whnf)
        | (refine zif70 (by assumption) ?_; conv => whnf)
        | (refine ⟨_, rfl, ?_⟩; conv => whnf))
      exact hK _ _ _ _ _ (zJ_to (by (repeat' (first | exact trivial | (refine And.intro ?_ ?_) | (refine zlk_i rfl ?_; first | (with_reducible rfl) | (simp (disch := omega) only [I_0, I_add, I_sub, I_mul, I_neg, I_nat, I_lt, I_le, I_eq, Int.toNat_natCast, ne_eq, not_true, not_false_iff, zt0, zt1, zI_at, zpi_I, zpl_I, zpd_I, zcp_I, cpI_k, Int.reduceToNat, zu_s, zu_k, zu_i, zu_j, zu_n]; done) | (simp (disch := omega) only [I_0, I_add, I_sub, I_mul, I_neg, I_nat, I_lt, I_le, I_eq, Int.toNat_natCast, ne_eq, not_true, not_false_iff, zt0, zt1, zI_at, zpi_I, zpl_I, zpd_I, zcp_I, cpI_k, Int.reduceToNat, zu_s, zu_k, zu_i, zu_j, zu_n]; first | omega | (congr 1; omega)) | (congr 1; omega)) | rfl | (simp (disch := omega) only [I_0, I_add, I_sub, I_mul, I_neg, I_nat, I_lt, I_le, I_eq, Int.toNat_natCast, ne_eq, not_true, not_false_iff, zt0, zt1, zI_at, zpi_I, zpl_I, zpd_I, zcp_I, cpI_k, Int.reduceToNat, zu_s, zu_k, zu_i, zu_j, zu_n]; done) | (refine zlk_r rfl ?_; simp (disch := omega) only [I_0, I_add, I_sub, I_mul, I_neg, I_nat, I_lt, I_le, I_eq, Int.toNat_natCast, ne_eq, not_true, not_false_iff, zt0, zt1, zI_at, zpi_I, zpl_I, zpd_I, zcp_I, cpI_k, Int.reduceToNat, zu_s, zu_k, zu_i, zu_j, zu_n]; done)))) rfl rfl (inner (3 * n) 0 (by omega) S' b hb hbw hS' hl hM))
  have sc : eqq (fun k i j n => lyP k i j n ∨ k = 55) S S1 := eqq_mono q1 (fun k i j n h => by omega)
  have sM : swM G S S1 p 0 0 := ⟨fun th j h => by omega, fun j h => by omega, fun x _ => q1 _ _ _ _ (by omega)⟩
  have hm : ((0 : Nat) : Int) + (G 1 0 0 1).toNat = G 1 0 0 1 := by omega
  have e53 : S1 53 0 0 p = G 21 p 0 9 := (q1 _ _ _ _ (by omega)).trans r6.2.2.1
  have e54 : S1 54 0 0 p = G 29 p 0 0 := (q1 _ _ _ _ (by omega)).trans r6.2.2.2
  have e4 : S1 40 0 0 4 = G 1 0 0 1 := (q1 _ _ _ _ (by omega)).trans hR.1.2.1
  have go1 : (¬ G 21 p 0 9 = G 1 0 0 1 ∨ ¬ G 29 p 0 0 = n) → zJ E zm_X7_shows d mc ms kr kx 38 [(0, .inr (40, 0, 0)), (1, .inl (.int (I p))), (2, .inl (.int (I n))), (3, .inl (.int (I 1))), (4, .inl (.int (I (0 : Nat))))] [] (zMI S1 l δ) (0, 0) := fun hne => outer _ 0 hm S1 1 (Or.inr rfl) ⟨fun h => absurd h (by decide), fun g => absurd g.1 (fun g1 => by have := g.2.1; omega)⟩ sc q2 sM
  have go0 : G 21 p 0 9 = G 1 0 0 1 → G 29 p 0 0 = n → zJ E zm_X7_shows d mc ms kr kx 38 [(0, .inr (40, 0, 0)), (1, .inl (.int (I p))), (2, .inl (.int (I n))), (3, .inl (.int (I 0))), (4, .inl (.int (I (0 : Nat))))] [] (zMI S1 l δ) (0, 0) := fun a b => outer _ 0 hm S1 0 (Or.inl rfl) ⟨fun _ => ⟨a, by omega, fun th j h => by omega, fun j h => by omega⟩, fun _ => rfl⟩ sc q2 sM
  rw [hn]
  have h21 := h2.2.1
  conv => whnf
  repeat' (first
    | (refine ⟨0, 0, ⟨by omega, by omega⟩, ?_⟩)
    | (refine ⟨fun h => ?_, fun h => ?_⟩ <;> (try simp (disch := omega) only [I_0, I_add, I_sub, I_mul, I_neg, I_nat, I_lt, I_le, I_eq, Int.toNat_natCast, ne_eq, not_true, not_false_iff, zt0, zt1, zI_at, zpi_I, zpl_I, zpd_I, zcp_I, cpI_k, Int.reduceToNat, zu_s, zu_k, zu_i, zu_j, zu_n, e53, e54, e4] at h) <;> (try (exfalso; omega)) <;> conv => whnf)
    | (refine ⟨by first | rfl | assumption | exact zin1 rfl | exact Nat.le_of_ble_eq_true rfl | exact ⟨rfl, Or.inl rfl⟩ | exact ⟨rfl, Or.inr (Or.inl rfl)⟩ | exact ⟨rfl, Or.inr (Or.inr rfl)⟩ | exact ⟨Nat.le_of_ble_eq_true rfl, Nat.le_of_ble_eq_true rfl⟩ | exact trivial | omega | (simp (disch := omega) only [I_0, I_add, I_sub, I_mul, I_neg, I_nat, I_lt, I_le, I_eq, Int.toNat_natCast, ne_eq, not_true, not_false_iff, zt0, zt1, zI_at, zpi_I, zpl_I, zpd_I, zcp_I, cpI_k, Int.reduceToNat, zu_s, zu_k, zu_i, zu_j, zu_n, I_in, zarr, zin6, zin8, zin11, zin13, zin15, zin19, zin21, zin22, zin23, zin24, zin25, zin26, zin27, zin28, zin29, zin30, zin29s, zin30s, zin33, zin5, Nat.le_refl, and_self, Prod.mk.injEq, Nat.reduceEqDiff, false_and, not_false_iff, e53, e54, e4]; done) | (simp (disch := omega) only [I_0, I_add, I_sub, I_mul, I_neg, I_nat, I_lt, I_le, I_eq, Int.toNat_natCast, ne_eq, not_true, not_false_iff, zt0, zt1, zI_at, zpi_I, zpl_I, zpd_I, zcp_I, cpI_k, Int.reduceToNat, zu_s, zu_k, zu_i, zu_j, zu_n, I_in, zarr, zin6, zin8, zin11, zin13, zin15, zin19, zin21, zin22, zin23, zin24, zin25, zin26, zin27, zin28, zin29, zin30, zin29s, zin30s, zin33, zin5, Nat.le_refl, and_self, Prod.mk.injEq, Nat.reduceEqDiff, false_and, not_false_iff, e53, e54, e4] <;> omega), ?_⟩; conv => whnf)
    | (refine zif70 (by assumption) ?_; conv => whnf)
    | (refine ⟨_, rfl, ?_⟩; conv => whnf))
  all_goals first
    | exact hK _ _ _ _ _ (zJ_to (by (repeat' (first | exact trivial | (refine And.intro ?_ ?_) | (refine zlk_i rfl ?_; first | (with_reducible rfl) | (simp (disch := omega) only [I_0, I_add, I_sub, I_mul, I_neg, I_nat, I_lt, I_le, I_eq, Int.toNat_natCast, ne_eq, not_true, not_false_iff, zt0, zt1, zI_at, zpi_I, zpl_I, zpd_I, zcp_I, cpI_k, Int.reduceToNat, zu_s, zu_k, zu_i, zu_j, zu_n]; done) | (simp (disch := omega) only [I_0, I_add, I_sub, I_mul, I_neg, I_nat, I_lt, I_le, I_eq, Int.toNat_natCast, ne_eq, not_true, not_false_iff, zt0, zt1, zI_at, zpi_I, zpl_I, zpd_I, zcp_I, cpI_k, Int.reduceToNat, zu_s, zu_k, zu_i, zu_j, zu_n]; first | omega | (congr 1; omega)) | (congr 1; omega)) | rfl | (simp (disch := omega) only [I_0, I_add, I_sub, I_mul, I_neg, I_nat, I_lt, I_le, I_eq, Int.toNat_natCast, ne_eq, not_true, not_false_iff, zt0, zt1, zI_at, zpi_I, zpl_I, zpd_I, zcp_I, cpI_k, Int.reduceToNat, zu_s, zu_k, zu_i, zu_j, zu_n]; done) | (refine zlk_r rfl ?_; simp (disch := omega) only [I_0, I_add, I_sub, I_mul, I_neg, I_nat, I_lt, I_le, I_eq, Int.toNat_natCast, ne_eq, not_true, not_false_iff, zt0, zt1, zI_at, zpi_I, zpl_I, zpd_I, zcp_I, cpI_k, Int.reduceToNat, zu_s, zu_k, zu_i, zu_j, zu_n]; done)))) rfl rfl (go1 (by omega)))
    | exact hK _ _ _ _ _ (zJ_to (by (repeat' (first | exact trivial | (refine And.intro ?_ ?_) | (refine zlk_i rfl ?_; first | (with_reducible rfl) | (simp (disch := omega) only [I_0, I_add, I_sub, I_mul, I_neg, I_nat, I_lt, I_le, I_eq, Int.toNat_natCast, ne_eq, not_true, not_false_iff, zt0, zt1, zI_at, zpi_I, zpl_I, zpd_I, zcp_I, cpI_k, Int.reduceToNat, zu_s, zu_k, zu_i, zu_j, zu_n]; done) | (simp (disch := omega) only [I_0, I_add, I_sub, I_mul, I_neg, I_nat, I_lt, I_le, I_eq, Int.toNat_natCast, ne_eq, not_true, not_false_iff, zt0, zt1, zI_at, zpi_I, zpl_I, zpd_I, zcp_I, cpI_k, Int.reduceToNat, zu_s, zu_k, zu_i, zu_j, zu_n]; first | omega | (congr 1; omega)) | (congr 1; omega)) | rfl | (simp (disch := omega) only [I_0, I_add, I_sub, I_mul, I_neg, I_nat, I_lt, I_le, I_eq, Int.toNat_natCast, ne_eq, not_true, not_false_iff, zt0, zt1, zI_at, zpi_I, zpl_I, zpd_I, zcp_I, cpI_k, Int.reduceToNat, zu_s, zu_k, zu_i, zu_j, zu_n]; done) | (refine zlk_r rfl ?_; simp (disch := omega) only [I_0, I_add, I_sub, I_mul, I_neg, I_nat, I_lt, I_le, I_eq, Int.toNat_natCast, ne_eq, not_true, not_false_iff, zt0, zt1, zI_at, zpi_I, zpl_I, zpd_I, zcp_I, cpI_k, Int.reduceToNat, zu_s, zu_k, zu_i, zu_j, zu_n]; done)))) rfl rfl (go0 (by omega) (by omega)))
theorem m_Y_paints (h0 : zOk E) (hd : 12 ≤ d) {G : zS} (hG : inv0 G) (hR : RM G S) (hk : ∀ S', eqq swP S S' → RM (rpF G (G 0 0 0 3).toNat).1 S' → kr (some (.inl (.int (I (rpF G (G 0 0 0 3).toNat).2)))) (zI S', zu l 40 0 0 27 (l 40 0 0 27 + (I (rpF G (G 0 0 0 3).toNat).2).toInt64), δ, zR0, 176))
    : zC E zm_X7_paints d mc ms [.inr (40, 0, 0)] (zMI S l δ) kr kx := by
  have hnp := hG.1.2.2.2.2.1
  have loop : ∀ m x : Nat, (x : Int) + m = G 0 0 0 3 → ∀ S' : zS, eqq swP S S' → RM (rpF G x).1 S' → zJ E zm_X7_paints d mc ms kr kx 4 [(0, .inr (40, 0, 0)), (1, .inl (.int (I (rpF G x).2))), (2, .inl (.int (I x)))] [] (zMI S' l δ) (0, 0) := by
    intro m
    induction m with
    | zero =>
      intro x hx S' hS' hR'
      obtain ⟨hi, hsh, -, -⟩ := rpF_inv hG x (by omega)
      have e : S' 40 0 0 10 = G 0 0 0 3 := (hS' _ _ _ _ (by omega)).trans hR.1.2.2.2.1
      have : x = (G 0 0 0 3).toNat := by omega
      subst this
      have hk := hk S' hS' hR'
      refine zJ_at h0 100 zo_X7_paints rfl fun K hK => ?_
      conv => whnf
      repeat' (first
        | (refine ⟨0, 0, ⟨by omega, by omega⟩, ?_⟩)
        | (refine ⟨fun h => ?_, fun h => ?_⟩ <;> (try simp (disch := omega) only [I_0, I_add, I_sub, I_mul, I_neg, I_nat, I_lt, I_le, I_eq, Int.toNat_natCast, ne_eq, not_true, not_false_iff, zt0, zt1, zI_at, zpi_I, zpl_I, zpd_I, zcp_I, cpI_k, Int.reduceToNat, zu_s, zu_k, zu_i, zu_j, zu_n, e] at h) <;> (try (exfalso; omega)) <;> conv => whnf)
        | (refine ⟨by first | rfl | assumption | exact zin1 rfl | exact Nat.le_of_ble_eq_true rfl | exact ⟨rfl, Or.inl rfl⟩ | exact ⟨rfl, Or.inr (Or.inl rfl)⟩ | exact ⟨rfl, Or.inr (Or.inr rfl)⟩ | exact ⟨Nat.le_of_ble_eq_true rfl, Nat.le_of_ble_eq_true rfl⟩ | exact trivial | omega | (simp (disch := omega) only [I_0, I_add, I_sub, I_mul, I_neg, I_nat, I_lt, I_le, I_eq, Int.toNat_natCast, ne_eq, not_true, not_false_iff, zt0, zt1, zI_at, zpi_I, zpl_I, zpd_I, zcp_I, cpI_k, Int.reduceToNat, zu_s, zu_k, zu_i, zu_j, zu_n, I_in, zarr, zin6, zin8, zin11, zin13, zin15, zin19, zin21, zin22, zin23, zin24, zin25, zin26, zin27, zin28, zin29, zin30, zin29s, zin30s, zin33, zin5, Nat.le_refl, and_self, Prod.mk.injEq, Nat.reduceEqDiff, false_and, not_false_iff, e]; done) | (simp (disch := omega) only [I_0, I_add, I_sub, I_mul, I_neg, I_nat, I_lt, I_le, I_eq, Int.toNat_natCast, ne_eq, not_true, not_false_iff, zt0, zt1, zI_at, zpi_I, zpl_I, zpd_I, zcp_I, cpI_k, Int.reduceToNat, zu_s, zu_k, zu_i, zu_j, zu_n, I_in, zarr, zin6, zin8, zin11, zin13, zin15, zin19, zin21, zin22, zin23, zin24, zin25, zin26, zin27, zin28, zin29, zin30, zin29s, zin30s, zin33, zin5, Nat.le_refl, and_self, Prod.mk.injEq, Nat.reduceEqDiff, false_and, not_false_iff, e] <;> omega), ?_⟩; conv => whnf)
        | (refine zif70 (by assumption) ?_; conv => whnf)
        | (refine ⟨_, rfl, ?_⟩; conv => whnf))
      exact hk
    | succ m ih =>
      intro x hx S' hS' hR'
      obtain ⟨hi, hsh, hc0, hc1⟩ := rpF_inv hG x (by omega)
      have e : S' 40 0 0 10 = G 0 0 0 3 := (hS' _ _ _ _ (by omega)).trans hR.1.2.2.2.1
      have h8 : (rpF G x).1 21 x 0 8 = 0 ∨ (rpF G x).1 21 x 0 8 = 1 := by
        have := (hi.2.1 x (by omega)).1
        omega
      have e52 : S' 52 0 0 x = (rpF G x).1 21 x 0 8 := (hR'.2.2.2.2.2.1 x (by omega)).2.1
      have done : ∀ S2, eqq swP S S2 → RM (rpF G x).1 S2 → ¬ ((rpF G x).1 21 x 0 8 = 1 ∧ goodI (rpF G x).1 x ∧ ¬ showsI (rpF G x).1 x) → zJ E zm_X7_paints d mc ms kr kx 4 [(0, .inr (40, 0, 0)), (1, .inl (.int (I (rpF G x).2))), (2, .inl (.int (I (x + 1 : Nat))))] [] (zMI S2 l δ) (0, 0) := by
        intro S2 hs hr hno
        have h9 := ih (x + 1) (by omega) S2 hs (by simp only [rpF]; rw [if_neg hno]; exact hr)
        simp only [rpF] at h9
        rw [if_neg hno] at h9
        exact h9
      refine zJ_at h0 100 zo_X7_paints rfl fun K hK => ?_
      conv => whnf
      repeat' (first
        | (refine ⟨0, 0, ⟨by omega, by omega⟩, ?_⟩)
        | (refine ⟨fun h => ?_, fun h => ?_⟩ <;> (try simp (disch := omega) only [I_0, I_add, I_sub, I_mul, I_neg, I_nat, I_lt, I_le, I_eq, Int.toNat_natCast, ne_eq, not_true, not_false_iff, zt0, zt1, zI_at, zpi_I, zpl_I, zpd_I, zcp_I, cpI_k, Int.reduceToNat, zu_s, zu_k, zu_i, zu_j, zu_n, e, e52] at h) <;> (try (exfalso; omega)) <;> conv => whnf)
        | (refine ⟨by first | rfl | assumption | exact zin1 rfl | exact Nat.le_of_ble_eq_true rfl | exact ⟨rfl, Or.inl rfl⟩ | exact ⟨rfl, Or.inr (Or.inl rfl)⟩ | exact ⟨rfl, Or.inr (Or.inr rfl)⟩ | exact ⟨Nat.le_of_ble_eq_true rfl, Nat.le_of_ble_eq_true rfl⟩ | exact trivial | omega | (simp (disch := omega) only [I_0, I_add, I_sub, I_mul, I_neg, I_nat, I_lt, I_le, I_eq, Int.toNat_natCast, ne_eq, not_true, not_false_iff, zt0, zt1, zI_at, zpi_I, zpl_I, zpd_I, zcp_I, cpI_k, Int.reduceToNat, zu_s, zu_k, zu_i, zu_j, zu_n, I_in, zarr, zin6, zin8, zin11, zin13, zin15, zin19, zin21, zin22, zin23, zin24, zin25, zin26, zin27, zin28, zin29, zin30, zin29s, zin30s, zin33, zin5, Nat.le_refl, and_self, Prod.mk.injEq, Nat.reduceEqDiff, false_and, not_false_iff, e, e52]; done) | (simp (disch := omega) only [I_0, I_add, I_sub, I_mul, I_neg, I_nat, I_lt, I_le, I_eq, Int.toNat_natCast, ne_eq, not_true, not_false_iff, zt0, zt1, zI_at, zpi_I, zpl_I, zpd_I, zcp_I, cpI_k, Int.reduceToNat, zu_s, zu_k, zu_i, zu_j, zu_n, I_in, zarr, zin6, zin8, zin11, zin13, zin15, zin19, zin21, zin22, zin23, zin24, zin25, zin26, zin27, zin28, zin29, zin30, zin29s, zin30s, zin33, zin5, Nat.le_refl, and_self, Prod.mk.injEq, Nat.reduceEqDiff, false_and, not_false_iff, e, e52] <;> omega), ?_⟩; conv => whnf)
        | (refine zif70 (by assumption) ?_; conv => whnf)
        | (refine ⟨_, rfl, ?_⟩; conv => whnf))
      · refine hK _ _ _ _ _ (zJ_to ?_ rfl rfl (done S' hS' hR' (fun g => by omega)))
        exact ⟨rfl, zlk_i rfl ((I_add _ _).trans (congrArg I (by omega))), zlk_i rfl ((I_add _ _).trans (congrArg I (by omega))), trivial⟩
      · refine zC_to (m_Y_isGood h0 (by omega) hi.1 hR' (p := x) (by omega) (fun hg S2 q1 => ?_) (fun hg S2 q1 => ?_)) (by (repeat' (first | exact trivial | (refine And.intro ?_ ?_) | (refine zvi ?_; first | (with_reducible rfl) | (simp (disch := omega) only [I_0, I_add, I_sub, I_mul, I_neg, I_nat, I_lt, I_le, I_eq, Int.toNat_natCast, ne_eq, not_true, not_false_iff, zt0, zt1, zI_at, zpi_I, zpl_I, zpd_I, zcp_I, cpI_k, Int.reduceToNat, zu_s, zu_k, zu_i, zu_j, zu_n]; done) | (simp (disch := omega) only [I_0, I_add, I_sub, I_mul, I_neg, I_nat, I_lt, I_le, I_eq, Int.toNat_natCast, ne_eq, not_true, not_false_iff, zt0, zt1, zI_at, zpi_I, zpl_I, zpd_I, zcp_I, cpI_k, Int.reduceToNat, zu_s, zu_k, zu_i, zu_j, zu_n]; first | omega | (congr 1; omega)) | (congr 1; omega)) | rfl | (simp (disch := omega) only [I_0, I_add, I_sub, I_mul, I_neg, I_nat, I_lt, I_le, I_eq, Int.toNat_natCast, ne_eq, not_true, not_false_iff, zt0, zt1, zI_at, zpi_I, zpl_I, zpd_I, zcp_I, cpI_k, Int.reduceToNat, zu_s, zu_k, zu_i, zu_j, zu_n]; done) | (refine zlk_r rfl ?_; simp (disch := omega) only [I_0, I_add, I_sub, I_mul, I_neg, I_nat, I_lt, I_le, I_eq, Int.toNat_natCast, ne_eq, not_true, not_false_iff, zt0, zt1, zI_at, zpi_I, zpl_I, zpd_I, zcp_I, cpI_k, Int.reduceToNat, zu_s, zu_k, zu_i, zu_j, zu_n]; done)))) rfl
        · have hs2 : eqq swP S S2 := eqq_trans hS' (eqq_mono q1 (fun k i j n h => by omega))
          have hR2 : RM (rpF G x).1 S2 := RM_sc (eqq_mono q1 (fun k i j n h => by omega)) hR'
          conv => whnf
          repeat' (first
            | (refine ⟨0, 0, ⟨by omega, by omega⟩, ?_⟩)
            | (refine ⟨fun h => ?_, fun h => ?_⟩ <;> (try simp (disch := omega) only [I_0, I_add, I_sub, I_mul, I_neg, I_nat, I_lt, I_le, I_eq, Int.toNat_natCast, ne_eq, not_true, not_false_iff, zt0, zt1, zI_at, zpi_I, zpl_I, zpd_I, zcp_I, cpI_k, Int.reduceToNat, zu_s, zu_k, zu_i, zu_j, zu_n] at h) <;> (try (exfalso; omega)) <;> conv => whnf)
            | (refine ⟨by first | rfl | assumption | exact zin1 rfl | exact Nat.le_of_ble_eq_true rfl | exact ⟨rfl, Or.inl rfl⟩ | exact ⟨rfl, Or.inr (Or.inl rfl)⟩ | exact ⟨rfl, Or.inr (Or.inr rfl)⟩ | exact ⟨Nat.le_of_ble_eq_true rfl, Nat.le_of_ble_eq_true rfl⟩ | exact trivial | omega | (simp (disch := omega) only [I_0, I_add, I_sub, I_mul, I_neg, I_nat, I_lt, I_le, I_eq, Int.toNat_natCast, ne_eq, not_true, not_false_iff, zt0, zt1, zI_at, zpi_I, zpl_I, zpd_I, zcp_I, cpI_k, Int.reduceToNat, zu_s, zu_k, zu_i, zu_j, zu_n, I_in, zarr, zin6, zin8, zin11, zin13, zin15, zin19, zin21, zin22, zin23, zin24, zin25, zin26, zin27, zin28, zin29, zin30, zin29s, zin30s, zin33, zin5, Nat.le_refl, and_self, Prod.mk.injEq, Nat.reduceEqDiff, false_and, not_false_iff]; done) | (simp (disch := omega) only [I_0, I_add, I_sub, I_mul, I_neg, I_nat, I_lt, I_le, I_eq, Int.toNat_natCast, ne_eq, not_true, not_false_iff, zt0, zt1, zI_at, zpi_I, zpl_I, zpd_I, zcp_I, cpI_k, Int.reduceToNat, zu_s, zu_k, zu_i, zu_j, zu_n, I_in, zarr, zin6, zin8, zin11, zin13, zin15, zin19, zin21, zin22, zin23, zin24, zin25, zin26, zin27, zin28, zin29, zin30, zin29s, zin30s, zin33, zin5, Nat.le_refl, and_self, Prod.mk.injEq, Nat.reduceEqDiff, false_and, not_false_iff] <;> omega), ?_⟩; conv => whnf)
            | (refine zif70 (by assumption) ?_; conv => whnf)
            | (refine ⟨_, rfl, ?_⟩; conv => whnf))
          refine zC_to (m_Y_shows h0 (by omega) hi hR2 (p := x) (by omega) (fun hs S3 q3 q4 => ?_) (fun hs S3 q3 q4 => ?_)) (by (repeat' (first | exact trivial | (refine And.intro ?_ ?_) | (refine zvi ?_; first | (with_reducible rfl) | (simp (disch := omega) only [I_0, I_add, I_sub, I_mul, I_neg, I_nat, I_lt, I_le, I_eq, Int.toNat_natCast, ne_eq, not_true, not_false_iff, zt0, zt1, zI_at, zpi_I, zpl_I, zpd_I, zcp_I, cpI_k, Int.reduceToNat, zu_s, zu_k, zu_i, zu_j, zu_n]; done) | (simp (disch := omega) only [I_0, I_add, I_sub, I_mul, I_neg, I_nat, I_lt, I_le, I_eq, Int.toNat_natCast, ne_eq, not_true, not_false_iff, zt0, zt1, zI_at, zpi_I, zpl_I, zpd_I, zcp_I, cpI_k, Int.reduceToNat, zu_s, zu_k, zu_i, zu_j, zu_n]; first | omega | (congr 1; omega)) | (congr 1; omega)) | rfl | (simp (disch := omega) only [I_0, I_add, I_sub, I_mul, I_neg, I_nat, I_lt, I_le, I_eq, Int.toNat_natCast, ne_eq, not_true, not_false_iff, zt0, zt1, zI_at, zpi_I, zpl_I, zpd_I, zcp_I, cpI_k, Int.reduceToNat, zu_s, zu_k, zu_i, zu_j, zu_n]; done) | (refine zlk_r rfl ?_; simp (disch := omega) only [I_0, I_add, I_sub, I_mul, I_neg, I_nat, I_lt, I_le, I_eq, Int.toNat_natCast, ne_eq, not_true, not_false_iff, zt0, zt1, zI_at, zpi_I, zpl_I, zpd_I, zcp_I, cpI_k, Int.reduceToNat, zu_s, zu_k, zu_i, zu_j, zu_n]; done)))) rfl
          · have hyes : (rpF G x).1 21 x 0 8 = 1 ∧ goodI (rpF G x).1 x ∧ ¬ showsI (rpF G x).1 x := ⟨by omega, hg, hs⟩
            have h9 := ih (x + 1) (by omega) S3 (eqq_trans hs2 q3) (by simp only [rpF]; rw [if_pos hyes]; exact q4)
            simp only [rpF] at h9
            rw [if_pos hyes] at h9
            conv => whnf
            repeat' (first
              | (refine ⟨0, 0, ⟨by omega, by omega⟩, ?_⟩)
              | (refine ⟨fun h => ?_, fun h => ?_⟩ <;> (try simp (disch := omega) only [I_0, I_add, I_sub, I_mul, I_neg, I_nat, I_lt, I_le, I_eq, Int.toNat_natCast, ne_eq, not_true, not_false_iff, zt0, zt1, zI_at, zpi_I, zpl_I, zpd_I, zcp_I, cpI_k, Int.reduceToNat, zu_s, zu_k, zu_i, zu_j, zu_n] at h) <;> (try (exfalso; omega)) <;> conv => whnf)
              | (refine ⟨by first | rfl | assumption | exact zin1 rfl | exact Nat.le_of_ble_eq_true rfl | exact ⟨rfl, Or.inl rfl⟩ | exact ⟨rfl, Or.inr (Or.inl rfl)⟩ | exact ⟨rfl, Or.inr (Or.inr rfl)⟩ | exact ⟨Nat.le_of_ble_eq_true rfl, Nat.le_of_ble_eq_true rfl⟩ | exact trivial | omega | (simp (disch := omega) only [I_0, I_add, I_sub, I_mul, I_neg, I_nat, I_lt, I_le, I_eq, Int.toNat_natCast, ne_eq, not_true, not_false_iff, zt0, zt1, zI_at, zpi_I, zpl_I, zpd_I, zcp_I, cpI_k, Int.reduceToNat, zu_s, zu_k, zu_i, zu_j, zu_n, I_in, zarr, zin6, zin8, zin11, zin13, zin15, zin19, zin21, zin22, zin23, zin24, zin25, zin26, zin27, zin28, zin29, zin30, zin29s, zin30s, zin33, zin5, Nat.le_refl, and_self, Prod.mk.injEq, Nat.reduceEqDiff, false_and, not_false_iff]; done) | (simp (disch := omega) only [I_0, I_add, I_sub, I_mul, I_neg, I_nat, I_lt, I_le, I_eq, Int.toNat_natCast, ne_eq, not_true, not_false_iff, zt0, zt1, zI_at, zpi_I, zpl_I, zpd_I, zcp_I, cpI_k, Int.reduceToNat, zu_s, zu_k, zu_i, zu_j, zu_n, I_in, zarr, zin6, zin8, zin11, zin13, zin15, zin19, zin21, zin22, zin23, zin24, zin25, zin26, zin27, zin28, zin29, zin30, zin29s, zin30s, zin33, zin5, Nat.le_refl, and_self, Prod.mk.injEq, Nat.reduceEqDiff, false_and, not_false_iff] <;> omega), ?_⟩; conv => whnf)
              | (refine zif70 (by assumption) ?_; conv => whnf)
              | (refine ⟨_, rfl, ?_⟩; conv => whnf))
            refine hK _ _ _ _ _ (zJ_to ?_ rfl rfl h9)
            exact ⟨rfl, zlk_i rfl ((I_add _ _).trans (congrArg I (by omega))), zlk_i rfl ((I_add _ _).trans (congrArg I (by omega))), trivial⟩
          · conv => whnf
            repeat' (first
              | (refine ⟨0, 0, ⟨by omega, by omega⟩, ?_⟩)
              | (refine ⟨fun h => ?_, fun h => ?_⟩ <;> (try simp (disch := omega) only [I_0, I_add, I_sub, I_mul, I_neg, I_nat, I_lt, I_le, I_eq, Int.toNat_natCast, ne_eq, not_true, not_false_iff, zt0, zt1, zI_at, zpi_I, zpl_I, zpd_I, zcp_I, cpI_k, Int.reduceToNat, zu_s, zu_k, zu_i, zu_j, zu_n] at h) <;> (try (exfalso; omega)) <;> conv => whnf)
              | (refine ⟨by first | rfl | assumption | exact zin1 rfl | exact Nat.le_of_ble_eq_true rfl | exact ⟨rfl, Or.inl rfl⟩ | exact ⟨rfl, Or.inr (Or.inl rfl)⟩ | exact ⟨rfl, Or.inr (Or.inr rfl)⟩ | exact ⟨Nat.le_of_ble_eq_true rfl, Nat.le_of_ble_eq_true rfl⟩ | exact trivial | omega | (simp (disch := omega) only [I_0, I_add, I_sub, I_mul, I_neg, I_nat, I_lt, I_le, I_eq, Int.toNat_natCast, ne_eq, not_true, not_false_iff, zt0, zt1, zI_at, zpi_I, zpl_I, zpd_I, zcp_I, cpI_k, Int.reduceToNat, zu_s, zu_k, zu_i, zu_j, zu_n, I_in, zarr, zin6, zin8, zin11, zin13, zin15, zin19, zin21, zin22, zin23, zin24, zin25, zin26, zin27, zin28, zin29, zin30, zin29s, zin30s, zin33, zin5, Nat.le_refl, and_self, Prod.mk.injEq, Nat.reduceEqDiff, false_and, not_false_iff]; done) | (simp (disch := omega) only [I_0, I_add, I_sub, I_mul, I_neg, I_nat, I_lt, I_le, I_eq, Int.toNat_natCast, ne_eq, not_true, not_false_iff, zt0, zt1, zI_at, zpi_I, zpl_I, zpd_I, zcp_I, cpI_k, Int.reduceToNat, zu_s, zu_k, zu_i, zu_j, zu_n, I_in, zarr, zin6, zin8, zin11, zin13, zin15, zin19, zin21, zin22, zin23, zin24, zin25, zin26, zin27, zin28, zin29, zin30, zin29s, zin30s, zin33, zin5, Nat.le_refl, and_self, Prod.mk.injEq, Nat.reduceEqDiff, false_and, not_false_iff] <;> omega), ?_⟩; conv => whnf)
              | (refine zif70 (by assumption) ?_; conv => whnf)
              | (refine ⟨_, rfl, ?_⟩; conv => whnf))
            refine hK _ _ _ _ _ (zJ_to ?_ rfl rfl (done S3 (eqq_trans hs2 q3) q4 (fun g => g.2.2 hs)))
            exact ⟨rfl, zlk_i rfl ((I_add _ _).trans (congrArg I (by omega))), zlk_i rfl ((I_add _ _).trans (congrArg I (by omega))), trivial⟩
        · conv => whnf
          repeat' (first
            | (refine ⟨0, 0, ⟨by omega, by omega⟩, ?_⟩)
            | (refine ⟨fun h => ?_, fun h => ?_⟩ <;> (try simp (disch := omega) only [I_0, I_add, I_sub, I_mul, I_neg, I_nat, I_lt, I_le, I_eq, Int.toNat_natCast, ne_eq, not_true, not_false_iff, zt0, zt1, zI_at, zpi_I, zpl_I, zpd_I, zcp_I, cpI_k, Int.reduceToNat, zu_s, zu_k, zu_i, zu_j, zu_n] at h) <;> (try (exfalso; omega)) <;> conv => whnf)
            | (refine ⟨by first | rfl | assumption | exact zin1 rfl | exact Nat.le_of_ble_eq_true rfl | exact ⟨rfl, Or.inl rfl⟩ | exact ⟨rfl, Or.inr (Or.inl rfl)⟩ | exact ⟨rfl, Or.inr (Or.inr rfl)⟩ | exact ⟨Nat.le_of_ble_eq_true rfl, Nat.le_of_ble_eq_true rfl⟩ | exact trivial | omega | (simp (disch := omega) only [I_0, I_add, I_sub, I_mul, I_neg, I_nat, I_lt, I_le, I_eq, Int.toNat_natCast, ne_eq, not_true, not_false_iff, zt0, zt1, zI_at, zpi_I, zpl_I, zpd_I, zcp_I, cpI_k, Int.reduceToNat, zu_s, zu_k, zu_i, zu_j, zu_n, I_in, zarr, zin6, zin8, zin11, zin13, zin15, zin19, zin21, zin22, zin23, zin24, zin25, zin26, zin27, zin28, zin29, zin30, zin29s, zin30s, zin33, zin5, Nat.le_refl, and_self, Prod.mk.injEq, Nat.reduceEqDiff, false_and, not_false_iff]; done) | (simp (disch := omega) only [I_0, I_add, I_sub, I_mul, I_neg, I_nat, I_lt, I_le, I_eq, Int.toNat_natCast, ne_eq, not_true, not_false_iff, zt0, zt1, zI_at, zpi_I, zpl_I, zpd_I, zcp_I, cpI_k, Int.reduceToNat, zu_s, zu_k, zu_i, zu_j, zu_n, I_in, zarr, zin6, zin8, zin11, zin13, zin15, zin19, zin21, zin22, zin23, zin24, zin25, zin26, zin27, zin28, zin29, zin30, zin29s, zin30s, zin33, zin5, Nat.le_refl, and_self, Prod.mk.injEq, Nat.reduceEqDiff, false_and, not_false_iff] <;> omega), ?_⟩; conv => whnf)
            | (refine zif70 (by assumption) ?_; conv => whnf)
            | (refine ⟨_, rfl, ?_⟩; conv => whnf))
          refine hK _ _ _ _ _ (zJ_to ?_ rfl rfl (done S2 (eqq_trans hS' (eqq_mono q1 (fun k i j n h => by omega))) (RM_sc (eqq_mono q1 (fun k i j n h => by omega)) hR') (fun g => hg g.2.1)))
          exact ⟨rfl, zlk_i rfl ((I_add _ _).trans (congrArg I (by omega))), zlk_i rfl ((I_add _ _).trans (congrArg I (by omega))), trivial⟩
  refine zC_of h0 (by decide +kernel) (Nat.le_of_ble_eq_true rfl) (Or.inl rfl) (zJ_cut h0 100 4 zo_X7_paints rfl fun K hK => ?_)
  conv => whnf
  repeat' (first
    | (refine ⟨0, 0, ⟨by omega, by omega⟩, ?_⟩)
    | (refine ⟨fun h => ?_, fun h => ?_⟩ <;> (try simp (disch := omega) only [I_0, I_add, I_sub, I_mul, I_neg, I_nat, I_lt, I_le, I_eq, Int.toNat_natCast, ne_eq, not_true, not_false_iff, zt0, zt1, zI_at, zpi_I, zpl_I, zpd_I, zcp_I, cpI_k, Int.reduceToNat, zu_s, zu_k, zu_i, zu_j, zu_n] at h) <;> (try (exfalso; omega)) <;> conv => whnf)
    | (refine ⟨by first | rfl | assumption | exact zin1 rfl | exact Nat.le_of_ble_eq_true rfl | exact ⟨rfl, Or.inl rfl⟩ | exact ⟨rfl, Or.inr (Or.inl rfl)⟩ | exact ⟨rfl, Or.inr (Or.inr rfl)⟩ | exact ⟨Nat.le_of_ble_eq_true rfl, Nat.le_of_ble_eq_true rfl⟩ | exact trivial | omega | (simp (disch := omega) only [I_0, I_add, I_sub, I_mul, I_neg, I_nat, I_lt, I_le, I_eq, Int.toNat_natCast, ne_eq, not_true, not_false_iff, zt0, zt1, zI_at, zpi_I, zpl_I, zpd_I, zcp_I, cpI_k, Int.reduceToNat, zu_s, zu_k, zu_i, zu_j, zu_n, I_in, zarr, zin6, zin8, zin11, zin13, zin15, zin19, zin21, zin22, zin23, zin24, zin25, zin26, zin27, zin28, zin29, zin30, zin29s, zin30s, zin33, zin5, Nat.le_refl, and_self, Prod.mk.injEq, Nat.reduceEqDiff, false_and, not_false_iff]; done) | (simp (disch := omega) only [I_0, I_add, I_sub, I_mul, I_neg, I_nat, I_lt, I_le, I_eq, Int.toNat_natCast, ne_eq, not_true, not_false_iff, zt0, zt1, zI_at, zpi_I, zpl_I, zpd_I, zcp_I, cpI_k, Int.reduceToNat, zu_s, zu_k, zu_i, zu_j, zu_n, I_in, zarr, zin6, zin8, zin11, zin13, zin15, zin19, zin21, zin22, zin23, zin24, zin25, zin26, zin27, zin28, zin29, zin30, zin29s, zin30s, zin33, zin5, Nat.le_refl, and_self, Prod.mk.injEq, Nat.reduceEqDiff, false_and, not_false_iff] <;> omega), ?_⟩; conv => whnf)
    | (refine zif70 (by assumption) ?_; conv => whnf)
    | (refine ⟨_, rfl, ?_⟩; conv => whnf))
  refine hK _ _ _ _ _ (zJ_to ?_ rfl rfl (loop (G 0 0 0 3).toNat 0 (by omega) S eqq_rfl hR))
  exact ⟨rfl, zlk_i rfl rfl, zlk_i rfl rfl, trivial⟩
end M4
