/-! ===== a component added, a variant's front put ===== -/
/-- the places of what is derived: kept, shown now, saved, listed, laid out -/
abbrev drP : Nat → Nat → Nat → Nat → Prop := fun k i j m => k = 8 ∨ k = 13 ∨ k = 16 ∨ k = 17 ∨ k = 19 ∨ (k = 21 ∧ m = 5) ∨ k = 25 ∨ k = 27 ∨ (k = 29 ∧ i = 5) ∨ (k = 30 ∧ i = 5)
theorem tkI_congr1 {S S' : zS} {o : Nat × Nat} (h : ∀ x, S' 11 o.1 0 x = S 11 o.1 0 x) (q : Nat) : tkI S' o q = tkI S o q := by
  unfold tkI frI
  simp only [h]
/-- a component more -/
def acS (S : zS) (n : Nat) (a b c : Int) : zS := zu (zu (zu (zu S 11 n 0 0 a) 11 n 0 1 b) 11 n 0 2 c) 9 0 0 0 (n + 1)
theorem acS_ok {S G : zS} (hS : inv0 S) (hV : KV S) {n : Nat} (hn : S 9 0 0 0 = n) (hn2 : n < 8) {a b c : Int} (ha : 0 ≤ a ∧ a < S 1 0 0 0) (hb : 0 ≤ b ∧ b < S 1 0 0 0) (hc : 0 ≤ c ∧ c < S 1 0 0 0) (hG : eqx [16, 19] (acS S n a b c) G) (ho : ∀ c', c' < n + 1 → ownI G c' (owL (fun c s => S 15 c 0 s) c')) : inv0 G ∧ KV G := by
  have h9 : G 9 0 0 0 = n + 1 := by rw [hG 9 (by decide)]; unfold acS; rw [zu_s]
  have h : eqq (fun k i j m => (k = 9 ∧ m = 0) ∨ (k = 11 ∧ i = n ∧ m < 3) ∨ k = 16 ∨ k = 19) S G := fun k i j m hk => by
    have hk2 : ¬ [16, 19].contains k = true := by
      intro e
      have e := List.contains_iff_mem.mp e
      simp only [List.mem_cons, List.not_mem_nil, or_false] at e
      omega
    rw [hG k hk2]
    unfold acS zu
    rw [if_neg (by omega), if_neg (by omega), if_neg (by omega), if_neg (by omega)]
  have f11 : ∀ x, x < 3 → 0 ≤ G 11 n 0 x ∧ G 11 n 0 x < S 1 0 0 0 := fun x hx => by
    rw [hG 11 (by decide)]
    unfold acS
    have : x = 0 ∨ x = 1 ∨ x = 2 := by omega
    rcases this with rfl | rfl | rfl
    · rw [zu_k (by decide), zu_n (by decide), zu_n (by decide), zu_s]; exact ha
    · rw [zu_k (by decide), zu_n (by decide), zu_s]; exact hb
    · rw [zu_k (by decide), zu_s]; exact hc
  revert ho h9 f11
  generalize hS' : G = S' at h hG
  intro ho h9 f11
  have e0 : ∀ i j n, S' 0 i j n = S 0 i j n := fun i j n => h _ _ _ _ (by omega)
  have e1 : ∀ i j n, S' 1 i j n = S 1 i j n := fun i j n => h _ _ _ _ (by omega)
  have e2 : ∀ i j n, S' 2 i j n = S 2 i j n := fun i j n => h _ _ _ _ (by omega)
  have e3 : ∀ i j n, S' 3 i j n = S 3 i j n := fun i j n => h _ _ _ _ (by omega)
  have e6 : ∀ i j n, S' 6 i j n = S 6 i j n := fun i j n => h _ _ _ _ (by omega)
  have e15 : ∀ i j n, S' 15 i j n = S 15 i j n := fun i j n => h _ _ _ _ (by omega)
  have e21 : ∀ i j n, S' 21 i j n = S 21 i j n := fun i j n => h _ _ _ _ (by omega)
  have e22 : ∀ i j n, S' 22 i j n = S 22 i j n := fun i j n => h _ _ _ _ (by omega)
  have e23 : ∀ i j n, S' 23 i j n = S 23 i j n := fun i j n => h _ _ _ _ (by omega)
  have e24 : ∀ i j n, S' 24 i j n = S 24 i j n := fun i j n => h _ _ _ _ (by omega)
  have e24' : ∀ i j, S' 24 i j = S 24 i j := fun i j => funext fun n => e24 i j n
  have e25 : ∀ i j n, S' 25 i j n = S 25 i j n := fun i j n => h _ _ _ _ (by omega)
  have e29 : ∀ i j n, S' 29 i j n = S 29 i j n := fun i j n => h _ _ _ _ (by omega)
  have e30 : ∀ i j n, S' 30 i j n = S 30 i j n := fun i j n => h _ _ _ _ (by omega)
  have e31 : ∀ i j n, S' 31 i j n = S 31 i j n := fun i j n => h _ _ _ _ (by omega)
  have e33 : ∀ i j n, S' 33 i j n = S 33 i j n := fun i j n => h _ _ _ _ (by omega)
  have e11 : ∀ q, q ≠ n → ∀ x, S' 11 q 0 x = S 11 q 0 x := fun q hq x => h _ _ _ _ (by omega)
  have e11n : ∀ x, 3 ≤ x → S' 11 n 0 x = S 11 n 0 x := fun x hx => h _ _ _ _ (by omega)
  refine ⟨?_, KV_congr (fun k i j m hk => h _ _ _ _ (by omega)) hV⟩
  obtain ⟨⟨h1, h2, h3, h4, h6⟩, h7, h8⟩ := hS
  refine ⟨⟨?_, ?_, ?_, fun q hq => ?_, ?_⟩, fun q hq => ?_, ?_⟩
  · unfold wfT at h1 ⊢
    simp only [e1, e2, e3, e6]
    exact h1
  · unfold wfL at h2 ⊢
    simp only [e31]
    exact h2
  · unfold invC at h3 ⊢
    rw [h9]
    simp only [e1, e15]
    refine ⟨by omega, fun c' x hc' hx => ?_, fun c' x hc' hx => ?_, h3.2.2.2.1, fun c' s hc' hs hle => h3.2.2.2.2.1 c' s hc' hs (by omega), h3.2.2.2.2.2.1, fun c' hc' => ho c' (by omega)⟩
    · by_cases g : c' = n
      · subst g
        by_cases g2 : x < 3
        · have := f11 x g2; omega
        · rw [e11n x (by omega)]; exact h3.2.1 c' x hc' hx
      · rw [e11 c' g]; exact h3.2.1 c' x hc' hx
    · by_cases g : c' = n
      · subst g; exact (f11 x hx).1
      · rw [e11 c' g]; exact h3.2.2.1 c' x (by omega) hx
  · have h4 := h4 q hq
    have hps : pgP S' q (S 21 q 0 0).toNat = pgP S q (S 21 q 0 0).toNat := pgP_congr e15 e22 e23 _
    unfold invP1 at h4 ⊢
    rw [h9]
    simp only [e0, e1, e21, e22, e23, e24, e24', hps]
    refine ⟨h4.1, fun u hu => by have := h4.2.1 u hu; omega, h4.2.2.1, h4.2.2.2.1, h4.2.2.2.2.1, ?_, h4.2.2.2.2.2.2⟩
    have hr := h4.2.2.2.2.2.1
    refine ⟨(e21 q 0 5).trans hr.1, fun r x hr1 hx => ?_⟩
    have hb1 := pgP_getD h4.2.1 (by omega) h3.2.2.2.1 (u := (S 21 q 0 0).toNat) (by have := h4.1; omega) hr1
    rw [e25, tkI_congr1 (S := S) (S' := S') (fun x => e11 _ (by omega) x)]
    exact hr.2 r x hr1 hx
  · unfold invN at h6 ⊢
    simp only [e0, e1, e33]
    exact h6
  · have h7 := h7 q hq
    unfold invP2 at h7 ⊢
    simp only [e1, e21, e29]
    exact h7
  · unfold invV at h8 ⊢
    simp only [e29, e30]
    exact h8
/-- what a change of definitions, components and slots needs to keep the invariant, once all is laid out -/
theorem inv0_lay {S S' G : zS} (h : eqq (fun k i j m => k = 6 ∨ k = 3 ∨ k = 8 ∨ k = 11 ∨ k = 13 ∨ k = 15 ∨ k = 16 ∨ k = 17 ∨ k = 19 ∨ (k = 21 ∧ m = 5) ∨ k = 25 ∨ k = 27 ∨ (k = 29 ∧ i = 5) ∨ (k = 30 ∧ i = 5) ∨ 40 ≤ k) S S') (hS : inv0 S) (h5 : ∀ p : Nat, p < 4 → S 0 0 0 3 ≤ p → S' 21 p 0 5 = S 21 p 0 5) (hT : wfT S') (hC : invC S') (hG : eqq (layP (S 0 0 0 3).toNat) S' G) (hr : ∀ p, p < (S 0 0 0 3).toNat → rgI G p (pgP S' p (S' 21 p 0 0).toNat)) : inv0 G := by
  have hnp := hS.1.2.2.2.2.1
  have e9 : S' 9 0 0 0 = S 9 0 0 0 := h _ _ _ _ (by omega)
  have e1 : ∀ n, S' 1 0 0 n = S 1 0 0 n := fun n => h _ _ _ _ (by omega)
  obtain ⟨⟨h1, h2, h3, h4, h6⟩, h7, h8⟩ := hS
  have k2 : eqq (fun k i j m => k = 6 ∨ k = 3 ∨ k = 8 ∨ k = 11 ∨ k = 13 ∨ k = 15 ∨ k = 16 ∨ k = 17 ∨ k = 19 ∨ (k = 21 ∧ m = 5) ∨ k = 25 ∨ k = 27 ∨ (k = 29 ∧ i = 5) ∨ (k = 30 ∧ i = 5) ∨ 40 ≤ k) S G := fun k i j m hk => by rw [hG k i j m (by omega), h k i j m hk]
  have g15 : ∀ i j n, G 15 i j n = S' 15 i j n := fun i j n => hG _ _ _ _ (by omega)
  have g22 : ∀ i j n, G 22 i j n = S' 22 i j n := fun i j n => hG _ _ _ _ (by omega)
  have g23 : ∀ i j n, G 23 i j n = S' 23 i j n := fun i j n => hG _ _ _ _ (by omega)
  have g6 : ∀ i j n, G 6 i j n = S' 6 i j n := fun i j n => hG _ _ _ _ (by omega)
  have g1 : ∀ i j n, G 1 i j n = S' 1 i j n := fun i j n => hG _ _ _ _ (by omega)
  have g2 : ∀ i j n, G 2 i j n = S' 2 i j n := fun i j n => hG _ _ _ _ (by omega)
  have g3 : ∀ i j n, G 3 i j n = S' 3 i j n := fun i j n => hG _ _ _ _ (by omega)
  have g9 : ∀ i j n, G 9 i j n = S' 9 i j n := fun i j n => hG _ _ _ _ (by omega)
  have g11 : ∀ i j n, G 11 i j n = S' 11 i j n := fun i j n => hG _ _ _ _ (by omega)
  have g16 : ∀ i j n, G 16 i j n = S' 16 i j n := fun i j n => hG _ _ _ _ (by omega)
  have g19 : ∀ i j n, G 19 i j n = S' 19 i j n := fun i j n => hG _ _ _ _ (by omega)
  have e210 : S' 21 = S' 21 := rfl
  have e0 : ∀ i j n, G 0 i j n = S 0 i j n := fun i j n => k2 _ _ _ _ (by omega)
  have f1 : ∀ i j n, G 1 i j n = S 1 i j n := fun i j n => k2 _ _ _ _ (by omega)
  have f9 : ∀ i j n, G 9 i j n = S 9 i j n := fun i j n => k2 _ _ _ _ (by omega)
  have f22 : ∀ i j n, G 22 i j n = S 22 i j n := fun i j n => k2 _ _ _ _ (by omega)
  have f23 : ∀ i j n, G 23 i j n = S 23 i j n := fun i j n => k2 _ _ _ _ (by omega)
  have f24 : ∀ i j n, G 24 i j n = S 24 i j n := fun i j n => k2 _ _ _ _ (by omega)
  have f24' : ∀ i j, G 24 i j = S 24 i j := fun i j => funext fun n => f24 i j n
  have f210 : ∀ i j, G 21 i j 0 = S 21 i j 0 := fun i j => k2 _ _ _ _ (by omega)
  have f213 : ∀ i j, G 21 i j 3 = S 21 i j 3 := fun i j => k2 _ _ _ _ (by omega)
  have f218 : ∀ i j, G 21 i j 8 = S 21 i j 8 := fun i j => k2 _ _ _ _ (by omega)
  have f219 : ∀ i j, G 21 i j 9 = S 21 i j 9 := fun i j => k2 _ _ _ _ (by omega)
  have f29 : ∀ i j n, ¬ i = 5 → G 29 i j n = S 29 i j n := fun i j n hi => k2 _ _ _ _ (by omega)
  have f30 : ∀ i j n, ¬ i = 5 → G 30 i j n = S 30 i j n := fun i j n hi => k2 _ _ _ _ (by omega)
  have f31 : ∀ i j n, G 31 i j n = S 31 i j n := fun i j n => k2 _ _ _ _ (by omega)
  have f33 : ∀ i j n, G 33 i j n = S 33 i j n := fun i j n => k2 _ _ _ _ (by omega)
  refine ⟨⟨?_, ?_, ?_, fun q hq => ?_, ?_⟩, fun q hq => ?_, ?_⟩
  · unfold wfT at hT ⊢
    simp only [g1, g2, g3, g6]
    exact hT
  · unfold wfL at h2 ⊢
    simp only [f31]
    exact h2
  · unfold invC ownI at hC ⊢
    simp only [g1, g9, g11, g15, g16, g19]
    exact hC
  · have h4 := h4 q hq
    have hu0 : S' 21 q 0 0 = S 21 q 0 0 := h _ _ _ _ (by omega)
    unfold invP1 at h4 ⊢
    simp only [e0, f1, f9, f210, f213, f218, f22, f23, f24, f24']
    refine ⟨h4.1, h4.2.1, h4.2.2.1, h4.2.2.2.1, h4.2.2.2.2.1, ?_, h4.2.2.2.2.2.2⟩
    rw [pgP_congr g15 g22 g23]
    by_cases g : q < (S 0 0 0 3).toNat
    · have := hr q g
      rw [hu0] at this
      exact this
    · have z := h4.2.2.2.2.2.2 (by omega)
      have hr := h4.2.2.2.2.2.1
      rw [z.1] at hr ⊢
      refine ⟨?_, fun r x hr1 => absurd hr1 (Nat.not_lt_zero _)⟩
      rw [hG 21 q 0 5 (by omega), h5 q hq (by omega)]
      exact hr.1
  · unfold invN at h6 ⊢
    simp only [e0, f1, f33]
    exact h6
  · have h7 := h7 q hq
    have f29q : ∀ j n, G 29 q j n = S 29 q j n := fun j n => f29 q j n (by omega)
    unfold invP2 at h7 ⊢
    simp only [f1, f218, f219, f29q]
    exact h7
  · intro i j hij
    have h8 := h8 i j hij
    have f29q : ∀ j n, G 29 i j n = S 29 i j n := fun j n => f29 i j n (by omega)
    have f30q : ∀ j n, G 30 i j n = S 30 i j n := fun j n => f30 i j n (by omega)
    simp only [f29q, f30q]
    exact h8
theorem wfP_of {S : zS} (hT : wfT S) (hC : invC S) {p : Nat} (h0 : 0 ≤ S 21 p 0 0 ∧ S 21 p 0 0 ≤ 6) (hu : ∀ u : Nat, (u : Int) < S 21 p 0 0 → (0 ≤ S 22 p 0 u ∧ S 22 p 0 u < S 9 0 0 0) ∧ (0 ≤ S 23 p 0 u ∧ S 23 p 0 u ≤ 2)) : wfP S p :=
  ⟨hC.1, h0, hu, fun c x hc hx => by have := hC.2.1 c x hc hx; have := hT.1; omega, hC.2.2.2.1, fun c hc => hC.2.2.2.2.2.1 c (by have := hC.1; omega)⟩
section AC
variable {E : zEn} {d mc ms : Nat} {kr : Option zV → zM → Prop} {kx : String → zM → Prop} {l : Nat → Nat → Nat → Nat → Int64} {δ : Nat → Nat → Nat → Nat → UInt64} {S : zS}
theorem m_addComponent (h0 : zOk E) (hd : 4 ≤ d) (hS : inv0 S) (hV : KV S) {n : Nat} (hn : S 9 0 0 0 = n) (hn2 : n < 8) {a b c : Int} (ha : 0 ≤ a ∧ a < S 1 0 0 0) (hb : 0 ≤ b ∧ b < S 1 0 0 0) (hc : 0 ≤ c ∧ c < S 1 0 0 0) (hk : ∀ S', inv0 S' → KV S' → eqq drP (acS S n a b c) S' → kr (some (.inl (.int (I n)))) (zMI S' l δ))
    : zC E zm_X6_addComponent d mc ms [.inr (0, 0, 0), .inl (.int (I a)), .inl (.int (I b)), .inl (.int (I c))] (zMI S l δ) kr kx := by
  have hnt := hS.1.1.1
  have hC := hS.1.2.2.1
  refine zC_of h0 (by decide +kernel) (Nat.le_of_ble_eq_true rfl) (Or.inl rfl) (zJ_cut h0 100 1000 zo_X6_addComponent rfl fun K hK => ?_)
  conv => whnf
  repeat' (first
    | (refine ⟨0, 0, ⟨by omega, by omega⟩, ?_⟩)
    | (refine ⟨fun h => ?_, fun h => ?_⟩ <;> (try simp (disch := omega) only [I_0, I_add, I_sub, I_mul, I_neg, I_nat, I_lt, I_le, I_eq, Int.toNat_natCast, ne_eq, not_true, not_false_iff, zt0, zt1, zI_at, zpi_I, zpl_I, zpd_I, zcp_I, cpI_k, Int.reduceToNat, zu_s, zu_k, zu_i, zu_j, zu_n] at h) <;> (try (exfalso; omega)) <;> conv => whnf)
    | (refine ⟨by first | rfl | assumption | exact zin1 rfl | exact Nat.le_of_ble_eq_true rfl | exact ⟨rfl, Or.inl rfl⟩ | exact ⟨rfl, Or.inr (Or.inl rfl)⟩ | exact ⟨rfl, Or.inr (Or.inr rfl)⟩ | exact ⟨Nat.le_of_ble_eq_true rfl, Nat.le_of_ble_eq_true rfl⟩ | exact trivial | omega | (simp (disch := omega) only [I_0, I_add, I_sub, I_mul, I_neg, I_nat, I_lt, I_le, I_eq, Int.toNat_natCast, ne_eq, not_true, not_false_iff, zt0, zt1, zI_at, zpi_I, zpl_I, zpd_I, zcp_I, cpI_k, Int.reduceToNat, zu_s, zu_k, zu_i, zu_j, zu_n, I_in, zarr, zin6, zin8, zin11, zin13, zin15, zin19, zin21, zin22, zin23, zin24, zin25, zin26, zin27, zin28, zin29, zin30, zin29s, zin30s, zin33, zin5, Nat.le_refl, and_self, Prod.mk.injEq, Nat.reduceEqDiff, false_and, not_false_iff]; done) | (simp (disch := omega) only [I_0, I_add, I_sub, I_mul, I_neg, I_nat, I_lt, I_le, I_eq, Int.toNat_natCast, ne_eq, not_true, not_false_iff, zt0, zt1, zI_at, zpi_I, zpl_I, zpd_I, zcp_I, cpI_k, Int.reduceToNat, zu_s, zu_k, zu_i, zu_j, zu_n, I_in, zarr, zin6, zin8, zin11, zin13, zin15, zin19, zin21, zin22, zin23, zin24, zin25, zin26, zin27, zin28, zin29, zin30, zin29s, zin30s, zin33, zin5, Nat.le_refl, and_self, Prod.mk.injEq, Nat.reduceEqDiff, false_and, not_false_iff] <;> omega), ?_⟩; conv => whnf)
    | (refine zif70 (by assumption) ?_; conv => whnf)
    | (refine ⟨_, rfl, ?_⟩; conv => whnf))
  refine zC_to (m_needToken h0 (by omega) (x := a) (by omega) ?_) (by (repeat' (first | exact trivial | (refine And.intro ?_ ?_) | (refine zvi ?_; first | (with_reducible rfl) | (simp (disch := omega) only [I_0, I_add, I_sub, I_mul, I_neg, I_nat, I_lt, I_le, I_eq, Int.toNat_natCast, ne_eq, not_true, not_false_iff, zt0, zt1, zI_at, zpi_I, zpl_I, zpd_I, zcp_I, cpI_k, Int.reduceToNat, zu_s, zu_k, zu_i, zu_j, zu_n]; done) | (simp (disch := omega) only [I_0, I_add, I_sub, I_mul, I_neg, I_nat, I_lt, I_le, I_eq, Int.toNat_natCast, ne_eq, not_true, not_false_iff, zt0, zt1, zI_at, zpi_I, zpl_I, zpd_I, zcp_I, cpI_k, Int.reduceToNat, zu_s, zu_k, zu_i, zu_j, zu_n]; first | omega | (congr 1; omega)) | (congr 1; omega)) | rfl | (simp (disch := omega) only [I_0, I_add, I_sub, I_mul, I_neg, I_nat, I_lt, I_le, I_eq, Int.toNat_natCast, ne_eq, not_true, not_false_iff, zt0, zt1, zI_at, zpi_I, zpl_I, zpd_I, zcp_I, cpI_k, Int.reduceToNat, zu_s, zu_k, zu_i, zu_j, zu_n]; done) | (refine zlk_r rfl ?_; simp (disch := omega) only [I_0, I_add, I_sub, I_mul, I_neg, I_nat, I_lt, I_le, I_eq, Int.toNat_natCast, ne_eq, not_true, not_false_iff, zt0, zt1, zI_at, zpi_I, zpl_I, zpd_I, zcp_I, cpI_k, Int.reduceToNat, zu_s, zu_k, zu_i, zu_j, zu_n]; done)))) rfl
  conv => whnf
  repeat' (first
    | (refine ⟨0, 0, ⟨by omega, by omega⟩, ?_⟩)
    | (refine ⟨fun h => ?_, fun h => ?_⟩ <;> (try simp (disch := omega) only [I_0, I_add, I_sub, I_mul, I_neg, I_nat, I_lt, I_le, I_eq, Int.toNat_natCast, ne_eq, not_true, not_false_iff, zt0, zt1, zI_at, zpi_I, zpl_I, zpd_I, zcp_I, cpI_k, Int.reduceToNat, zu_s, zu_k, zu_i, zu_j, zu_n] at h) <;> (try (exfalso; omega)) <;> conv => whnf)
    | (refine ⟨by first | rfl | assumption | exact zin1 rfl | exact Nat.le_of_ble_eq_true rfl | exact ⟨rfl, Or.inl rfl⟩ | exact ⟨rfl, Or.inr (Or.inl rfl)⟩ | exact ⟨rfl, Or.inr (Or.inr rfl)⟩ | exact ⟨Nat.le_of_ble_eq_true rfl, Nat.le_of_ble_eq_true rfl⟩ | exact trivial | omega | (simp (disch := omega) only [I_0, I_add, I_sub, I_mul, I_neg, I_nat, I_lt, I_le, I_eq, Int.toNat_natCast, ne_eq, not_true, not_false_iff, zt0, zt1, zI_at, zpi_I, zpl_I, zpd_I, zcp_I, cpI_k, Int.reduceToNat, zu_s, zu_k, zu_i, zu_j, zu_n, I_in, zarr, zin6, zin8, zin11, zin13, zin15, zin19, zin21, zin22, zin23, zin24, zin25, zin26, zin27, zin28, zin29, zin30, zin29s, zin30s, zin33, zin5, Nat.le_refl, and_self, Prod.mk.injEq, Nat.reduceEqDiff, false_and, not_false_iff]; done) | (simp (disch := omega) only [I_0, I_add, I_sub, I_mul, I_neg, I_nat, I_lt, I_le, I_eq, Int.toNat_natCast, ne_eq, not_true, not_false_iff, zt0, zt1, zI_at, zpi_I, zpl_I, zpd_I, zcp_I, cpI_k, Int.reduceToNat, zu_s, zu_k, zu_i, zu_j, zu_n, I_in, zarr, zin6, zin8, zin11, zin13, zin15, zin19, zin21, zin22, zin23, zin24, zin25, zin26, zin27, zin28, zin29, zin30, zin29s, zin30s, zin33, zin5, Nat.le_refl, and_self, Prod.mk.injEq, Nat.reduceEqDiff, false_and, not_false_iff] <;> omega), ?_⟩; conv => whnf)
    | (refine zif70 (by assumption) ?_; conv => whnf)
    | (refine ⟨_, rfl, ?_⟩; conv => whnf))
  refine zC_to (m_needToken h0 (by omega) (x := b) (by omega) ?_) (by (repeat' (first | exact trivial | (refine And.intro ?_ ?_) | (refine zvi ?_; first | (with_reducible rfl) | (simp (disch := omega) only [I_0, I_add, I_sub, I_mul, I_neg, I_nat, I_lt, I_le, I_eq, Int.toNat_natCast, ne_eq, not_true, not_false_iff, zt0, zt1, zI_at, zpi_I, zpl_I, zpd_I, zcp_I, cpI_k, Int.reduceToNat, zu_s, zu_k, zu_i, zu_j, zu_n]; done) | (simp (disch := omega) only [I_0, I_add, I_sub, I_mul, I_neg, I_nat, I_lt, I_le, I_eq, Int.toNat_natCast, ne_eq, not_true, not_false_iff, zt0, zt1, zI_at, zpi_I, zpl_I, zpd_I, zcp_I, cpI_k, Int.reduceToNat, zu_s, zu_k, zu_i, zu_j, zu_n]; first | omega | (congr 1; omega)) | (congr 1; omega)) | rfl | (simp (disch := omega) only [I_0, I_add, I_sub, I_mul, I_neg, I_nat, I_lt, I_le, I_eq, Int.toNat_natCast, ne_eq, not_true, not_false_iff, zt0, zt1, zI_at, zpi_I, zpl_I, zpd_I, zcp_I, cpI_k, Int.reduceToNat, zu_s, zu_k, zu_i, zu_j, zu_n]; done) | (refine zlk_r rfl ?_; simp (disch := omega) only [I_0, I_add, I_sub, I_mul, I_neg, I_nat, I_lt, I_le, I_eq, Int.toNat_natCast, ne_eq, not_true, not_false_iff, zt0, zt1, zI_at, zpi_I, zpl_I, zpd_I, zcp_I, cpI_k, Int.reduceToNat, zu_s, zu_k, zu_i, zu_j, zu_n]; done)))) rfl
  conv => whnf
  repeat' (first
    | (refine ⟨0, 0, ⟨by omega, by omega⟩, ?_⟩)
    | (refine ⟨fun h => ?_, fun h => ?_⟩ <;> (try simp (disch := omega) only [I_0, I_add, I_sub, I_mul, I_neg, I_nat, I_lt, I_le, I_eq, Int.toNat_natCast, ne_eq, not_true, not_false_iff, zt0, zt1, zI_at, zpi_I, zpl_I, zpd_I, zcp_I, cpI_k, Int.reduceToNat, zu_s, zu_k, zu_i, zu_j, zu_n] at h) <;> (try (exfalso; omega)) <;> conv => whnf)
    | (refine ⟨by first | rfl | assumption | exact zin1 rfl | exact Nat.le_of_ble_eq_true rfl | exact ⟨rfl, Or.inl rfl⟩ | exact ⟨rfl, Or.inr (Or.inl rfl)⟩ | exact ⟨rfl, Or.inr (Or.inr rfl)⟩ | exact ⟨Nat.le_of_ble_eq_true rfl, Nat.le_of_ble_eq_true rfl⟩ | exact trivial | omega | (simp (disch := omega) only [I_0, I_add, I_sub, I_mul, I_neg, I_nat, I_lt, I_le, I_eq, Int.toNat_natCast, ne_eq, not_true, not_false_iff, zt0, zt1, zI_at, zpi_I, zpl_I, zpd_I, zcp_I, cpI_k, Int.reduceToNat, zu_s, zu_k, zu_i, zu_j, zu_n, I_in, zarr, zin6, zin8, zin11, zin13, zin15, zin19, zin21, zin22, zin23, zin24, zin25, zin26, zin27, zin28, zin29, zin30, zin29s, zin30s, zin33, zin5, Nat.le_refl, and_self, Prod.mk.injEq, Nat.reduceEqDiff, false_and, not_false_iff]; done) | (simp (disch := omega) only [I_0, I_add, I_sub, I_mul, I_neg, I_nat, I_lt, I_le, I_eq, Int.toNat_natCast, ne_eq, not_true, not_false_iff, zt0, zt1, zI_at, zpi_I, zpl_I, zpd_I, zcp_I, cpI_k, Int.reduceToNat, zu_s, zu_k, zu_i, zu_j, zu_n, I_in, zarr, zin6, zin8, zin11, zin13, zin15, zin19, zin21, zin22, zin23, zin24, zin25, zin26, zin27, zin28, zin29, zin30, zin29s, zin30s, zin33, zin5, Nat.le_refl, and_self, Prod.mk.injEq, Nat.reduceEqDiff, false_and, not_false_iff] <;> omega), ?_⟩; conv => whnf)
    | (refine zif70 (by assumption) ?_; conv => whnf)
    | (refine ⟨_, rfl, ?_⟩; conv => whnf))
  refine zC_to (m_needToken h0 (by omega) (x := c) (by omega) ?_) (by (repeat' (first | exact trivial | (refine And.intro ?_ ?_) | (refine zvi ?_; first | (with_reducible rfl) | (simp (disch := omega) only [I_0, I_add, I_sub, I_mul, I_neg, I_nat, I_lt, I_le, I_eq, Int.toNat_natCast, ne_eq, not_true, not_false_iff, zt0, zt1, zI_at, zpi_I, zpl_I, zpd_I, zcp_I, cpI_k, Int.reduceToNat, zu_s, zu_k, zu_i, zu_j, zu_n]; done) | (simp (disch := omega) only [I_0, I_add, I_sub, I_mul, I_neg, I_nat, I_lt, I_le, I_eq, Int.toNat_natCast, ne_eq, not_true, not_false_iff, zt0, zt1, zI_at, zpi_I, zpl_I, zpd_I, zcp_I, cpI_k, Int.reduceToNat, zu_s, zu_k, zu_i, zu_j, zu_n]; first | omega | (congr 1; omega)) | (congr 1; omega)) | rfl | (simp (disch := omega) only [I_0, I_add, I_sub, I_mul, I_neg, I_nat, I_lt, I_le, I_eq, Int.toNat_natCast, ne_eq, not_true, not_false_iff, zt0, zt1, zI_at, zpi_I, zpl_I, zpd_I, zcp_I, cpI_k, Int.reduceToNat, zu_s, zu_k, zu_i, zu_j, zu_n]; done) | (refine zlk_r rfl ?_; simp (disch := omega) only [I_0, I_add, I_sub, I_mul, I_neg, I_nat, I_lt, I_le, I_eq, Int.toNat_natCast, ne_eq, not_true, not_false_iff, zt0, zt1, zI_at, zpi_I, zpl_I, zpd_I, zcp_I, cpI_k, Int.reduceToNat, zu_s, zu_k, zu_i, zu_j, zu_n]; done)))) rfl
  conv => whnf
  repeat' (first
    | (refine ⟨0, 0, ⟨by omega, by omega⟩, ?_⟩)
    | (refine ⟨fun h => ?_, fun h => ?_⟩ <;> (try simp (disch := omega) only [I_0, I_add, I_sub, I_mul, I_neg, I_nat, I_lt, I_le, I_eq, Int.toNat_natCast, ne_eq, not_true, not_false_iff, zt0, zt1, zI_at, zpi_I, zpl_I, zpd_I, zcp_I, cpI_k, Int.reduceToNat, zu_s, zu_k, zu_i, zu_j, zu_n, hn] at h) <;> (try (exfalso; omega)) <;> conv => whnf)
    | (refine ⟨by first | rfl | assumption | exact zin1 rfl | exact Nat.le_of_ble_eq_true rfl | exact ⟨rfl, Or.inl rfl⟩ | exact ⟨rfl, Or.inr (Or.inl rfl)⟩ | exact ⟨rfl, Or.inr (Or.inr rfl)⟩ | exact ⟨Nat.le_of_ble_eq_true rfl, Nat.le_of_ble_eq_true rfl⟩ | exact trivial | omega | (simp (disch := omega) only [I_0, I_add, I_sub, I_mul, I_neg, I_nat, I_lt, I_le, I_eq, Int.toNat_natCast, ne_eq, not_true, not_false_iff, zt0, zt1, zI_at, zpi_I, zpl_I, zpd_I, zcp_I, cpI_k, Int.reduceToNat, zu_s, zu_k, zu_i, zu_j, zu_n, I_in, zarr, zin6, zin8, zin11, zin13, zin15, zin19, zin21, zin22, zin23, zin24, zin25, zin26, zin27, zin28, zin29, zin30, zin29s, zin30s, zin33, zin5, Nat.le_refl, and_self, Prod.mk.injEq, Nat.reduceEqDiff, false_and, not_false_iff, hn]; done) | (simp (disch := omega) only [I_0, I_add, I_sub, I_mul, I_neg, I_nat, I_lt, I_le, I_eq, Int.toNat_natCast, ne_eq, not_true, not_false_iff, zt0, zt1, zI_at, zpi_I, zpl_I, zpd_I, zcp_I, cpI_k, Int.reduceToNat, zu_s, zu_k, zu_i, zu_j, zu_n, I_in, zarr, zin6, zin8, zin11, zin13, zin15, zin19, zin21, zin22, zin23, zin24, zin25, zin26, zin27, zin28, zin29, zin30, zin29s, zin30s, zin33, zin5, Nat.le_refl, and_self, Prod.mk.injEq, Nat.reduceEqDiff, false_and, not_false_iff, hn] <;> omega), ?_⟩; conv => whnf)
    | (refine zif70 (by assumption) ?_; conv => whnf)
    | (refine ⟨_, rfl, ?_⟩; conv => whnf))
  refine zC_to (m_needRoom h0 (x := n) (a := 8) (by omega) (by omega) (by omega) ?_) (by (repeat' (first | exact trivial | (refine And.intro ?_ ?_) | (refine zvi ?_; first | (with_reducible rfl) | (simp (disch := omega) only [I_0, I_add, I_sub, I_mul, I_neg, I_nat, I_lt, I_le, I_eq, Int.toNat_natCast, ne_eq, not_true, not_false_iff, zt0, zt1, zI_at, zpi_I, zpl_I, zpd_I, zcp_I, cpI_k, Int.reduceToNat, zu_s, zu_k, zu_i, zu_j, zu_n, hn]; done) | (simp (disch := omega) only [I_0, I_add, I_sub, I_mul, I_neg, I_nat, I_lt, I_le, I_eq, Int.toNat_natCast, ne_eq, not_true, not_false_iff, zt0, zt1, zI_at, zpi_I, zpl_I, zpd_I, zcp_I, cpI_k, Int.reduceToNat, zu_s, zu_k, zu_i, zu_j, zu_n, hn]; first | omega | (congr 1; omega)) | (congr 1; omega)) | rfl | (simp (disch := omega) only [I_0, I_add, I_sub, I_mul, I_neg, I_nat, I_lt, I_le, I_eq, Int.toNat_natCast, ne_eq, not_true, not_false_iff, zt0, zt1, zI_at, zpi_I, zpl_I, zpd_I, zcp_I, cpI_k, Int.reduceToNat, zu_s, zu_k, zu_i, zu_j, zu_n, hn]; done) | (refine zlk_r rfl ?_; simp (disch := omega) only [I_0, I_add, I_sub, I_mul, I_neg, I_nat, I_lt, I_le, I_eq, Int.toNat_natCast, ne_eq, not_true, not_false_iff, zt0, zt1, zI_at, zpi_I, zpl_I, zpd_I, zcp_I, cpI_k, Int.reduceToNat, zu_s, zu_k, zu_i, zu_j, zu_n, hn]; done)))) rfl
  conv => whnf
  repeat' (first
    | (refine ⟨0, 0, ⟨by omega, by omega⟩, ?_⟩)
    | (refine ⟨fun h => ?_, fun h => ?_⟩ <;> (try simp (disch := omega) only [I_0, I_add, I_sub, I_mul, I_neg, I_nat, I_lt, I_le, I_eq, Int.toNat_natCast, ne_eq, not_true, not_false_iff, zt0, zt1, zI_at, zpi_I, zpl_I, zpd_I, zcp_I, cpI_k, Int.reduceToNat, zu_s, zu_k, zu_i, zu_j, zu_n] at h) <;> (try (exfalso; omega)) <;> conv => whnf)
    | (refine ⟨by first | rfl | assumption | exact zin1 rfl | exact Nat.le_of_ble_eq_true rfl | exact ⟨rfl, Or.inl rfl⟩ | exact ⟨rfl, Or.inr (Or.inl rfl)⟩ | exact ⟨rfl, Or.inr (Or.inr rfl)⟩ | exact ⟨Nat.le_of_ble_eq_true rfl, Nat.le_of_ble_eq_true rfl⟩ | exact trivial | omega | (simp (disch := omega) only [I_0, I_add, I_sub, I_mul, I_neg, I_nat, I_lt, I_le, I_eq, Int.toNat_natCast, ne_eq, not_true, not_false_iff, zt0, zt1, zI_at, zpi_I, zpl_I, zpd_I, zcp_I, cpI_k, Int.reduceToNat, zu_s, zu_k, zu_i, zu_j, zu_n, I_in, zarr, zin6, zin8, zin11, zin13, zin15, zin19, zin21, zin22, zin23, zin24, zin25, zin26, zin27, zin28, zin29, zin30, zin29s, zin30s, zin33, zin5, Nat.le_refl, and_self, Prod.mk.injEq, Nat.reduceEqDiff, false_and, not_false_iff]; done) | (simp (disch := omega) only [I_0, I_add, I_sub, I_mul, I_neg, I_nat, I_lt, I_le, I_eq, Int.toNat_natCast, ne_eq, not_true, not_false_iff, zt0, zt1, zI_at, zpi_I, zpl_I, zpd_I, zcp_I, cpI_k, Int.reduceToNat, zu_s, zu_k, zu_i, zu_j, zu_n, I_in, zarr, zin6, zin8, zin11, zin13, zin15, zin19, zin21, zin22, zin23, zin24, zin25, zin26, zin27, zin28, zin29, zin30, zin29s, zin30s, zin33, zin5, Nat.le_refl, and_self, Prod.mk.injEq, Nat.reduceEqDiff, false_and, not_false_iff] <;> omega), ?_⟩; conv => whnf)
    | (refine zif70 (by assumption) ?_; conv => whnf)
    | (refine ⟨_, rfl, ?_⟩; conv => whnf))
  refine zC_to (m_X0_append h0 (by omega) hn hn2 (a := a) (b := b) (c := c) hC.2.2.2.1 (fun c' hc' => hC.2.2.2.2.2.1 c' (by omega)) (fun S' h1 h2 => ?_)) (by (repeat' (first | exact trivial | (refine And.intro ?_ ?_) | (refine zvi ?_; first | (with_reducible rfl) | (simp (disch := omega) only [I_0, I_add, I_sub, I_mul, I_neg, I_nat, I_lt, I_le, I_eq, Int.toNat_natCast, ne_eq, not_true, not_false_iff, zt0, zt1, zI_at, zpi_I, zpl_I, zpd_I, zcp_I, cpI_k, Int.reduceToNat, zu_s, zu_k, zu_i, zu_j, zu_n]; done) | (simp (disch := omega) only [I_0, I_add, I_sub, I_mul, I_neg, I_nat, I_lt, I_le, I_eq, Int.toNat_natCast, ne_eq, not_true, not_false_iff, zt0, zt1, zI_at, zpi_I, zpl_I, zpd_I, zcp_I, cpI_k, Int.reduceToNat, zu_s, zu_k, zu_i, zu_j, zu_n]; first | omega | (congr 1; omega)) | (congr 1; omega)) | rfl | (simp (disch := omega) only [I_0, I_add, I_sub, I_mul, I_neg, I_nat, I_lt, I_le, I_eq, Int.toNat_natCast, ne_eq, not_true, not_false_iff, zt0, zt1, zI_at, zpi_I, zpl_I, zpd_I, zcp_I, cpI_k, Int.reduceToNat, zu_s, zu_k, zu_i, zu_j, zu_n]; done) | (refine zlk_r rfl ?_; simp (disch := omega) only [I_0, I_add, I_sub, I_mul, I_neg, I_nat, I_lt, I_le, I_eq, Int.toNat_natCast, ne_eq, not_true, not_false_iff, zt0, zt1, zI_at, zpi_I, zpl_I, zpd_I, zcp_I, cpI_k, Int.reduceToNat, zu_s, zu_k, zu_i, zu_j, zu_n]; done)))) rfl
  obtain ⟨g1, g2⟩ := acS_ok hS hV hn hn2 ha hb hc h1 h2
  have hk := hk S' g1 g2 (fun k i j m hk => h1 k (fun e => hk (by
    have e := List.contains_iff_mem.mp e
    simp only [List.mem_cons, List.not_mem_nil, or_false] at e
    omega)) i j m)
  conv => whnf
  repeat' (first
    | (refine ⟨0, 0, ⟨by omega, by omega⟩, ?_⟩)
    | (refine ⟨fun h => ?_, fun h => ?_⟩ <;> (try simp (disch := omega) only [I_0, I_add, I_sub, I_mul, I_neg, I_nat, I_lt, I_le, I_eq, Int.toNat_natCast, ne_eq, not_true, not_false_iff, zt0, zt1, zI_at, zpi_I, zpl_I, zpd_I, zcp_I, cpI_k, Int.reduceToNat, zu_s, zu_k, zu_i, zu_j, zu_n] at h) <;> (try (exfalso; omega)) <;> conv => whnf)
    | (refine ⟨by first | rfl | assumption | exact zin1 rfl | exact Nat.le_of_ble_eq_true rfl | exact ⟨rfl, Or.inl rfl⟩ | exact ⟨rfl, Or.inr (Or.inl rfl)⟩ | exact ⟨rfl, Or.inr (Or.inr rfl)⟩ | exact ⟨Nat.le_of_ble_eq_true rfl, Nat.le_of_ble_eq_true rfl⟩ | exact trivial | omega | (simp (disch := omega) only [I_0, I_add, I_sub, I_mul, I_neg, I_nat, I_lt, I_le, I_eq, Int.toNat_natCast, ne_eq, not_true, not_false_iff, zt0, zt1, zI_at, zpi_I, zpl_I, zpd_I, zcp_I, cpI_k, Int.reduceToNat, zu_s, zu_k, zu_i, zu_j, zu_n, I_in, zarr, zin6, zin8, zin11, zin13, zin15, zin19, zin21, zin22, zin23, zin24, zin25, zin26, zin27, zin28, zin29, zin30, zin29s, zin30s, zin33, zin5, Nat.le_refl, and_self, Prod.mk.injEq, Nat.reduceEqDiff, false_and, not_false_iff]; done) | (simp (disch := omega) only [I_0, I_add, I_sub, I_mul, I_neg, I_nat, I_lt, I_le, I_eq, Int.toNat_natCast, ne_eq, not_true, not_false_iff, zt0, zt1, zI_at, zpi_I, zpl_I, zpd_I, zcp_I, cpI_k, Int.reduceToNat, zu_s, zu_k, zu_i, zu_j, zu_n, I_in, zarr, zin6, zin8, zin11, zin13, zin15, zin19, zin21, zin22, zin23, zin24, zin25, zin26, zin27, zin28, zin29, zin30, zin29s, zin30s, zin33, zin5, Nat.le_refl, and_self, Prod.mk.injEq, Nat.reduceEqDiff, false_and, not_false_iff] <;> omega), ?_⟩; conv => whnf)
    | (refine zif70 (by assumption) ?_; conv => whnf)
    | (refine ⟨_, rfl, ?_⟩; conv => whnf))
  exact hk
/-- a variant's own front put -/
theorem sv_ok {S : zS} (hS : inv0 S) {c v : Nat} {f : Int} (hc : (c : Int) < S 9 0 0 0) (hv : 1 ≤ v ∧ v < 3) (hf : -1 ≤ f ∧ f < S 1 0 0 0) : wfT (zu S 11 c 0 (2 + v) f) ∧ invC (zu S 11 c 0 (2 + v) f) := by
  have h : eqq (fun k i j m => k = 11 ∧ i = c ∧ j = 0 ∧ m = 2 + v) S (zu S 11 c 0 (2 + v) f) := fun k i j m hk => if_neg hk
  have f11 : zu S 11 c 0 (2 + v) f 11 c 0 (2 + v) = f := zu_s
  generalize zu S 11 c 0 (2 + v) f = S' at h f11
  have e1 : ∀ i j n, S' 1 i j n = S 1 i j n := fun i j n => h _ _ _ _ (by omega)
  have e2 : ∀ i j n, S' 2 i j n = S 2 i j n := fun i j n => h _ _ _ _ (by omega)
  have e3 : ∀ i j n, S' 3 i j n = S 3 i j n := fun i j n => h _ _ _ _ (by omega)
  have e6 : ∀ i j n, S' 6 i j n = S 6 i j n := fun i j n => h _ _ _ _ (by omega)
  have e9 : ∀ i j n, S' 9 i j n = S 9 i j n := fun i j n => h _ _ _ _ (by omega)
  have e15 : ∀ i j n, S' 15 i j n = S 15 i j n := fun i j n => h _ _ _ _ (by omega)
  have e16 : ∀ i j n, S' 16 i j n = S 16 i j n := fun i j n => h _ _ _ _ (by omega)
  have e19 : ∀ i j n, S' 19 i j n = S 19 i j n := fun i j n => h _ _ _ _ (by omega)
  obtain ⟨⟨h1, h2, h3, h4, h6⟩, h7, h8⟩ := hS
  refine ⟨?_, ?_⟩
  · unfold wfT at h1 ⊢
    simp only [e1, e2, e3, e6]
    exact h1
  · unfold invC ownI at h3 ⊢
    simp only [e1, e9, e15, e16, e19]
    refine ⟨h3.1, fun c' x hc' hx => ?_, fun c' x hc' hx => ?_, h3.2.2.2⟩
    · by_cases g : c' = c ∧ x = 2 + v
      · obtain ⟨rfl, rfl⟩ := g
        rw [f11]; exact hf
      · rw [h 11 c' 0 x (by omega)]; exact h3.2.1 c' x hc' hx
    · rw [h 11 c' 0 x (by omega)]; exact h3.2.2.1 c' x hc' hx
theorem m_setVariant (h0 : zOk E) (hd : 6 ≤ d) (hS : inv0 S) (hV : KV S) {c v : Nat} {f : Int} (hc : (c : Int) < S 9 0 0 0) (hv : 1 ≤ v ∧ v < 3) (hf : f = -1 ∨ (0 ≤ f ∧ f < S 1 0 0 0)) (hk : ∀ G S', inv0 G → KV G → eqq drP (zu S 11 c 0 (2 + v) f) G → cqI (rpF G (S 0 0 0 3).toNat).1 S' → kr (some (.inl (.int (I (S 11 c 0 (2 + v)))))) (zI S', zu l 0 0 0 7 (l 0 0 0 7 + (I (rpF G (S 0 0 0 3).toNat).2).toInt64), δ, zR0, 176))
    : zC E zm_X6_setVariant d mc ms [.inr (0, 0, 0), .inl (.int (I c)), .inl (.int (I v)), .inl (.int (I f))] (zMI S l δ) kr kx := by
  have hnt := hS.1.1.1
  have hnc := hS.1.2.2.1.1
  have hnp := hS.1.2.2.2.2.1
  have hP := hS.1.2.2.2.1
  obtain ⟨w1, w2⟩ := sv_ok hS (f := f) hc hv (by omega)
  have h : eqq (fun k i j m => k = 11 ∧ i = c ∧ j = 0 ∧ m = 2 + v) S (zu S 11 c 0 (2 + v) f) := fun k i j m hk => if_neg hk
  refine zC_of h0 (by decide +kernel) (Nat.le_of_ble_eq_true rfl) (Or.inl rfl) (zJ_cut h0 100 1000 zo_X6_setVariant rfl fun K hK => ?_)
  conv => whnf
  repeat' (first
    | (refine ⟨0, 0, ⟨by omega, by omega⟩, ?_⟩)
    | (refine ⟨fun h => ?_, fun h => ?_⟩ <;> (try simp (disch := omega) only [I_0, I_add, I_sub, I_mul, I_neg, I_nat, I_lt, I_le, I_eq, Int.toNat_natCast, ne_eq, not_true, not_false_iff, zt0, zt1, zI_at, zpi_I, zpl_I, zpd_I, zcp_I, cpI_k, Int.reduceToNat, zu_s, zu_k, zu_i, zu_j, zu_n] at h) <;> (try (exfalso; omega)) <;> conv => whnf)
    | (refine ⟨by first | rfl | assumption | exact zin1 rfl | exact Nat.le_of_ble_eq_true rfl | exact ⟨rfl, Or.inl rfl⟩ | exact ⟨rfl, Or.inr (Or.inl rfl)⟩ | exact ⟨rfl, Or.inr (Or.inr rfl)⟩ | exact ⟨Nat.le_of_ble_eq_true rfl, Nat.le_of_ble_eq_true rfl⟩ | exact trivial | omega | (simp (disch := omega) only [I_0, I_add, I_sub, I_mul, I_neg, I_nat, I_lt, I_le, I_eq, Int.toNat_natCast, ne_eq, not_true, not_false_iff, zt0, zt1, zI_at, zpi_I, zpl_I, zpd_I, zcp_I, cpI_k, Int.reduceToNat, zu_s, zu_k, zu_i, zu_j, zu_n, I_in, zarr, zin6, zin8, zin11, zin13, zin15, zin19, zin21, zin22, zin23, zin24, zin25, zin26, zin27, zin28, zin29, zin30, zin29s, zin30s, zin33, zin5, Nat.le_refl, and_self, Prod.mk.injEq, Nat.reduceEqDiff, false_and, not_false_iff]; done) | (simp (disch := omega) only [I_0, I_add, I_sub, I_mul, I_neg, I_nat, I_lt, I_le, I_eq, Int.toNat_natCast, ne_eq, not_true, not_false_iff, zt0, zt1, zI_at, zpi_I, zpl_I, zpd_I, zcp_I, cpI_k, Int.reduceToNat, zu_s, zu_k, zu_i, zu_j, zu_n, I_in, zarr, zin6, zin8, zin11, zin13, zin15, zin19, zin21, zin22, zin23, zin24, zin25, zin26, zin27, zin28, zin29, zin30, zin29s, zin30s, zin33, zin5, Nat.le_refl, and_self, Prod.mk.injEq, Nat.reduceEqDiff, false_and, not_false_iff] <;> omega), ?_⟩; conv => whnf)
    | (refine zif70 (by assumption) ?_; conv => whnf)
    | (refine ⟨_, rfl, ?_⟩; conv => whnf))
  refine zC_to (m_needComponent h0 (by omega) (x := c) (by omega) ?_) (by (repeat' (first | exact trivial | (refine And.intro ?_ ?_) | (refine zvi ?_; first | (with_reducible rfl) | (simp (disch := omega) only [I_0, I_add, I_sub, I_mul, I_neg, I_nat, I_lt, I_le, I_eq, Int.toNat_natCast, ne_eq, not_true, not_false_iff, zt0, zt1, zI_at, zpi_I, zpl_I, zpd_I, zcp_I, cpI_k, Int.reduceToNat, zu_s, zu_k, zu_i, zu_j, zu_n]; done) | (simp (disch := omega) only [I_0, I_add, I_sub, I_mul, I_neg, I_nat, I_lt, I_le, I_eq, Int.toNat_natCast, ne_eq, not_true, not_false_iff, zt0, zt1, zI_at, zpi_I, zpl_I, zpd_I, zcp_I, cpI_k, Int.reduceToNat, zu_s, zu_k, zu_i, zu_j, zu_n]; first | omega | (congr 1; omega)) | (congr 1; omega)) | rfl | (simp (disch := omega) only [I_0, I_add, I_sub, I_mul, I_neg, I_nat, I_lt, I_le, I_eq, Int.toNat_natCast, ne_eq, not_true, not_false_iff, zt0, zt1, zI_at, zpi_I, zpl_I, zpd_I, zcp_I, cpI_k, Int.reduceToNat, zu_s, zu_k, zu_i, zu_j, zu_n]; done) | (refine zlk_r rfl ?_; simp (disch := omega) only [I_0, I_add, I_sub, I_mul, I_neg, I_nat, I_lt, I_le, I_eq, Int.toNat_natCast, ne_eq, not_true, not_false_iff, zt0, zt1, zI_at, zpi_I, zpl_I, zpd_I, zcp_I, cpI_k, Int.reduceToNat, zu_s, zu_k, zu_i, zu_j, zu_n]; done)))) rfl
  conv => whnf
  repeat' (first
    | (refine ⟨0, 0, ⟨by omega, by omega⟩, ?_⟩)
    | (refine ⟨fun h => ?_, fun h => ?_⟩ <;> (try simp (disch := omega) only [I_0, I_add, I_sub, I_mul, I_neg, I_nat, I_lt, I_le, I_eq, Int.toNat_natCast, ne_eq, not_true, not_false_iff, zt0, zt1, zI_at, zpi_I, zpl_I, zpd_I, zcp_I, cpI_k, Int.reduceToNat, zu_s, zu_k, zu_i, zu_j, zu_n] at h) <;> (try (exfalso; omega)) <;> conv => whnf)
    | (refine ⟨by first | rfl | assumption | exact zin1 rfl | exact Nat.le_of_ble_eq_true rfl | exact ⟨rfl, Or.inl rfl⟩ | exact ⟨rfl, Or.inr (Or.inl rfl)⟩ | exact ⟨rfl, Or.inr (Or.inr rfl)⟩ | exact ⟨Nat.le_of_ble_eq_true rfl, Nat.le_of_ble_eq_true rfl⟩ | exact trivial | omega | (simp (disch := omega) only [I_0, I_add, I_sub, I_mul, I_neg, I_nat, I_lt, I_le, I_eq, Int.toNat_natCast, ne_eq, not_true, not_false_iff, zt0, zt1, zI_at, zpi_I, zpl_I, zpd_I, zcp_I, cpI_k, Int.reduceToNat, zu_s, zu_k, zu_i, zu_j, zu_n, I_in, zarr, zin6, zin8, zin11, zin13, zin15, zin19, zin21, zin22, zin23, zin24, zin25, zin26, zin27, zin28, zin29, zin30, zin29s, zin30s, zin33, zin5, Nat.le_refl, and_self, Prod.mk.injEq, Nat.reduceEqDiff, false_and, not_false_iff]; done) | (simp (disch := omega) only [I_0, I_add, I_sub, I_mul, I_neg, I_nat, I_lt, I_le, I_eq, Int.toNat_natCast, ne_eq, not_true, not_false_iff, zt0, zt1, zI_at, zpi_I, zpl_I, zpd_I, zcp_I, cpI_k, Int.reduceToNat, zu_s, zu_k, zu_i, zu_j, zu_n, I_in, zarr, zin6, zin8, zin11, zin13, zin15, zin19, zin21, zin22, zin23, zin24, zin25, zin26, zin27, zin28, zin29, zin30, zin29s, zin30s, zin33, zin5, Nat.le_refl, and_self, Prod.mk.injEq, Nat.reduceEqDiff, false_and, not_false_iff] <;> omega), ?_⟩; conv => whnf)
    | (refine zif70 (by assumption) ?_; conv => whnf)
    | (refine ⟨_, rfl, ?_⟩; conv => whnf))
  refine zC_to (m_needTokenOrNone h0 (by omega) (by omega) (x := f) (by omega) hf ?_) (by (repeat' (first | exact trivial | (refine And.intro ?_ ?_) | (refine zvi ?_; first | (with_reducible rfl) | (simp (disch := omega) only [I_0, I_add, I_sub, I_mul, I_neg, I_nat, I_lt, I_le, I_eq, Int.toNat_natCast, ne_eq, not_true, not_false_iff, zt0, zt1, zI_at, zpi_I, zpl_I, zpd_I, zcp_I, cpI_k, Int.reduceToNat, zu_s, zu_k, zu_i, zu_j, zu_n]; done) | (simp (disch := omega) only [I_0, I_add, I_sub, I_mul, I_neg, I_nat, I_lt, I_le, I_eq, Int.toNat_natCast, ne_eq, not_true, not_false_iff, zt0, zt1, zI_at, zpi_I, zpl_I, zpd_I, zcp_I, cpI_k, Int.reduceToNat, zu_s, zu_k, zu_i, zu_j, zu_n]; first | omega | (congr 1; omega)) | (congr 1; omega)) | rfl | (simp (disch := omega) only [I_0, I_add, I_sub, I_mul, I_neg, I_nat, I_lt, I_le, I_eq, Int.toNat_natCast, ne_eq, not_true, not_false_iff, zt0, zt1, zI_at, zpi_I, zpl_I, zpd_I, zcp_I, cpI_k, Int.reduceToNat, zu_s, zu_k, zu_i, zu_j, zu_n]; done) | (refine zlk_r rfl ?_; simp (disch := omega) only [I_0, I_add, I_sub, I_mul, I_neg, I_nat, I_lt, I_le, I_eq, Int.toNat_natCast, ne_eq, not_true, not_false_iff, zt0, zt1, zI_at, zpi_I, zpl_I, zpd_I, zcp_I, cpI_k, Int.reduceToNat, zu_s, zu_k, zu_i, zu_j, zu_n]; done)))) rfl
  conv => whnf
  repeat' (first
    | (refine ⟨0, 0, ⟨by omega, by omega⟩, ?_⟩)
    | (refine ⟨fun h => ?_, fun h => ?_⟩ <;> (try simp (disch := omega) only [I_0, I_add, I_sub, I_mul, I_neg, I_nat, I_lt, I_le, I_eq, Int.toNat_natCast, ne_eq, not_true, not_false_iff, zt0, zt1, zI_at, zpi_I, zpl_I, zpd_I, zcp_I, cpI_k, Int.reduceToNat, zu_s, zu_k, zu_i, zu_j, zu_n] at h) <;> (try (exfalso; omega)) <;> conv => whnf)
    | (refine ⟨by first | rfl | assumption | exact zin1 rfl | exact Nat.le_of_ble_eq_true rfl | exact ⟨rfl, Or.inl rfl⟩ | exact ⟨rfl, Or.inr (Or.inl rfl)⟩ | exact ⟨rfl, Or.inr (Or.inr rfl)⟩ | exact ⟨Nat.le_of_ble_eq_true rfl, Nat.le_of_ble_eq_true rfl⟩ | exact trivial | omega | (simp (disch := omega) only [I_0, I_add, I_sub, I_mul, I_neg, I_nat, I_lt, I_le, I_eq, Int.toNat_natCast, ne_eq, not_true, not_false_iff, zt0, zt1, zI_at, zpi_I, zpl_I, zpd_I, zcp_I, cpI_k, Int.reduceToNat, zu_s, zu_k, zu_i, zu_j, zu_n, I_in, zarr, zin6, zin8, zin11, zin13, zin15, zin19, zin21, zin22, zin23, zin24, zin25, zin26, zin27, zin28, zin29, zin30, zin29s, zin30s, zin33, zin5, Nat.le_refl, and_self, Prod.mk.injEq, Nat.reduceEqDiff, false_and, not_false_iff]; done) | (simp (disch := omega) only [I_0, I_add, I_sub, I_mul, I_neg, I_nat, I_lt, I_le, I_eq, Int.toNat_natCast, ne_eq, not_true, not_false_iff, zt0, zt1, zI_at, zpi_I, zpl_I, zpd_I, zcp_I, cpI_k, Int.reduceToNat, zu_s, zu_k, zu_i, zu_j, zu_n, I_in, zarr, zin6, zin8, zin11, zin13, zin15, zin19, zin21, zin22, zin23, zin24, zin25, zin26, zin27, zin28, zin29, zin30, zin29s, zin30s, zin33, zin5, Nat.le_refl, and_self, Prod.mk.injEq, Nat.reduceEqDiff, false_and, not_false_iff] <;> omega), ?_⟩; conv => whnf)
    | (refine zif70 (by assumption) ?_; conv => whnf)
    | (refine ⟨_, rfl, ?_⟩; conv => whnf))
  refine zC_to (m_needRange h0 (x := v) (a := 1) (b := 2) (by omega) (by omega) (by omega) ?_) (by (repeat' (first | exact trivial | (refine And.intro ?_ ?_) | (refine zvi ?_; first | (with_reducible rfl) | (simp (disch := omega) only [I_0, I_add, I_sub, I_mul, I_neg, I_nat, I_lt, I_le, I_eq, Int.toNat_natCast, ne_eq, not_true, not_false_iff, zt0, zt1, zI_at, zpi_I, zpl_I, zpd_I, zcp_I, cpI_k, Int.reduceToNat, zu_s, zu_k, zu_i, zu_j, zu_n]; done) | (simp (disch := omega) only [I_0, I_add, I_sub, I_mul, I_neg, I_nat, I_lt, I_le, I_eq, Int.toNat_natCast, ne_eq, not_true, not_false_iff, zt0, zt1, zI_at, zpi_I, zpl_I, zpd_I, zcp_I, cpI_k, Int.reduceToNat, zu_s, zu_k, zu_i, zu_j, zu_n]; first | omega | (congr 1; omega)) | (congr 1; omega)) | rfl | (simp (disch := omega) only [I_0, I_add, I_sub, I_mul, I_neg, I_nat, I_lt, I_le, I_eq, Int.toNat_natCast, ne_eq, not_true, not_false_iff, zt0, zt1, zI_at, zpi_I, zpl_I, zpd_I, zcp_I, cpI_k, Int.reduceToNat, zu_s, zu_k, zu_i, zu_j, zu_n]; done) | (refine zlk_r rfl ?_; simp (disch := omega) only [I_0, I_add, I_sub, I_mul, I_neg, I_nat, I_lt, I_le, I_eq, Int.toNat_natCast, ne_eq, not_true, not_false_iff, zt0, zt1, zI_at, zpi_I, zpl_I, zpd_I, zcp_I, cpI_k, Int.reduceToNat, zu_s, zu_k, zu_i, zu_j, zu_n]; done)))) rfl
  conv => whnf
  repeat' (first
    | (refine ⟨0, 0, ⟨by omega, by omega⟩, ?_⟩)
    | (refine ⟨fun h => ?_, fun h => ?_⟩ <;> (try simp (disch := omega) only [I_0, I_add, I_sub, I_mul, I_neg, I_nat, I_lt, I_le, I_eq, Int.toNat_natCast, ne_eq, not_true, not_false_iff, zt0, zt1, zI_at, zpi_I, zpl_I, zpd_I, zcp_I, cpI_k, Int.reduceToNat, zu_s, zu_k, zu_i, zu_j, zu_n] at h) <;> (try (exfalso; omega)) <;> conv => whnf)
    | (refine ⟨by first | rfl | assumption | exact zin1 rfl | exact Nat.le_of_ble_eq_true rfl | exact ⟨rfl, Or.inl rfl⟩ | exact ⟨rfl, Or.inr (Or.inl rfl)⟩ | exact ⟨rfl, Or.inr (Or.inr rfl)⟩ | exact ⟨Nat.le_of_ble_eq_true rfl, Nat.le_of_ble_eq_true rfl⟩ | exact trivial | omega | (simp (disch := omega) only [I_0, I_add, I_sub, I_mul, I_neg, I_nat, I_lt, I_le, I_eq, Int.toNat_natCast, ne_eq, not_true, not_false_iff, zt0, zt1, zI_at, zpi_I, zpl_I, zpd_I, zcp_I, cpI_k, Int.reduceToNat, zu_s, zu_k, zu_i, zu_j, zu_n, I_in, zarr, zin6, zin8, zin11, zin13, zin15, zin19, zin21, zin22, zin23, zin24, zin25, zin26, zin27, zin28, zin29, zin30, zin29s, zin30s, zin33, zin5, Nat.le_refl, and_self, Prod.mk.injEq, Nat.reduceEqDiff, false_and, not_false_iff]; done) | (simp (disch := omega) only [I_0, I_add, I_sub, I_mul, I_neg, I_nat, I_lt, I_le, I_eq, Int.toNat_natCast, ne_eq, not_true, not_false_iff, zt0, zt1, zI_at, zpi_I, zpl_I, zpd_I, zcp_I, cpI_k, Int.reduceToNat, zu_s, zu_k, zu_i, zu_j, zu_n, I_in, zarr, zin6, zin8, zin11, zin13, zin15, zin19, zin21, zin22, zin23, zin24, zin25, zin26, zin27, zin28, zin29, zin30, zin29s, zin30s, zin33, zin5, Nat.le_refl, and_self, Prod.mk.injEq, Nat.reduceEqDiff, false_and, not_false_iff] <;> omega), ?_⟩; conv => whnf)
    | (refine zif70 (by assumption) ?_; conv => whnf)
    | (refine ⟨_, rfl, ?_⟩; conv => whnf))
  refine zC_to (m_X0_putOwnFront h0 (c := c) (v := v) (by omega) hv (f := f) ?_) (by (repeat' (first | exact trivial | (refine And.intro ?_ ?_) | (refine zvi ?_; first | (with_reducible rfl) | (simp (disch := omega) only [I_0, I_add, I_sub, I_mul, I_neg, I_nat, I_lt, I_le, I_eq, Int.toNat_natCast, ne_eq, not_true, not_false_iff, zt0, zt1, zI_at, zpi_I, zpl_I, zpd_I, zcp_I, cpI_k, Int.reduceToNat, zu_s, zu_k, zu_i, zu_j, zu_n]; done) | (simp (disch := omega) only [I_0, I_add, I_sub, I_mul, I_neg, I_nat, I_lt, I_le, I_eq, Int.toNat_natCast, ne_eq, not_true, not_false_iff, zt0, zt1, zI_at, zpi_I, zpl_I, zpd_I, zcp_I, cpI_k, Int.reduceToNat, zu_s, zu_k, zu_i, zu_j, zu_n]; first | omega | (congr 1; omega)) | (congr 1; omega)) | rfl | (simp (disch := omega) only [I_0, I_add, I_sub, I_mul, I_neg, I_nat, I_lt, I_le, I_eq, Int.toNat_natCast, ne_eq, not_true, not_false_iff, zt0, zt1, zI_at, zpi_I, zpl_I, zpd_I, zcp_I, cpI_k, Int.reduceToNat, zu_s, zu_k, zu_i, zu_j, zu_n]; done) | (refine zlk_r rfl ?_; simp (disch := omega) only [I_0, I_add, I_sub, I_mul, I_neg, I_nat, I_lt, I_le, I_eq, Int.toNat_natCast, ne_eq, not_true, not_false_iff, zt0, zt1, zI_at, zpi_I, zpl_I, zpd_I, zcp_I, cpI_k, Int.reduceToNat, zu_s, zu_k, zu_i, zu_j, zu_n]; done)))) rfl
  conv => whnf
  repeat' (first
    | (refine ⟨0, 0, ⟨by omega, by omega⟩, ?_⟩)
    | (refine ⟨fun h => ?_, fun h => ?_⟩ <;> (try simp (disch := omega) only [I_0, I_add, I_sub, I_mul, I_neg, I_nat, I_lt, I_le, I_eq, Int.toNat_natCast, ne_eq, not_true, not_false_iff, zt0, zt1, zI_at, zpi_I, zpl_I, zpd_I, zcp_I, cpI_k, Int.reduceToNat, zu_s, zu_k, zu_i, zu_j, zu_n] at h) <;> (try (exfalso; omega)) <;> conv => whnf)
    | (refine ⟨by first | rfl | assumption | exact zin1 rfl | exact Nat.le_of_ble_eq_true rfl | exact ⟨rfl, Or.inl rfl⟩ | exact ⟨rfl, Or.inr (Or.inl rfl)⟩ | exact ⟨rfl, Or.inr (Or.inr rfl)⟩ | exact ⟨Nat.le_of_ble_eq_true rfl, Nat.le_of_ble_eq_true rfl⟩ | exact trivial | omega | (simp (disch := omega) only [I_0, I_add, I_sub, I_mul, I_neg, I_nat, I_lt, I_le, I_eq, Int.toNat_natCast, ne_eq, not_true, not_false_iff, zt0, zt1, zI_at, zpi_I, zpl_I, zpd_I, zcp_I, cpI_k, Int.reduceToNat, zu_s, zu_k, zu_i, zu_j, zu_n, I_in, zarr, zin6, zin8, zin11, zin13, zin15, zin19, zin21, zin22, zin23, zin24, zin25, zin26, zin27, zin28, zin29, zin30, zin29s, zin30s, zin33, zin5, Nat.le_refl, and_self, Prod.mk.injEq, Nat.reduceEqDiff, false_and, not_false_iff]; done) | (simp (disch := omega) only [I_0, I_add, I_sub, I_mul, I_neg, I_nat, I_lt, I_le, I_eq, Int.toNat_natCast, ne_eq, not_true, not_false_iff, zt0, zt1, zI_at, zpi_I, zpl_I, zpd_I, zcp_I, cpI_k, Int.reduceToNat, zu_s, zu_k, zu_i, zu_j, zu_n, I_in, zarr, zin6, zin8, zin11, zin13, zin15, zin19, zin21, zin22, zin23, zin24, zin25, zin26, zin27, zin28, zin29, zin30, zin29s, zin30s, zin33, zin5, Nat.le_refl, and_self, Prod.mk.injEq, Nat.reduceEqDiff, false_and, not_false_iff] <;> omega), ?_⟩; conv => whnf)
    | (refine zif70 (by assumption) ?_; conv => whnf)
    | (refine ⟨_, rfl, ?_⟩; conv => whnf))
  refine zC_to (m_layOutPages h0 (by omega) (S := zu S 11 c 0 (2 + v) f) (n := (S 0 0 0 3).toNat) (by rw [zu_k (by decide)]; omega) (by omega) (fun p hp => wfP_of w1 w2 ?_ ?_) w2.2.2.2.2.2.2 (fun G hG hr => ?_)) (by (repeat' (first | exact trivial | (refine And.intro ?_ ?_) | (refine zvi ?_; first | (with_reducible rfl) | (simp (disch := omega) only [I_0, I_add, I_sub, I_mul, I_neg, I_nat, I_lt, I_le, I_eq, Int.toNat_natCast, ne_eq, not_true, not_false_iff, zt0, zt1, zI_at, zpi_I, zpl_I, zpd_I, zcp_I, cpI_k, Int.reduceToNat, zu_s, zu_k, zu_i, zu_j, zu_n]; done) | (simp (disch := omega) only [I_0, I_add, I_sub, I_mul, I_neg, I_nat, I_lt, I_le, I_eq, Int.toNat_natCast, ne_eq, not_true, not_false_iff, zt0, zt1, zI_at, zpi_I, zpl_I, zpd_I, zcp_I, cpI_k, Int.reduceToNat, zu_s, zu_k, zu_i, zu_j, zu_n]; first | omega | (congr 1; omega)) | (congr 1; omega)) | rfl | (simp (disch := omega) only [I_0, I_add, I_sub, I_mul, I_neg, I_nat, I_lt, I_le, I_eq, Int.toNat_natCast, ne_eq, not_true, not_false_iff, zt0, zt1, zI_at, zpi_I, zpl_I, zpd_I, zcp_I, cpI_k, Int.reduceToNat, zu_s, zu_k, zu_i, zu_j, zu_n]; done) | (refine zlk_r rfl ?_; simp (disch := omega) only [I_0, I_add, I_sub, I_mul, I_neg, I_nat, I_lt, I_le, I_eq, Int.toNat_natCast, ne_eq, not_true, not_false_iff, zt0, zt1, zI_at, zpi_I, zpl_I, zpd_I, zcp_I, cpI_k, Int.reduceToNat, zu_s, zu_k, zu_i, zu_j, zu_n]; done)))) rfl
  · rw [h 21 p 0 0 (by omega)]; exact (hP p (by omega)).1
  · intro u hu
    rw [h 21 p 0 0 (by omega)] at hu
    rw [h 22 p 0 u (by omega), h 23 p 0 u (by omega), h 9 0 0 0 (by omega)]
    exact (hP p (by omega)).2.1 u hu
  · have g1 : inv0 G := inv0_lay (S := S) (S' := zu S 11 c 0 (2 + v) f) (eqq_mono h (fun k i j m h => by omega)) hS (fun p _ _ => h _ _ _ _ (by omega)) w1 w2 hG hr
    have g2 : KV G := KV_congr (S := S) (fun k i j m hk => by rw [hG k i j m (by omega), h k i j m (by omega)]) hV
    have g3 : G 0 0 0 3 = S 0 0 0 3 := by rw [hG 0 0 0 3 (by omega), h 0 0 0 3 (by omega)]
    conv => whnf
    repeat' (first
      | (refine ⟨0, 0, ⟨by omega, by omega⟩, ?_⟩)
      | (refine ⟨fun h => ?_, fun h => ?_⟩ <;> (try simp (disch := omega) only [I_0, I_add, I_sub, I_mul, I_neg, I_nat, I_lt, I_le, I_eq, Int.toNat_natCast, ne_eq, not_true, not_false_iff, zt0, zt1, zI_at, zpi_I, zpl_I, zpd_I, zcp_I, cpI_k, Int.reduceToNat, zu_s, zu_k, zu_i, zu_j, zu_n] at h) <;> (try (exfalso; omega)) <;> conv => whnf)
      | (refine ⟨by first | rfl | assumption | exact zin1 rfl | exact Nat.le_of_ble_eq_true rfl | exact ⟨rfl, Or.inl rfl⟩ | exact ⟨rfl, Or.inr (Or.inl rfl)⟩ | exact ⟨rfl, Or.inr (Or.inr rfl)⟩ | exact ⟨Nat.le_of_ble_eq_true rfl, Nat.le_of_ble_eq_true rfl⟩ | exact trivial | omega | (simp (disch := omega) only [I_0, I_add, I_sub, I_mul, I_neg, I_nat, I_lt, I_le, I_eq, Int.toNat_natCast, ne_eq, not_true, not_false_iff, zt0, zt1, zI_at, zpi_I, zpl_I, zpd_I, zcp_I, cpI_k, Int.reduceToNat, zu_s, zu_k, zu_i, zu_j, zu_n, I_in, zarr, zin6, zin8, zin11, zin13, zin15, zin19, zin21, zin22, zin23, zin24, zin25, zin26, zin27, zin28, zin29, zin30, zin29s, zin30s, zin33, zin5, Nat.le_refl, and_self, Prod.mk.injEq, Nat.reduceEqDiff, false_and, not_false_iff]; done) | (simp (disch := omega) only [I_0, I_add, I_sub, I_mul, I_neg, I_nat, I_lt, I_le, I_eq, Int.toNat_natCast, ne_eq, not_true, not_false_iff, zt0, zt1, zI_at, zpi_I, zpl_I, zpd_I, zcp_I, cpI_k, Int.reduceToNat, zu_s, zu_k, zu_i, zu_j, zu_n, I_in, zarr, zin6, zin8, zin11, zin13, zin15, zin19, zin21, zin22, zin23, zin24, zin25, zin26, zin27, zin28, zin29, zin30, zin29s, zin30s, zin33, zin5, Nat.le_refl, and_self, Prod.mk.injEq, Nat.reduceEqDiff, false_and, not_false_iff] <;> omega), ?_⟩; conv => whnf)
      | (refine zif70 (by assumption) ?_; conv => whnf)
      | (refine ⟨_, rfl, ?_⟩; conv => whnf))
    refine zC_to (m_repaint h0 (by omega) (S := G) (l := l) (δ := δ) g1 g2 (fun S' hc => ?_)) (by (repeat' (first | exact trivial | (refine And.intro ?_ ?_) | (refine zvi ?_; first | (with_reducible rfl) | (simp (disch := omega) only [I_0, I_add, I_sub, I_mul, I_neg, I_nat, I_lt, I_le, I_eq, Int.toNat_natCast, ne_eq, not_true, not_false_iff, zt0, zt1, zI_at, zpi_I, zpl_I, zpd_I, zcp_I, cpI_k, Int.reduceToNat, zu_s, zu_k, zu_i, zu_j, zu_n]; done) | (simp (disch := omega) only [I_0, I_add, I_sub, I_mul, I_neg, I_nat, I_lt, I_le, I_eq, Int.toNat_natCast, ne_eq, not_true, not_false_iff, zt0, zt1, zI_at, zpi_I, zpl_I, zpd_I, zcp_I, cpI_k, Int.reduceToNat, zu_s, zu_k, zu_i, zu_j, zu_n]; first | omega | (congr 1; omega)) | (congr 1; omega)) | rfl | (simp (disch := omega) only [I_0, I_add, I_sub, I_mul, I_neg, I_nat, I_lt, I_le, I_eq, Int.toNat_natCast, ne_eq, not_true, not_false_iff, zt0, zt1, zI_at, zpi_I, zpl_I, zpd_I, zcp_I, cpI_k, Int.reduceToNat, zu_s, zu_k, zu_i, zu_j, zu_n]; done) | (refine zlk_r rfl ?_; simp (disch := omega) only [I_0, I_add, I_sub, I_mul, I_neg, I_nat, I_lt, I_le, I_eq, Int.toNat_natCast, ne_eq, not_true, not_false_iff, zt0, zt1, zI_at, zpi_I, zpl_I, zpd_I, zcp_I, cpI_k, Int.reduceToNat, zu_s, zu_k, zu_i, zu_j, zu_n]; done)))) rfl
    rw [g3] at hc ⊢
    have hk := hk G S' g1 g2 (eqq_mono hG (fun k i j m h => by omega)) hc
    conv => whnf
    repeat' (first
      | (refine ⟨0, 0, ⟨by omega, by omega⟩, ?_⟩)
      | (refine ⟨fun h => ?_, fun h => ?_⟩ <;> (try simp (disch := omega) only [I_0, I_add, I_sub, I_mul, I_neg, I_nat, I_lt, I_le, I_eq, Int.toNat_natCast, ne_eq, not_true, not_false_iff, zt0, zt1, zI_at, zpi_I, zpl_I, zpd_I, zcp_I, cpI_k, Int.reduceToNat, zu_s, zu_k, zu_i, zu_j, zu_n] at h) <;> (try (exfalso; omega)) <;> conv => whnf)
      | (refine ⟨by first | rfl | assumption | exact zin1 rfl | exact Nat.le_of_ble_eq_true rfl | exact ⟨rfl, Or.inl rfl⟩ | exact ⟨rfl, Or.inr (Or.inl rfl)⟩ | exact ⟨rfl, Or.inr (Or.inr rfl)⟩ | exact ⟨Nat.le_of_ble_eq_true rfl, Nat.le_of_ble_eq_true rfl⟩ | exact trivial | omega | (simp (disch := omega) only [I_0, I_add, I_sub, I_mul, I_neg, I_nat, I_lt, I_le, I_eq, Int.toNat_natCast, ne_eq, not_true, not_false_iff, zt0, zt1, zI_at, zpi_I, zpl_I, zpd_I, zcp_I, cpI_k, Int.reduceToNat, zu_s, zu_k, zu_i, zu_j, zu_n, I_in, zarr, zin6, zin8, zin11, zin13, zin15, zin19, zin21, zin22, zin23, zin24, zin25, zin26, zin27, zin28, zin29, zin30, zin29s, zin30s, zin33, zin5, Nat.le_refl, and_self, Prod.mk.injEq, Nat.reduceEqDiff, false_and, not_false_iff]; done) | (simp (disch := omega) only [I_0, I_add, I_sub, I_mul, I_neg, I_nat, I_lt, I_le, I_eq, Int.toNat_natCast, ne_eq, not_true, not_false_iff, zt0, zt1, zI_at, zpi_I, zpl_I, zpd_I, zcp_I, cpI_k, Int.reduceToNat, zu_s, zu_k, zu_i, zu_j, zu_n, I_in, zarr, zin6, zin8, zin11, zin13, zin15, zin19, zin21, zin22, zin23, zin24, zin25, zin26, zin27, zin28, zin29, zin30, zin29s, zin30s, zin33, zin5, Nat.le_refl, and_self, Prod.mk.injEq, Nat.reduceEqDiff, false_and, not_false_iff] <;> omega), ?_⟩; conv => whnf)
      | (refine zif70 (by assumption) ?_; conv => whnf)
      | (refine ⟨_, rfl, ?_⟩; conv => whnf))
    exact hk
end AC
