/-! ===== the invariant of the class ===== -/
def invC (S : zS) : Prop := (0 ≤ S 9 0 0 0 ∧ S 9 0 0 0 ≤ 8) ∧ (∀ c x, c < 8 → x < 5 → -1 ≤ S 11 c 0 x ∧ S 11 c 0 x < S 1 0 0 0) ∧ (∀ c x : Nat, (c : Int) < S 9 0 0 0 → x < 3 → 0 ≤ S 11 c 0 x) ∧ wfO (fun c s => S 15 c 0 s) ∧ (∀ c s : Nat, c < 8 → s < 3 → S 9 0 0 0 ≤ c → S 15 c 0 s = -1) ∧ (∀ c, c < 8 → (owL (fun c s => S 15 c 0 s) c).length ≤ 4) ∧ (∀ c : Nat, (c : Int) < S 9 0 0 0 → ownI S c (owL (fun c s => S 15 c 0 s) c))
/-- how many of the first n aren't none -/
def ocI (f : Nat → Int) : Nat → Int
  | 0 => 0
  | n + 1 => ocI f n + if f n = -1 then 0 else 1
def invP1 (S : zS) (p : Nat) : Prop := (0 ≤ S 21 p 0 0 ∧ S 21 p 0 0 ≤ 6) ∧ (∀ u : Nat, (u : Int) < S 21 p 0 0 → (0 ≤ S 22 p 0 u ∧ S 22 p 0 u < S 9 0 0 0) ∧ (0 ≤ S 23 p 0 u ∧ S 23 p 0 u ≤ 2)) ∧ (∀ t, t < 12 → -1 ≤ S 24 p 0 t ∧ S 24 p 0 t ≤ 99) ∧ (∀ t : Nat, t < 12 → S 1 0 0 0 ≤ t → S 24 p 0 t = -1) ∧ S 21 p 0 3 = ocI (S 24 p 0) 12 ∧ rgI S p (pgP S p (S 21 p 0 0).toNat) ∧ (S 0 0 0 3 ≤ p → S 21 p 0 0 = 0 ∧ S 21 p 0 8 = 0 ∧ ∀ t, t < 12 → S 24 p 0 t = -1)
def invP2 (S : zS) (p : Nat) : Prop := ((S 21 p 0 8 = 0 ∧ S 21 p 0 9 = 0) ∨ S 21 p 0 8 = 1) ∧ (0 ≤ S 21 p 0 9 ∧ S 21 p 0 9 ≤ S 1 0 0 1) ∧ (∀ t : Nat, (t : Int) < S 21 p 0 9 → S 29 p t 0 = S 29 p 0 0)
def invV (S : zS) : Prop := ∀ i j, (i < 4 ∧ j < 3) ∨ (i = 4 ∧ j < 8) → (0 ≤ S 29 i j 0 ∧ S 29 i j 0 ≤ 24) ∧ ∀ k : Nat, (k : Int) < 3 * S 29 i j 0 → 0 ≤ S 30 i j k ∧ S 30 i j k ≤ 99
def invN (S : zS) : Prop := (0 ≤ S 0 0 0 3 ∧ S 0 0 0 3 ≤ 4) ∧ (0 ≤ S 0 0 0 6 ∧ S 0 0 0 6 ≤ 8) ∧ ∀ s : Nat, (s : Int) < S 0 0 0 6 → (0 ≤ S 33 0 s 0 ∧ S 33 0 s 0 < S 1 0 0 1) ∧ (0 ≤ S 33 0 s 1 ∧ S 33 0 s 1 < S 0 0 0 3)
/-- all but what is shown and kept -/
def inv1 (S : zS) : Prop := wfT S ∧ wfL S ∧ invC S ∧ (∀ p, p < 4 → invP1 S p) ∧ invN S
def inv0 (S : zS) : Prop := inv1 S ∧ (∀ p, p < 4 → invP2 S p) ∧ invV S
/-- kept values are right, or none -/
def KV (S : zS) : Prop := ∀ p th t : Nat, p < 4 → th < 3 → t < 12 → S 27 p th t = -1 ∨ ((t : Int) < S 1 0 0 0 ∧ (th : Int) < S 1 0 0 1 ∧ (p : Int) < S 0 0 0 3 ∧ S 27 p th t = vlS S (S 24 p 0) th 3 t)
/-- the places of the caches -/
abbrev caP : Nat → Nat → Nat → Nat → Prop := fun k i j n => (k = 27 ∧ i < 4 ∧ j < 3 ∧ n < 12) ∨ (k = 29 ∧ i = 5 ∧ j = 0 ∧ n = 0) ∨ (k = 30 ∧ i = 5 ∧ j = 0)
theorem pgP_congr {S S' : zS} {p : Nat} (h15 : ∀ i j n, S' 15 i j n = S 15 i j n) (h22 : ∀ i j n, S' 22 i j n = S 22 i j n) (h23 : ∀ i j n, S' 23 i j n = S 23 i j n) : ∀ u, pgP S' p u = pgP S p u := by
  intro u
  induction u with
  | zero => rfl
  | succ u ih => simp only [pgP, ih, h15, h22, h23]
/-- the places of the caches and of what is shown -/
abbrev shP : Nat → Nat → Nat → Nat → Prop := fun k i j n => k = 27 ∨ k = 29 ∨ k = 30 ∨ (k = 21 ∧ n = 9)
theorem inv1_sh {S S' : zS} (h : eqq shP S S') (hS : inv1 S) : inv1 S' := by
  have e0 : ∀ i j n, S' 0 i j n = S 0 i j n := fun i j n => h _ _ _ _ (by omega)
  have e1 : ∀ i j n, S' 1 i j n = S 1 i j n := fun i j n => h _ _ _ _ (by omega)
  have e2 : ∀ i j n, S' 2 i j n = S 2 i j n := fun i j n => h _ _ _ _ (by omega)
  have e3 : ∀ i j n, S' 3 i j n = S 3 i j n := fun i j n => h _ _ _ _ (by omega)
  have e6 : ∀ i j n, S' 6 i j n = S 6 i j n := fun i j n => h _ _ _ _ (by omega)
  have e9 : ∀ i j n, S' 9 i j n = S 9 i j n := fun i j n => h _ _ _ _ (by omega)
  have e11 : ∀ i j n, S' 11 i j n = S 11 i j n := fun i j n => h _ _ _ _ (by omega)
  have e15 : ∀ i j n, S' 15 i j n = S 15 i j n := fun i j n => h _ _ _ _ (by omega)
  have e16 : ∀ i j n, S' 16 i j n = S 16 i j n := fun i j n => h _ _ _ _ (by omega)
  have e19 : ∀ i j n, S' 19 i j n = S 19 i j n := fun i j n => h _ _ _ _ (by omega)
  have e210 : ∀ i j, S' 21 i j 0 = S 21 i j 0 := fun i j => h _ _ _ _ (by omega)
  have e213 : ∀ i j, S' 21 i j 3 = S 21 i j 3 := fun i j => h _ _ _ _ (by omega)
  have e215 : ∀ i j, S' 21 i j 5 = S 21 i j 5 := fun i j => h _ _ _ _ (by omega)
  have e218 : ∀ i j, S' 21 i j 8 = S 21 i j 8 := fun i j => h _ _ _ _ (by omega)
  have e22 : ∀ i j n, S' 22 i j n = S 22 i j n := fun i j n => h _ _ _ _ (by omega)
  have e23 : ∀ i j n, S' 23 i j n = S 23 i j n := fun i j n => h _ _ _ _ (by omega)
  have e24 : ∀ i j n, S' 24 i j n = S 24 i j n := fun i j n => h _ _ _ _ (by omega)
  have e24' : ∀ i j, S' 24 i j = S 24 i j := fun i j => funext fun n => e24 i j n
  have e25 : ∀ i j n, S' 25 i j n = S 25 i j n := fun i j n => h _ _ _ _ (by omega)
  have e31 : ∀ i j n, S' 31 i j n = S 31 i j n := fun i j n => h _ _ _ _ (by omega)
  have e33 : ∀ i j n, S' 33 i j n = S 33 i j n := fun i j n => h _ _ _ _ (by omega)
  obtain ⟨h1, h2, h3, h4, h6⟩ := hS
  refine ⟨?_, ?_, ?_, fun p hp => ?_, ?_⟩
  · unfold wfT at h1 ⊢
    simp only [e1, e2, e3, e6]
    exact h1
  · unfold wfL at h2 ⊢
    simp only [e31]
    exact h2
  · unfold invC ownI at h3 ⊢
    simp only [e1, e9, e11, e15, e16, e19]
    exact h3
  · have h4 := h4 p hp
    have t11 := tkI_congr (S := S) (S' := S') (fun c x => e11 c 0 x)
    unfold invP1 rgI at h4 ⊢
    simp only [e0, e1, e9, e210, e213, e215, e218, e22, e23, e24, e24', e25, t11, pgP_congr e15 e22 e23]
    exact h4
  · unfold invN at h6 ⊢
    simp only [e0, e1, e33]
    exact h6
theorem inv1_ca {S S' : zS} (h : eqq caP S S') (hS : inv1 S) : inv1 S' := inv1_sh (eqq_mono h (fun k i j n h => by omega)) hS
theorem inv0_ca {S S' : zS} (h : eqq caP S S') (hS : inv0 S) : inv0 S' := by
  have e1 : ∀ i j n, S' 1 i j n = S 1 i j n := fun i j n => h _ _ _ _ (by omega)
  have e21 : ∀ i j n, S' 21 i j n = S 21 i j n := fun i j n => h _ _ _ _ (by omega)
  have e29 : ∀ i j n, ¬ i = 5 → S' 29 i j n = S 29 i j n := fun i j n hi => h _ _ _ _ (by omega)
  have e30 : ∀ i j n, ¬ i = 5 → S' 30 i j n = S 30 i j n := fun i j n hi => h _ _ _ _ (by omega)
  obtain ⟨h1, h4, h5⟩ := hS
  refine ⟨inv1_ca h h1, fun p hp => ?_, ?_⟩
  · have h4 := h4 p hp
    have e29p : ∀ t n, S' 29 p t n = S 29 p t n := fun t n => e29 p t n (by omega)
    unfold invP2 at h4 ⊢
    simp only [e1, e21, e29p]
    exact h4
  · intro i j hij
    have h5 := h5 i j hij
    rw [e29 i j 0 (by omega)]
    refine ⟨h5.1, fun k hk => ?_⟩
    rw [e30 i j k (by omega)]
    exact h5.2 k hk
/-- only caches differ, and they are right -/
def cqI (S S' : zS) : Prop := eqq caP S S' ∧ KV S'
theorem cqI_rfl {S : zS} (h : KV S) : cqI S S := ⟨eqq_rfl, h⟩
theorem cqI_trans {S S' S2 : zS} (h : cqI S S') (h2 : cqI S' S2) : cqI S S2 := ⟨eqq_trans h.1 h2.1, h2.2⟩
theorem vlS_ca {S S' : zS} (h : eqq caP S S') (p th n t : Nat) : vlS S' (S' 24 p 0) th n t = vlS S (S 24 p 0) th n t := vlS_congr (fun r t => h _ _ _ _ (by omega)) (fun t => h _ _ _ _ (by omega)) n t
/-- the k-th value of a page in a theme -/
def vaI (S : zS) (p th k : Nat) : Int := vlS S (S 24 p 0) th 3 (S 25 p 0 k).toNat
theorem vaI_ca {S S' : zS} (h : eqq caP S S') (p th k : Nat) : vaI S' p th k = vaI S p th k := by
  unfold vaI
  rw [vlS_ca h, h 25 p 0 k (by omega)]
theorem rg_tok {S : zS} (hS : inv1 S) {p : Nat} (hp : p < 4) : (0 ≤ S 21 p 0 5 ∧ S 21 p 0 5 ≤ 24) ∧ ∀ k : Nat, (k : Int) < 3 * S 21 p 0 5 → 0 ≤ S 25 p 0 k ∧ S 25 p 0 k < S 1 0 0 0 := by
  obtain ⟨h1, h2, h3, h4, h6⟩ := hS
  have h4 := h4 p hp
  have hw : wfP S p := ⟨h3.1, h4.1, h4.2.1, fun c x hc hx => ⟨(h3.2.1 c x hc hx).1, by have := (h3.2.1 c x hc hx).2; have := h1.1.2; omega⟩, h3.2.2.2.1, fun c hc => h3.2.2.2.2.2.1 c (by have := h3.1.2; omega)⟩
  have hl := pgP_len hw (S 21 p 0 0).toNat (by have := h4.1; omega)
  obtain ⟨r1, r2⟩ := h4.2.2.2.2.2.1
  refine ⟨by have := h4.1; omega, fun k hk => ?_⟩
  have hkr := r2 (k / 3) (k % 3) (by omega) (by omega)
  rw [show 3 * (k / 3) + k % 3 = k by omega] at hkr
  rw [hkr]
  have key : ∀ u : Nat, (u : Int) ≤ S 21 p 0 0 → ∀ o ∈ pgP S p u, (o.1 : Int) < S 9 0 0 0 ∧ o.2 < 3 := by
    intro u
    induction u with
    | zero => intro _ o ho; cases ho
    | succ u ih =>
      intro hu o ho
      simp only [pgP] at ho
      rcases List.mem_append.mp ho with ho | ho
      · exact ih (by omega) o ho
      · have hu1 := h4.2.1 u (by omega)
        have k2 : ∀ n, n ≤ (owL (fun c s => S 15 c 0 s) (S 22 p 0 u).toNat).length → o ∈ usP (owL (fun c s => S 15 c 0 s) (S 22 p 0 u).toNat) (S 23 p 0 u).toNat n → (o.1 : Int) < S 9 0 0 0 ∧ o.2 < 3 := by
          intro n
          induction n with
          | zero => intro _ h; cases h
          | succ n ih2 =>
            intro hn h
            simp only [usP] at h
            rcases List.mem_append.mp h with h | h
            · exact ih2 (by omega) h
            · have h := List.mem_singleton.mp h
              subst h
              refine ⟨?_, ?_⟩
              · show (((owL (fun c s => S 15 c 0 s) (S 22 p 0 u).toNat).getD n 0 : Nat) : Int) < _
                have hn2 : n < (owL (fun c s => S 15 c 0 s) (S 22 p 0 u).toNat).length := by omega
                rw [List.getD_eq_getElem?_getD, List.getElem?_eq_getElem hn2]
                have := owL_mem h3.2.2.2.1 (S 22 p 0 u).toNat (by have := h3.1; omega) _ (List.getElem_mem hn2)
                show (((owL (fun c s => S 15 c 0 s) (S 22 p 0 u).toNat)[n] : Nat) : Int) < _
                omega
              · show (if n = 0 then (S 23 p 0 u).toNat else 0) < 3
                split <;> omega
        exact k2 _ (Nat.le_refl _) ho
  have hr : k / 3 < (pgP S p (S 21 p 0 0).toNat).length := by omega
  have ho := key (S 21 p 0 0).toNat (by have := h4.1; omega) ((pgP S p (S 21 p 0 0).toNat).getD (k / 3) (0, 0)) (by
    rw [List.getD_eq_getElem?_getD, List.getElem?_eq_getElem hr]
    exact List.getElem_mem hr)
  generalize (pgP S p (S 21 p 0 0).toNat).getD (k / 3) (0, 0) = o at ho
  obtain ⟨c, v⟩ := o
  dsimp only at ho
  have hc8 : c < 8 := by have := h3.1; omega
  have b0 := h3.2.2.1 c 0 ho.1 (by omega)
  have b1 := h3.2.2.1 c 1 ho.1 (by omega)
  have b2 := h3.2.2.1 c 2 ho.1 (by omega)
  have t0 := (h3.2.1 c 0 hc8 (by omega)).2
  have t1 := (h3.2.1 c 1 hc8 (by omega)).2
  have t2 := (h3.2.1 c 2 hc8 (by omega)).2
  have tv := h3.2.1 c (2 + v) hc8 (by omega)
  have hq : k % 3 = 0 ∨ k % 3 = 1 ∨ k % 3 = 2 := by omega
  unfold tkI frI
  dsimp only
  rcases hq with hq | hq | hq <;> rw [hq]
  · rw [if_pos rfl]
    split
    · split <;> omega
    · omega
  · rw [if_neg (by decide)]; omega
  · rw [if_neg (by decide)]; omega
section IV
variable {E : zEn} {d mc ms : Nat} {kr : Option zV → zM → Prop} {kx : String → zM → Prop} {l : Nat → Nat → Nat → Nat → Int64} {δ : Nat → Nat → Nat → Nat → UInt64} {S : zS}
theorem m_present (h0 : zOk E) (hd : 3 ≤ d) (hS : inv1 S) (hV : KV S) {th p : Nat} (hth : (th : Int) < S 1 0 0 1) (hp : (p : Int) < S 0 0 0 3) (hk : ∀ S', cqI S S' → vwI S' p th 5 0 → kr (some (.inr (29, 5, 0))) (zMI S' l δ))
    : zC E zm_X6_present d mc ms [.inr (0, 0, 0), .inl (.int (I th)), .inl (.int (I p))] (zMI S l δ) kr kx := by
  have hth3 : th < 3 := by have := hS.1.2.1.2; omega
  have hp4 : p < 4 := by have := hS.2.2.2.2.1.2; omega
  have hrg := rg_tok hS hp4
  refine zC_of h0 (by decide +kernel) (Nat.le_of_ble_eq_true rfl) (Or.inl rfl) (zJ_cut h0 100 1000 zo_X6_present rfl fun K hK => ?_)
  conv => whnf
  repeat' (first
    | (refine ⟨0, 0, ⟨by omega, by omega⟩, ?_⟩)
    | (refine ⟨fun h => ?_, fun h => ?_⟩ <;> (try simp (disch := omega) only [I_0, I_add, I_sub, I_mul, I_neg, I_nat, I_lt, I_le, I_eq, Int.toNat_natCast, ne_eq, not_true, not_false_iff, zt0, zt1, zI_at, zpi_I, zpl_I, zpd_I, zcp_I, cpI_k, Int.reduceToNat, zu_s, zu_k, zu_i, zu_j, zu_n] at h) <;> (try (exfalso; omega)) <;> conv => whnf)
    | (refine ⟨by first | rfl | assumption | exact zin1 rfl | exact Nat.le_of_ble_eq_true rfl | exact ⟨rfl, Or.inl rfl⟩ | exact ⟨rfl, Or.inr (Or.inl rfl)⟩ | exact ⟨rfl, Or.inr (Or.inr rfl)⟩ | exact ⟨Nat.le_of_ble_eq_true rfl, Nat.le_of_ble_eq_true rfl⟩ | exact trivial | omega | (simp (disch := omega) only [I_0, I_add, I_sub, I_mul, I_neg, I_nat, I_lt, I_le, I_eq, Int.toNat_natCast, ne_eq, not_true, not_false_iff, zt0, zt1, zI_at, zpi_I, zpl_I, zpd_I, zcp_I, cpI_k, Int.reduceToNat, zu_s, zu_k, zu_i, zu_j, zu_n, I_in, zarr, zin6, zin8, zin11, zin13, zin15, zin19, zin21, zin22, zin23, zin24, zin25, zin26, zin27, zin28, zin29, zin30, zin29s, zin30s, zin33, zin5, Nat.le_refl, and_self, Prod.mk.injEq, Nat.reduceEqDiff, false_and, not_false_iff]; done) | (simp (disch := omega) only [I_0, I_add, I_sub, I_mul, I_neg, I_nat, I_lt, I_le, I_eq, Int.toNat_natCast, ne_eq, not_true, not_false_iff, zt0, zt1, zI_at, zpi_I, zpl_I, zpd_I, zcp_I, cpI_k, Int.reduceToNat, zu_s, zu_k, zu_i, zu_j, zu_n, I_in, zarr, zin6, zin8, zin11, zin13, zin15, zin19, zin21, zin22, zin23, zin24, zin25, zin26, zin27, zin28, zin29, zin30, zin29s, zin30s, zin33, zin5, Nat.le_refl, and_self, Prod.mk.injEq, Nat.reduceEqDiff, false_and, not_false_iff] <;> omega), ?_⟩; conv => whnf)
    | (refine zif70 (by assumption) ?_; conv => whnf)
    | (refine ⟨_, rfl, ?_⟩; conv => whnf))
  refine zC_to (m_X2_fillView h0 (by omega) hS.1 (p := p) (th := th) (n := (S 21 p 0 5).toNat) hp4 hth3 (fun t ht => (hS.2.2.2.1 p hp4).2.2.1 t ht) (by omega) (by omega) (fun k hk => hrg.2 k (by omega)) (fun t ht => ?_) (fun S' g1 g2 g3 g4 => ?_)) (by (repeat' (first | exact trivial | (refine And.intro ?_ ?_) | (refine zvi ?_; first | (with_reducible rfl) | (simp (disch := omega) only [I_0, I_add, I_sub, I_mul, I_neg, I_nat, I_lt, I_le, I_eq, Int.toNat_natCast, ne_eq, not_true, not_false_iff, zt0, zt1, zI_at, zpi_I, zpl_I, zpd_I, zcp_I, cpI_k, Int.reduceToNat, zu_s, zu_k, zu_i, zu_j, zu_n]; done) | (simp (disch := omega) only [I_0, I_add, I_sub, I_mul, I_neg, I_nat, I_lt, I_le, I_eq, Int.toNat_natCast, ne_eq, not_true, not_false_iff, zt0, zt1, zI_at, zpi_I, zpl_I, zpd_I, zcp_I, cpI_k, Int.reduceToNat, zu_s, zu_k, zu_i, zu_j, zu_n]; first | omega | (congr 1; omega)) | (congr 1; omega)) | rfl | (simp (disch := omega) only [I_0, I_add, I_sub, I_mul, I_neg, I_nat, I_lt, I_le, I_eq, Int.toNat_natCast, ne_eq, not_true, not_false_iff, zt0, zt1, zI_at, zpi_I, zpl_I, zpd_I, zcp_I, cpI_k, Int.reduceToNat, zu_s, zu_k, zu_i, zu_j, zu_n]; done) | (refine zlk_r rfl ?_; simp (disch := omega) only [I_0, I_add, I_sub, I_mul, I_neg, I_nat, I_lt, I_le, I_eq, Int.toNat_natCast, ne_eq, not_true, not_false_iff, zt0, zt1, zI_at, zpi_I, zpl_I, zpd_I, zcp_I, cpI_k, Int.reduceToNat, zu_s, zu_k, zu_i, zu_j, zu_n]; done)))) rfl
  · rcases hV p th t hp4 hth3 (by have := hS.1.1.2; omega) with h | h
    · exact Or.inl h
    · exact Or.inr h.2.2.2
  · conv => whnf
    repeat' (first
      | (refine ⟨0, 0, ⟨by omega, by omega⟩, ?_⟩)
      | (refine ⟨fun h => ?_, fun h => ?_⟩ <;> (try simp (disch := omega) only [I_0, I_add, I_sub, I_mul, I_neg, I_nat, I_lt, I_le, I_eq, Int.toNat_natCast, ne_eq, not_true, not_false_iff, zt0, zt1, zI_at, zpi_I, zpl_I, zpd_I, zcp_I, cpI_k, Int.reduceToNat, zu_s, zu_k, zu_i, zu_j, zu_n] at h) <;> (try (exfalso; omega)) <;> conv => whnf)
      | (refine ⟨by first | rfl | assumption | exact zin1 rfl | exact Nat.le_of_ble_eq_true rfl | exact ⟨rfl, Or.inl rfl⟩ | exact ⟨rfl, Or.inr (Or.inl rfl)⟩ | exact ⟨rfl, Or.inr (Or.inr rfl)⟩ | exact ⟨Nat.le_of_ble_eq_true rfl, Nat.le_of_ble_eq_true rfl⟩ | exact trivial | omega | (simp (disch := omega) only [I_0, I_add, I_sub, I_mul, I_neg, I_nat, I_lt, I_le, I_eq, Int.toNat_natCast, ne_eq, not_true, not_false_iff, zt0, zt1, zI_at, zpi_I, zpl_I, zpd_I, zcp_I, cpI_k, Int.reduceToNat, zu_s, zu_k, zu_i, zu_j, zu_n, I_in, zarr, zin6, zin8, zin11, zin13, zin15, zin19, zin21, zin22, zin23, zin24, zin25, zin26, zin27, zin28, zin29, zin30, zin29s, zin30s, zin33, zin5, Nat.le_refl, and_self, Prod.mk.injEq, Nat.reduceEqDiff, false_and, not_false_iff]; done) | (simp (disch := omega) only [I_0, I_add, I_sub, I_mul, I_neg, I_nat, I_lt, I_le, I_eq, Int.toNat_natCast, ne_eq, not_true, not_false_iff, zt0, zt1, zI_at, zpi_I, zpl_I, zpd_I, zcp_I, cpI_k, Int.reduceToNat, zu_s, zu_k, zu_i, zu_j, zu_n, I_in, zarr, zin6, zin8, zin11, zin13, zin15, zin19, zin21, zin22, zin23, zin24, zin25, zin26, zin27, zin28, zin29, zin30, zin29s, zin30s, zin33, zin5, Nat.le_refl, and_self, Prod.mk.injEq, Nat.reduceEqDiff, false_and, not_false_iff] <;> omega), ?_⟩; conv => whnf)
      | (refine zif70 (by assumption) ?_; conv => whnf)
      | (refine ⟨_, rfl, ?_⟩; conv => whnf))
    have ge : eqq caP S S' := eqq_mono g1 (fun k i j n h => by omega)
    refine hk S' ⟨ge, fun p' th' t' hp' hth' ht' => ?_⟩ g4
    have e1 : S' 1 0 0 0 = S 1 0 0 0 := ge _ _ _ _ (by omega)
    have e2 : S' 1 0 0 1 = S 1 0 0 1 := ge _ _ _ _ (by omega)
    have e3 : S' 0 0 0 3 = S 0 0 0 3 := ge _ _ _ _ (by omega)
    rw [e1, e2, e3]
    by_cases hpt : p' = p ∧ th' = th
    · obtain ⟨rfl, rfl⟩ := hpt
      by_cases htn : (t' : Int) < S 1 0 0 0
      · rcases g2 t' (by rw [e1]; exact htn) with h | h
        · exact Or.inl h
        · exact Or.inr ⟨htn, hth, hp, h⟩
      · rw [g3 t' ht' (by omega)]
        rcases hV p' th' t' hp' hth' ht' with h | h
        · exact Or.inl h
        · exact absurd h.1 htn
    · rw [g1 27 p' th' t' (by omega), vlS_ca ge]
      exact hV p' th' t' hp' hth' ht'
end IV
