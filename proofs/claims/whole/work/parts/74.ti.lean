/-! ===== what holds between the calls ===== -/
/-- at most three overrides; no own fronts yet -/
def invW (S : zS) : Prop := (∀ p, p < 4 → S 21 p 0 3 ≤ 3) ∧ ∀ c x : Nat, c < 8 → S 9 0 0 0 ≤ c → x = 3 ∨ x = 4 → S 11 c 0 x = -1
def TI (S : zS) (l : Nat → Nat → Nat → Nat → Int64) : Prop := inv0 S ∧ KV S ∧ invU S ∧ invW S ∧ RM S S ∧ l 0 0 0 7 = l 40 0 0 27
abbrev uwP : Nat → Nat → Nat → Nat → Prop := fun k _ _ m => ¬ ((k = 1 ∧ m = 0) ∨ k = 3 ∨ k = 4 ∨ (k = 21 ∧ m = 3) ∨ k = 9 ∨ k = 11)
theorem UW_tr {F H : zS} (h : eqq uwP F H) (hU : invU F) (hW : invW F) : invU H ∧ invW H := by
  have e1 : H 1 0 0 0 = F 1 0 0 0 := h _ _ _ _ (by omega)
  have e3 : ∀ t, H 3 0 0 t = F 3 0 0 t := fun t => h _ _ _ _ (by omega)
  have e4 : ∀ t, H 4 0 0 t = F 4 0 0 t := fun t => h _ _ _ _ (by omega)
  have e21 : ∀ p, H 21 p 0 3 = F 21 p 0 3 := fun p => h _ _ _ _ (by omega)
  have e9 : H 9 0 0 0 = F 9 0 0 0 := h _ _ _ _ (by omega)
  have e11 : ∀ c x, H 11 c 0 x = F 11 c 0 x := fun c x => h _ _ _ _ (by omega)
  unfold invU invW at *
  simp only [e1, e3, e4, e21, e9, e11]
  exact ⟨hU, hW⟩
theorem TI_fin {H S1 S2 : zS} {l2 : Nat → Nat → Nat → Nat → Int64} (i1 : inv0 S1) (i2 : KV S1) (hUW : invU H ∧ invW H) (h1 : eqq drP H S1) (h2 : eqq zmP S1 S2) (hR : RM H S2) (hl : l2 0 0 0 7 = l2 40 0 0 27) : TI S2 l2 := by
  have hT : wfT S2 := by
    have f1 : ∀ n, S2 1 0 0 n = S1 1 0 0 n := fun n => h2 _ _ _ _ (by omega)
    have f2 : ∀ n, S2 2 0 0 n = S1 2 0 0 n := fun n => h2 _ _ _ _ (by omega)
    have f3 : ∀ n, S2 3 0 0 n = S1 3 0 0 n := fun n => h2 _ _ _ _ (by omega)
    have f6 : ∀ r n, S2 6 r 0 n = S1 6 r 0 n := fun r n => h2 _ _ _ _ (by omega)
    have hT := i1.1.1
    unfold wfT at hT ⊢
    simp only [f1, f2, f3, f6]
    exact hT
  obtain ⟨u1, u2⟩ := UW_tr (F := H) (H := S2) (fun k i j m hk => by rw [h2 k i j m (by omega), h1 k i j m (by omega)]) hUW.1 hUW.2
  exact ⟨inv0_df (eqq_mono h2 (fun k i j m h => by omega)) i1 hT, KV_congr (fun k i j m hk => h2 k i j m (by omega)) i2, u1, u2, RM_gh (G := H) (fun k i j m hk => by rw [h2 k i j m (by omega), h1 k i j m (by omega)]) hR, hl⟩
theorem UW_at {S : zS} (hU : invU S) (hW : invW S) {n : Nat} (hn : S 1 0 0 0 = n) {a b : Int} : invU (atS S n a b) ∧ invW (atS S n a b) := by
  have h : eqq (fun k _ _ m => (k = 1 ∧ m = 0) ∨ k = 2 ∨ k = 6) S (atS S n a b) := fun k i j m hk => by
    unfold atS zu
    rw [if_neg (by omega), if_neg (by omega), if_neg (by omega)]
  have g10 : atS S n a b 1 0 0 0 = n + 1 := zu_s
  refine ⟨⟨fun t ht hle => ?_, fun t ht => ?_⟩, fun p hp => ?_, fun c x hc hle hx => ?_⟩
  · rw [h 3 0 0 t (by omega)]; exact hU.1 t ht (by omega)
  · rw [h 4 0 0 t (by omega)]; exact hU.2 t ht
  · rw [h 21 p 0 3 (by omega)]; exact hW.1 p hp
  · rw [h 9 0 0 0 (by omega)] at hle
    rw [h 11 c 0 x (by omega)]; exact hW.2 c x hc hle hx
theorem UW_ac {S : zS} (hU : invU S) (hW : invW S) {n : Nat} (hn : S 9 0 0 0 = n) {a b c : Int} : invU (acS S n a b c) ∧ invW (acS S n a b c) := by
  have h : eqq (fun k i _ m => (k = 9 ∧ m = 0) ∨ (k = 11 ∧ i = n ∧ m < 3)) S (acS S n a b c) := fun k i j m hk => by
    unfold acS zu
    rw [if_neg (by omega), if_neg (by omega), if_neg (by omega), if_neg (by omega)]
  have g9 : acS S n a b c 9 0 0 0 = n + 1 := zu_s
  refine ⟨⟨fun t ht hle => ?_, fun t ht => ?_⟩, fun p hp => ?_, fun e x he hle hx => ?_⟩
  · rw [h 1 0 0 0 (by omega)] at hle
    rw [h 3 0 0 t (by omega)]; exact hU.1 t ht hle
  · rw [h 4 0 0 t (by omega)]; exact hU.2 t ht
  · rw [h 21 p 0 3 (by omega)]; exact hW.1 p hp
  · rw [g9] at hle
    rw [h 11 e 0 x (by omega)]; exact hW.2 e x he (by omega) hx
theorem UW_sv {S : zS} (hU : invU S) (hW : invW S) {c m : Nat} (hc : (c : Int) < S 9 0 0 0) {f : Int} : invU (zu S 11 c 0 m f) ∧ invW (zu S 11 c 0 m f) := by
  have h : eqq (fun k i _ _ => k = 11 ∧ i = c) S (zu S 11 c 0 m f) := fun k i j m hk => if_neg (by omega)
  refine ⟨⟨fun t ht hle => ?_, fun t ht => ?_⟩, fun p hp => ?_, fun e x he hle hx => ?_⟩
  · rw [h 1 0 0 0 (by omega)] at hle
    rw [h 3 0 0 t (by omega)]; exact hU.1 t ht hle
  · rw [h 4 0 0 t (by omega)]; exact hU.2 t ht
  · rw [h 21 p 0 3 (by omega)]; exact hW.1 p hp
  · rw [h 9 0 0 0 (by omega)] at hle
    rw [h 11 e 0 x (by omega)]; exact hW.2 e x he hle hx
theorem UW_mv {S : zS} (hU : invU S) (hW : invW S) {t u : Int} : invU (mvS S t u) ∧ invW (mvS S t u) := by
  have h := mvS_e S t u
  refine ⟨⟨fun t ht hle => ?_, fun t ht => ?_⟩, fun p hp => ?_, fun e x he hle hx => ?_⟩
  · rw [h 1 0 0 0 (by omega)] at hle
    rw [h 3 0 0 t (by omega)]; exact hU.1 t ht hle
  · rw [h 4 0 0 t (by omega)]; exact hU.2 t ht
  · rw [h 21 p 0 3 (by omega)]; exact hW.1 p hp
  · rw [h 9 0 0 0 (by omega)] at hle
    unfold mvS
    rw [if_neg (by omega), if_neg (by omega)]
    exact hW.2 e x he hle hx
theorem UW_ov {S : zS} (hU : invU S) (hW : invW S) {p t : Nat} {v : Int} (hp : p < 4) (h3 : S 24 p 0 t = -1 → S 21 p 0 3 < 3) : invU (ovS S p t v) ∧ invW (ovS S p t v) := by
  have h := ovS_e S p t v
  have g3 : ovS S p t v 21 p 0 3 = ovC S p t v := by
    unfold ovS
    rw [if_neg (by omega), zu_k (by decide), zu_s]
  refine ⟨⟨fun t ht hle => ?_, fun t ht => ?_⟩, fun q hq => ?_, fun e x he hle hx => ?_⟩
  · rw [h 1 0 0 0 (by omega)] at hle
    rw [h 3 0 0 t (by omega)]; exact hU.1 t ht hle
  · rw [h 4 0 0 t (by omega)]; exact hU.2 t ht
  · by_cases c : q = p
    · subst c
      rw [g3]
      have := hW.1 q hq
      unfold ovC
      by_cases c2 : S 24 q 0 t = -1
      · have := h3 c2
        rw [if_pos c2]
        split <;> omega
      · rw [if_neg c2]
        split <;> omega
    · rw [h 21 q 0 3 (by omega)]; exact hW.1 q hq
  · rw [h 9 0 0 0 (by omega)] at hle
    rw [h 11 e 0 x (by omega)]; exact hW.2 e x he hle hx
theorem UW_de {S : zS} (hU : invU S) (hW : invW S) {a : Nat} {b : Int} (ha : (a : Int) < S 1 0 0 0) : invU (zu S 3 0 0 a b) ∧ invW (zu S 3 0 0 a b) := by
  have h : eqq (fun k _ _ m => k = 3 ∧ m = a) S (zu S 3 0 0 a b) := fun k i j m hk => if_neg (by omega)
  refine ⟨⟨fun t ht hle => ?_, fun t ht => ?_⟩, fun q hq => ?_, fun e x he hle hx => ?_⟩
  · rw [h 1 0 0 0 (by omega)] at hle
    rw [h 3 0 0 t (by omega)]; exact hU.1 t ht hle
  · rw [h 4 0 0 t (by omega)]; exact hU.2 t ht
  · rw [h 21 q 0 3 (by omega)]; exact hW.1 q hq
  · rw [h 9 0 0 0 (by omega)] at hle
    rw [h 11 e 0 x (by omega)]; exact hW.2 e x he hle hx
theorem lgc_self (x : Int64) : lg_cmp x x = 0 := by
  unfold lg_cmp
  simp
