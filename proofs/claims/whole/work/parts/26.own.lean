/-! ===== the regions of a component: whose they are ===== -/
def owS (f : Nat → Nat → Int) (g : Nat → List Nat) (c : Nat) : Nat → List Nat
  | 0 => []
  | s + 1 => owS f g c s ++ (if f c s = -1 then [] else g (f c s).toNat)
def owI (f : Nat → Nat → Int) : Nat → Nat → List Nat
  | 0, _ => []
  | n + 1, c => c :: owS f (owI f n) c 3
/-- the slots hold lower components -/
def wfO (f : Nat → Nat → Int) : Prop := ∀ c s, c < 8 → s < 3 → f c s = -1 ∨ (0 ≤ f c s ∧ f c s < c)
theorem owS_eq {f : Nat → Nat → Int} {g g' : Nat → List Nat} {c : Nat} (n : Nat) (h : ∀ s, s < n → f c s ≠ -1 → g (f c s).toNat = g' (f c s).toNat) : owS f g c n = owS f g' c n := by
  induction n with
  | zero => rfl
  | succ n ih =>
    simp only [owS]
    rw [ih (fun s hs => h s (by omega))]
    split
    · rfl
    · rw [h n (by omega) (by assumption)]
theorem owI_fuel {f : Nat → Nat → Int} (hf : wfO f) : ∀ n m c, c < 8 → c < n → c < m → owI f n c = owI f m c := by
  intro n
  induction n with
  | zero => intro m c _ h; omega
  | succ n ih =>
    intro m c h8 h1 h2
    cases m with
    | zero => omega
    | succ m =>
      simp only [owI]
      rw [owS_eq 3 (fun s hs hne => ?_)]
      rcases hf c s h8 hs with h | h
      · exact absurd h hne
      · exact ih m _ (by omega) (by omega) (by omega)
/-- the owners of a component's regions -/
def owL (f : Nat → Nat → Int) (c : Nat) : List Nat := owI f (c + 1) c
theorem owL_eq {f : Nat → Nat → Int} (hf : wfO f) {c : Nat} (hc : c < 8) : owL f c = c :: owS f (owL f) c 3 := by
  rw [show owL f c = c :: owS f (owI f c) c 3 from rfl]
  rw [owS_eq 3 (fun s hs hne => ?_)]
  rcases hf c s hc hs with h | h
  · exact absurd h hne
  · exact owI_fuel hf _ _ _ (by omega) (by omega) (by omega)
theorem owI_owL {f : Nat → Nat → Int} (hf : wfO f) {n c : Nat} (hc : c < 8) (h : c < n) : owI f n c = owL f c := owI_fuel hf _ _ _ hc h (by omega)
theorem owS_len (f : Nat → Nat → Int) (g : Nat → List Nat) (c n m : Nat) (h : n ≤ m) : (owS f g c n).length ≤ (owS f g c m).length := by
  induction m with
  | zero =>
    have : n = 0 := by omega
    subst this
    exact Nat.le_refl _
  | succ m ih =>
    by_cases e : n = m + 1
    · subst e; exact Nat.le_refl _
    · have := ih (by omega)
      simp only [owS, List.length_append]
      omega
theorem owL_mem {f : Nat → Nat → Int} (hf : wfO f) : ∀ c, c < 8 → ∀ x ∈ owL f c, x ≤ c := by
  intro c
  induction c using Nat.strongRecOn with
  | _ c ih =>
    intro hc x hx
    rw [owL_eq hf hc] at hx
    rcases List.mem_cons.mp hx with rfl | hx
    · exact Nat.le_refl _
    · have key : ∀ n, n ≤ 3 → x ∈ owS f (owL f) c n → x ≤ c := by
        intro n
        induction n with
        | zero => intro _ h; cases h
        | succ n ih2 =>
          intro hn h
          simp only [owS] at h
          rcases List.mem_append.mp h with h | h
          · exact ih2 (by omega) h
          · split at h
            · cases h
            · rename_i hne
              rcases hf c n hc (by omega) with h' | h'
              · exact absurd h' hne
              · have := ih (f c n).toNat (by omega) (by omega) x h
                omega
      exact key 3 (Nat.le_refl _) hx
/-- a component's owners are listed so -/
def ownI (S : zS) (c : Nat) (L : List Nat) : Prop := S 16 0 0 c = L.length ∧ ∀ k, k < L.length → S 19 c 0 k = (L.getD k 0 : Nat)
theorem ownI_eq {S S' : zS} {c : Nat} {L : List Nat} (h : ownI S c L) (h1 : S' 16 0 0 c = S 16 0 0 c) (h2 : ∀ k, k < 4 → S' 19 c 0 k = S 19 c 0 k) (h4 : L.length ≤ 4) : ownI S' c L := ⟨h1.trans h.1, fun k hk => (h2 k (by omega)).trans (h.2 k hk)⟩
section OW
variable {E : zEn} {d mc ms : Nat} {kr : Option zV → zM → Prop} {kx : String → zM → Prop} {l : Nat → Nat → Nat → Nat → Int64} {δ : Nat → Nat → Nat → Nat → UInt64} {S : zS}
theorem ownI_app {S : zS} {c e : Nat} {L L' : List Nat} (hne : ¬ e = c) (h : ownI S c L) (h' : ownI S e L') : ownI (zu (cpI S (19, e, 0) (19, c, 0) 0 L.length L'.length) 16 0 0 c (L.length + L'.length)) c (L ++ L') := by
  refine ⟨by rw [zu_s, List.length_append]; omega, fun k hk => ?_⟩
  rw [zu_k (by decide)]
  rw [List.length_append] at hk
  unfold cpI
  by_cases h1 : k < L.length
  · rw [if_neg (by dsimp only; omega), h.2 k h1]
    simp only [List.getD_eq_getElem?_getD, List.getElem?_append_left h1]
  · rw [if_pos ⟨rfl, rfl, rfl, by omega, by omega⟩]
    show S 19 e 0 (0 + (k - L.length)) = _
    rw [Nat.zero_add, h'.2 (k - L.length) (by omega)]
    simp only [List.getD_eq_getElem?_getD, List.getElem?_append_right (by omega : L.length ≤ k)]
theorem ownI_oth {S : zS} {c e x : Nat} {a b : Nat} {v : Int} {L : List Nat} (hne : ¬ x = c) (h : ownI S x L) : ownI (zu (cpI S (19, e, 0) (19, c, 0) 0 a b) 16 0 0 c v) x L := by
  refine ⟨?_, fun k hk => ?_⟩
  · rw [zu_n hne, cpI_k (fun h => absurd h (by decide : ¬ (16 : Nat) = 19))]
    exact h.1
  · rw [zu_k (by decide)]
    unfold cpI
    rw [if_neg (by dsimp only; omega)]
    exact h.2 k hk
theorem j_X0_listRegions (h0 : zOk E) (hd : 1 ≤ d) {S0 : zS} {n : Nat} (hn : S0 9 0 0 0 = n) (hn2 : n ≤ 8) (hf : wfO (fun c s => S0 15 c 0 s)) (h4 : ∀ c, c < n → (owL (fun c s => S0 15 c 0 s) c).length ≤ 4) (hk : ∀ S', eqx [16, 19] S0 S' → (∀ c, c < n → ownI S' c (owL (fun c s => S0 15 c 0 s) c)) → kr none (zMI S' l δ))
    : ∀ r x : Nat, x + r = n → ∀ S : zS, eqx [16, 19] S0 S → (∀ c, c < x → ownI S c (owL (fun c s => S0 15 c 0 s) c)) → zJ E zm_X0_listRegions d mc ms kr kx 2 [(0, .inr (9, 0, 0)), (1, .inl (.int (I x)))] [] (zMI S l δ) (0, 0) := by
  intro r
  induction r with
  | zero =>
    intro x hx S hS hc
    have e1 : S 9 0 0 0 = n := (hS 9 (by decide) 0 0 0).trans hn
    refine zJ_at h0 100 zo_X0_listRegions rfl fun K hK => ?_
    conv => whnf
    repeat' (first
      | (refine ⟨0, 0, ⟨by omega, by omega⟩, ?_⟩)
      | (refine ⟨fun h => ?_, fun h => ?_⟩ <;> (try simp (disch := omega) only [I_0, I_add, I_sub, I_mul, I_neg, I_nat, I_lt, I_le, I_eq, Int.toNat_natCast, ne_eq, not_true, not_false_iff, zt0, zt1, zI_at, zpi_I, zpl_I, zpd_I, zcp_I, cpI_k, Int.reduceToNat, zu_s, zu_k, zu_i, zu_j, zu_n, e1] at h) <;> (try (exfalso; omega)) <;> conv => whnf)
      | (refine ⟨by first | rfl | assumption | exact zin1 rfl | exact Nat.le_of_ble_eq_true rfl | exact ⟨rfl, Or.inl rfl⟩ | exact ⟨rfl, Or.inr (Or.inl rfl)⟩ | exact ⟨rfl, Or.inr (Or.inr rfl)⟩ | exact ⟨Nat.le_of_ble_eq_true rfl, Nat.le_of_ble_eq_true rfl⟩ | exact trivial | omega | (simp (disch := omega) only [I_0, I_add, I_sub, I_mul, I_neg, I_nat, I_lt, I_le, I_eq, Int.toNat_natCast, ne_eq, not_true, not_false_iff, zt0, zt1, zI_at, zpi_I, zpl_I, zpd_I, zcp_I, cpI_k, Int.reduceToNat, zu_s, zu_k, zu_i, zu_j, zu_n, I_in, zarr, zin6, zin8, zin11, zin13, zin15, zin19, zin21, zin22, zin23, zin24, zin25, zin26, zin27, zin28, zin29, zin30, zin29s, zin30s, zin33, zin5, Nat.le_refl, and_self, Prod.mk.injEq, Nat.reduceEqDiff, false_and, not_false_iff, e1]; done) | (simp (disch := omega) only [I_0, I_add, I_sub, I_mul, I_neg, I_nat, I_lt, I_le, I_eq, Int.toNat_natCast, ne_eq, not_true, not_false_iff, zt0, zt1, zI_at, zpi_I, zpl_I, zpd_I, zcp_I, cpI_k, Int.reduceToNat, zu_s, zu_k, zu_i, zu_j, zu_n, I_in, zarr, zin6, zin8, zin11, zin13, zin15, zin19, zin21, zin22, zin23, zin24, zin25, zin26, zin27, zin28, zin29, zin30, zin29s, zin30s, zin33, zin5, Nat.le_refl, and_self, Prod.mk.injEq, Nat.reduceEqDiff, false_and, not_false_iff, e1] <;> omega), ?_⟩; conv => whnf)
      | (refine zif70 (by assumption) ?_; conv => whnf)
      | (refine ⟨_, rfl, ?_⟩; conv => whnf))
    have : x = n := by omega
    subst this
    exact hk S hS hc
  | succ r ih =>
    intro x hx S hS hc
    have e1 : S 9 0 0 0 = n := (hS 9 (by decide) 0 0 0).trans hn
    have inner : ∀ m y : Nat, y + m = 3 → ∀ S : zS, eqx [16, 19] S0 S → (∀ c, c < x → ownI S c (owL (fun c s => S0 15 c 0 s) c)) → ownI S x (x :: owS (fun c s => S0 15 c 0 s) (owL (fun c s => S0 15 c 0 s)) x y) → zJ E zm_X0_listRegions d mc ms kr kx 28 [(0, .inr (9, 0, 0)), (1, .inl (.int (I x))), (2, .inl (.int (I y)))] [] (zMI S l δ) (0, 0) := by
      intro m
      induction m with
      | zero =>
        intro y hy S hS hc ho
        have e1 : S 9 0 0 0 = n := (hS 9 (by decide) 0 0 0).trans hn
        refine zJ_at h0 100 zo_X0_listRegions rfl fun K hK => ?_
        conv => whnf
        repeat' (first
          | (refine ⟨0, 0, ⟨by omega, by omega⟩, ?_⟩)
          | (refine ⟨fun h => ?_, fun h => ?_⟩ <;> (try simp (disch := omega) only [I_0, I_add, I_sub, I_mul, I_neg, I_nat, I_lt, I_le, I_eq, Int.toNat_natCast, ne_eq, not_true, not_false_iff, zt0, zt1, zI_at, zpi_I, zpl_I, zpd_I, zcp_I, cpI_k, Int.reduceToNat, zu_s, zu_k, zu_i, zu_j, zu_n, e1] at h) <;> (try (exfalso; omega)) <;> conv => whnf)
          | (refine ⟨by first | rfl | assumption | exact zin1 rfl | exact Nat.le_of_ble_eq_true rfl | exact ⟨rfl, Or.inl rfl⟩ | exact ⟨rfl, Or.inr (Or.inl rfl)⟩ | exact ⟨rfl, Or.inr (Or.inr rfl)⟩ | exact ⟨Nat.le_of_ble_eq_true rfl, Nat.le_of_ble_eq_true rfl⟩ | exact trivial | omega | (simp (disch := omega) only [I_0, I_add, I_sub, I_mul, I_neg, I_nat, I_lt, I_le, I_eq, Int.toNat_natCast, ne_eq, not_true, not_false_iff, zt0, zt1, zI_at, zpi_I, zpl_I, zpd_I, zcp_I, cpI_k, Int.reduceToNat, zu_s, zu_k, zu_i, zu_j, zu_n, I_in, zarr, zin6, zin8, zin11, zin13, zin15, zin19, zin21, zin22, zin23, zin24, zin25, zin26, zin27, zin28, zin29, zin30, zin29s, zin30s, zin33, zin5, Nat.le_refl, and_self, Prod.mk.injEq, Nat.reduceEqDiff, false_and, not_false_iff, e1]; done) | (simp (disch := omega) only [I_0, I_add, I_sub, I_mul, I_neg, I_nat, I_lt, I_le, I_eq, Int.toNat_natCast, ne_eq, not_true, not_false_iff, zt0, zt1, zI_at, zpi_I, zpl_I, zpd_I, zcp_I, cpI_k, Int.reduceToNat, zu_s, zu_k, zu_i, zu_j, zu_n, I_in, zarr, zin6, zin8, zin11, zin13, zin15, zin19, zin21, zin22, zin23, zin24, zin25, zin26, zin27, zin28, zin29, zin30, zin29s, zin30s, zin33, zin5, Nat.le_refl, and_self, Prod.mk.injEq, Nat.reduceEqDiff, false_and, not_false_iff, e1] <;> omega), ?_⟩; conv => whnf)
          | (refine zif70 (by assumption) ?_; conv => whnf)
          | (refine ⟨_, rfl, ?_⟩; conv => whnf))
        refine hK _ _ _ _ _ (zJ_to (by (repeat' (first | exact trivial | (refine And.intro ?_ ?_) | (refine zlk_i rfl ?_; first | (with_reducible rfl) | (simp (disch := omega) only [I_0, I_add, I_sub, I_mul, I_neg, I_nat, I_lt, I_le, I_eq, Int.toNat_natCast, ne_eq, not_true, not_false_iff, zt0, zt1, zI_at, zpi_I, zpl_I, zpd_I, zcp_I, cpI_k, Int.reduceToNat, zu_s, zu_k, zu_i, zu_j, zu_n]; done) | (simp (disch := omega) only [I_0, I_add, I_sub, I_mul, I_neg, I_nat, I_lt, I_le, I_eq, Int.toNat_natCast, ne_eq, not_true, not_false_iff, zt0, zt1, zI_at, zpi_I, zpl_I, zpd_I, zcp_I, cpI_k, Int.reduceToNat, zu_s, zu_k, zu_i, zu_j, zu_n]; first | omega | (congr 1; omega)) | (congr 1; omega)) | rfl | (simp (disch := omega) only [I_0, I_add, I_sub, I_mul, I_neg, I_nat, I_lt, I_le, I_eq, Int.toNat_natCast, ne_eq, not_true, not_false_iff, zt0, zt1, zI_at, zpi_I, zpl_I, zpd_I, zcp_I, cpI_k, Int.reduceToNat, zu_s, zu_k, zu_i, zu_j, zu_n]; done)))) rfl rfl (ih (x + 1) (by omega) S hS fun c hc1 => ?_))
        by_cases hcx : c = x
        · subst hcx
          have : y = 3 := by omega
          subst this
          rw [owL_eq hf (by omega)]
          exact ho
        · exact hc c (by omega)
      | succ m ih2 =>
        intro y hy S hS hc ho
        have e1 : S 9 0 0 0 = n := (hS 9 (by decide) 0 0 0).trans hn
        have e2 : S 15 x 0 y = S0 15 x 0 y := hS 15 (by decide) x 0 y
        have hlen := h4 x (by omega)
        rw [owL_eq hf (by omega)] at hlen
        have hl2 := owS_len (fun c s => S0 15 c 0 s) (owL (fun c s => S0 15 c 0 s)) x (y + 1) 3 (by omega)
        have hw := hf x y (by omega) (by omega)
        dsimp only at hw
        refine zJ_at h0 100 zo_X0_listRegions rfl fun K hK => ?_
        conv => whnf
        repeat' (first
          | (refine ⟨0, 0, ⟨by omega, by omega⟩, ?_⟩)
          | (refine ⟨fun h => ?_, fun h => ?_⟩ <;> (try simp (disch := omega) only [I_0, I_add, I_sub, I_mul, I_neg, I_nat, I_lt, I_le, I_eq, Int.toNat_natCast, ne_eq, not_true, not_false_iff, zt0, zt1, zI_at, zpi_I, zpl_I, zpd_I, zcp_I, cpI_k, Int.reduceToNat, zu_s, zu_k, zu_i, zu_j, zu_n, e1, e2] at h) <;> (try (exfalso; omega)) <;> conv => whnf)
          | (refine ⟨by first | rfl | assumption | exact zin1 rfl | exact Nat.le_of_ble_eq_true rfl | exact ⟨rfl, Or.inl rfl⟩ | exact ⟨rfl, Or.inr (Or.inl rfl)⟩ | exact ⟨rfl, Or.inr (Or.inr rfl)⟩ | exact ⟨Nat.le_of_ble_eq_true rfl, Nat.le_of_ble_eq_true rfl⟩ | exact trivial | omega | (simp (disch := omega) only [I_0, I_add, I_sub, I_mul, I_neg, I_nat, I_lt, I_le, I_eq, Int.toNat_natCast, ne_eq, not_true, not_false_iff, zt0, zt1, zI_at, zpi_I, zpl_I, zpd_I, zcp_I, cpI_k, Int.reduceToNat, zu_s, zu_k, zu_i, zu_j, zu_n, I_in, zarr, zin6, zin8, zin11, zin13, zin15, zin19, zin21, zin22, zin23, zin24, zin25, zin26, zin27, zin28, zin29, zin30, zin29s, zin30s, zin33, zin5, Nat.le_refl, and_self, Prod.mk.injEq, Nat.reduceEqDiff, false_and, not_false_iff, e1, e2]; done) | (simp (disch := omega) only [I_0, I_add, I_sub, I_mul, I_neg, I_nat, I_lt, I_le, I_eq, Int.toNat_natCast, ne_eq, not_true, not_false_iff, zt0, zt1, zI_at, zpi_I, zpl_I, zpd_I, zcp_I, cpI_k, Int.reduceToNat, zu_s, zu_k, zu_i, zu_j, zu_n, I_in, zarr, zin6, zin8, zin11, zin13, zin15, zin19, zin21, zin22, zin23, zin24, zin25, zin26, zin27, zin28, zin29, zin30, zin29s, zin30s, zin33, zin5, Nat.le_refl, and_self, Prod.mk.injEq, Nat.reduceEqDiff, false_and, not_false_iff, e1, e2] <;> omega), ?_⟩; conv => whnf)
          | (refine zif70 (by assumption) ?_; conv => whnf)
          | (refine ⟨_, rfl, ?_⟩; conv => whnf))
        · refine hK _ _ _ _ _ (zJ_to (by (repeat' (first | exact trivial | (refine And.intro ?_ ?_) | (refine zlk_i rfl ?_; first | (with_reducible rfl) | (simp (disch := omega) only [I_0, I_add, I_sub, I_mul, I_neg, I_nat, I_lt, I_le, I_eq, Int.toNat_natCast, ne_eq, not_true, not_false_iff, zt0, zt1, zI_at, zpi_I, zpl_I, zpd_I, zcp_I, cpI_k, Int.reduceToNat, zu_s, zu_k, zu_i, zu_j, zu_n]; done) | (simp (disch := omega) only [I_0, I_add, I_sub, I_mul, I_neg, I_nat, I_lt, I_le, I_eq, Int.toNat_natCast, ne_eq, not_true, not_false_iff, zt0, zt1, zI_at, zpi_I, zpl_I, zpd_I, zcp_I, cpI_k, Int.reduceToNat, zu_s, zu_k, zu_i, zu_j, zu_n]; first | omega | (congr 1; omega)) | (congr 1; omega)) | rfl | (simp (disch := omega) only [I_0, I_add, I_sub, I_mul, I_neg, I_nat, I_lt, I_le, I_eq, Int.toNat_natCast, ne_eq, not_true, not_false_iff, zt0, zt1, zI_at, zpi_I, zpl_I, zpd_I, zcp_I, cpI_k, Int.reduceToNat, zu_s, zu_k, zu_i, zu_j, zu_n]; done)))) rfl rfl (ih2 (y + 1) (by omega) S hS hc ?_))
          simp only [owS]
          rw [if_pos (by assumption), List.append_nil]
          exact ho
        · obtain ⟨e, he⟩ : ∃ e : Nat, S0 15 x 0 y = e := ⟨(S0 15 x 0 y).toNat, by omega⟩
          rw [he] at hw e2
          have hx2 : e < x := by omega
          have hoe := hc e hx2
          simp only [List.length_cons] at hlen
          have hl3 : (owS (fun c s => S0 15 c 0 s) (owL (fun c s => S0 15 c 0 s)) x (y + 1)).length = (owS (fun c s => S0 15 c 0 s) (owL (fun c s => S0 15 c 0 s)) x y).length + (owL (fun c s => S0 15 c 0 s) e).length := by
            simp only [owS, List.length_append]
            rw [if_neg (by omega), he, Int.toNat_natCast]
          have ha : S 16 0 0 x = ((x :: owS (fun c s => S0 15 c 0 s) (owL (fun c s => S0 15 c 0 s)) x y).length : Nat) := ho.1
          refine zC_to (m_X0_appendRegions h0 (c := x) (e := e) (by omega) (by omega) (by omega) ha hoe.1 (by simp only [List.length_cons]; omega) ?_) (by (repeat' (first | exact trivial | (refine And.intro ?_ ?_) | (refine zvi ?_; first | (with_reducible rfl) | (simp (disch := omega) only [I_0, I_add, I_sub, I_mul, I_neg, I_nat, I_lt, I_le, I_eq, Int.toNat_natCast, ne_eq, not_true, not_false_iff, zt0, zt1, zI_at, zpi_I, zpl_I, zpd_I, zcp_I, cpI_k, Int.reduceToNat, zu_s, zu_k, zu_i, zu_j, zu_n, e2]; done) | (simp (disch := omega) only [I_0, I_add, I_sub, I_mul, I_neg, I_nat, I_lt, I_le, I_eq, Int.toNat_natCast, ne_eq, not_true, not_false_iff, zt0, zt1, zI_at, zpi_I, zpl_I, zpd_I, zcp_I, cpI_k, Int.reduceToNat, zu_s, zu_k, zu_i, zu_j, zu_n, e2]; first | omega | (congr 1; omega)) | (congr 1; omega)) | rfl | (simp (disch := omega) only [I_0, I_add, I_sub, I_mul, I_neg, I_nat, I_lt, I_le, I_eq, Int.toNat_natCast, ne_eq, not_true, not_false_iff, zt0, zt1, zI_at, zpi_I, zpl_I, zpd_I, zcp_I, cpI_k, Int.reduceToNat, zu_s, zu_k, zu_i, zu_j, zu_n, e2]; done)))) rfl
          conv => whnf
          repeat' (first
            | (refine ⟨0, 0, ⟨by omega, by omega⟩, ?_⟩)
            | (refine ⟨fun h => ?_, fun h => ?_⟩ <;> (try simp (disch := omega) only [I_0, I_add, I_sub, I_mul, I_neg, I_nat, I_lt, I_le, I_eq, Int.toNat_natCast, ne_eq, not_true, not_false_iff, zt0, zt1, zI_at, zpi_I, zpl_I, zpd_I, zcp_I, cpI_k, Int.reduceToNat, zu_s, zu_k, zu_i, zu_j, zu_n] at h) <;> (try (exfalso; omega)) <;> conv => whnf)
            | (refine ⟨by first | rfl | assumption | exact zin1 rfl | exact Nat.le_of_ble_eq_true rfl | exact ⟨rfl, Or.inl rfl⟩ | exact ⟨rfl, Or.inr (Or.inl rfl)⟩ | exact ⟨rfl, Or.inr (Or.inr rfl)⟩ | exact ⟨Nat.le_of_ble_eq_true rfl, Nat.le_of_ble_eq_true rfl⟩ | exact trivial | omega | (simp (disch := omega) only [I_0, I_add, I_sub, I_mul, I_neg, I_nat, I_lt, I_le, I_eq, Int.toNat_natCast, ne_eq, not_true, not_false_iff, zt0, zt1, zI_at, zpi_I, zpl_I, zpd_I, zcp_I, cpI_k, Int.reduceToNat, zu_s, zu_k, zu_i, zu_j, zu_n, I_in, zarr, zin6, zin8, zin11, zin13, zin15, zin19, zin21, zin22, zin23, zin24, zin25, zin26, zin27, zin28, zin29, zin30, zin29s, zin30s, zin33, zin5, Nat.le_refl, and_self, Prod.mk.injEq, Nat.reduceEqDiff, false_and, not_false_iff]; done) | (simp (disch := omega) only [I_0, I_add, I_sub, I_mul, I_neg, I_nat, I_lt, I_le, I_eq, Int.toNat_natCast, ne_eq, not_true, not_false_iff, zt0, zt1, zI_at, zpi_I, zpl_I, zpd_I, zcp_I, cpI_k, Int.reduceToNat, zu_s, zu_k, zu_i, zu_j, zu_n, I_in, zarr, zin6, zin8, zin11, zin13, zin15, zin19, zin21, zin22, zin23, zin24, zin25, zin26, zin27, zin28, zin29, zin30, zin29s, zin30s, zin33, zin5, Nat.le_refl, and_self, Prod.mk.injEq, Nat.reduceEqDiff, false_and, not_false_iff] <;> omega), ?_⟩; conv => whnf)
            | (refine zif70 (by assumption) ?_; conv => whnf)
            | (refine ⟨_, rfl, ?_⟩; conv => whnf))
          refine hK _ _ _ _ _ (zJ_to (by (repeat' (first | exact trivial | (refine And.intro ?_ ?_) | (refine zlk_i rfl ?_; first | (with_reducible rfl) | (simp (disch := omega) only [I_0, I_add, I_sub, I_mul, I_neg, I_nat, I_lt, I_le, I_eq, Int.toNat_natCast, ne_eq, not_true, not_false_iff, zt0, zt1, zI_at, zpi_I, zpl_I, zpd_I, zcp_I, cpI_k, Int.reduceToNat, zu_s, zu_k, zu_i, zu_j, zu_n]; done) | (simp (disch := omega) only [I_0, I_add, I_sub, I_mul, I_neg, I_nat, I_lt, I_le, I_eq, Int.toNat_natCast, ne_eq, not_true, not_false_iff, zt0, zt1, zI_at, zpi_I, zpl_I, zpd_I, zcp_I, cpI_k, Int.reduceToNat, zu_s, zu_k, zu_i, zu_j, zu_n]; first | omega | (congr 1; omega)) | (congr 1; omega)) | rfl | (simp (disch := omega) only [I_0, I_add, I_sub, I_mul, I_neg, I_nat, I_lt, I_le, I_eq, Int.toNat_natCast, ne_eq, not_true, not_false_iff, zt0, zt1, zI_at, zpi_I, zpl_I, zpd_I, zcp_I, cpI_k, Int.reduceToNat, zu_s, zu_k, zu_i, zu_j, zu_n]; done)))) rfl rfl (ih2 (y + 1) (by omega) _ (eqx_zu (eqx_cp hS rfl) rfl) (fun c hc1 => ownI_oth (by omega) (hc c hc1)) ?_))
          simp only [owS]
          rw [if_neg (by omega), he, Int.toNat_natCast, ← List.cons_append]
          exact ownI_app (by omega) ho hoe
    refine zJ_cut h0 100 28 zo_X0_listRegions rfl fun K hK => ?_
    conv => whnf
    repeat' (first
      | (refine ⟨0, 0, ⟨by omega, by omega⟩, ?_⟩)
      | (refine ⟨fun h => ?_, fun h => ?_⟩ <;> (try simp (disch := omega) only [I_0, I_add, I_sub, I_mul, I_neg, I_nat, I_lt, I_le, I_eq, Int.toNat_natCast, ne_eq, not_true, not_false_iff, zt0, zt1, zI_at, zpi_I, zpl_I, zpd_I, zcp_I, cpI_k, Int.reduceToNat, zu_s, zu_k, zu_i, zu_j, zu_n, e1] at h) <;> (try (exfalso; omega)) <;> conv => whnf)
      | (refine ⟨by first | rfl | assumption | exact zin1 rfl | exact Nat.le_of_ble_eq_true rfl | exact ⟨rfl, Or.inl rfl⟩ | exact ⟨rfl, Or.inr (Or.inl rfl)⟩ | exact ⟨rfl, Or.inr (Or.inr rfl)⟩ | exact ⟨Nat.le_of_ble_eq_true rfl, Nat.le_of_ble_eq_true rfl⟩ | exact trivial | omega | (simp (disch := omega) only [I_0, I_add, I_sub, I_mul, I_neg, I_nat, I_lt, I_le, I_eq, Int.toNat_natCast, ne_eq, not_true, not_false_iff, zt0, zt1, zI_at, zpi_I, zpl_I, zpd_I, zcp_I, cpI_k, Int.reduceToNat, zu_s, zu_k, zu_i, zu_j, zu_n, I_in, zarr, zin6, zin8, zin11, zin13, zin15, zin19, zin21, zin22, zin23, zin24, zin25, zin26, zin27, zin28, zin29, zin30, zin29s, zin30s, zin33, zin5, Nat.le_refl, and_self, Prod.mk.injEq, Nat.reduceEqDiff, false_and, not_false_iff, e1]; done) | (simp (disch := omega) only [I_0, I_add, I_sub, I_mul, I_neg, I_nat, I_lt, I_le, I_eq, Int.toNat_natCast, ne_eq, not_true, not_false_iff, zt0, zt1, zI_at, zpi_I, zpl_I, zpd_I, zcp_I, cpI_k, Int.reduceToNat, zu_s, zu_k, zu_i, zu_j, zu_n, I_in, zarr, zin6, zin8, zin11, zin13, zin15, zin19, zin21, zin22, zin23, zin24, zin25, zin26, zin27, zin28, zin29, zin30, zin29s, zin30s, zin33, zin5, Nat.le_refl, and_self, Prod.mk.injEq, Nat.reduceEqDiff, false_and, not_false_iff, e1] <;> omega), ?_⟩; conv => whnf)
      | (refine zif70 (by assumption) ?_; conv => whnf)
      | (refine ⟨_, rfl, ?_⟩; conv => whnf))
    refine hK _ _ _ _ _ (zJ_to (M' := zMI (zu (zu S 19 x 0 0 x) 16 0 0 x 1) l δ) (by (repeat' (first | exact trivial | (refine And.intro ?_ ?_) | (refine zlk_i rfl ?_; first | (with_reducible rfl) | (simp (disch := omega) only [I_0, I_add, I_sub, I_mul, I_neg, I_nat, I_lt, I_le, I_eq, Int.toNat_natCast, ne_eq, not_true, not_false_iff, zt0, zt1, zI_at, zpi_I, zpl_I, zpd_I, zcp_I, cpI_k, Int.reduceToNat, zu_s, zu_k, zu_i, zu_j, zu_n]; done) | (simp (disch := omega) only [I_0, I_add, I_sub, I_mul, I_neg, I_nat, I_lt, I_le, I_eq, Int.toNat_natCast, ne_eq, not_true, not_false_iff, zt0, zt1, zI_at, zpi_I, zpl_I, zpd_I, zcp_I, cpI_k, Int.reduceToNat, zu_s, zu_k, zu_i, zu_j, zu_n]; first | omega | (congr 1; omega)) | (congr 1; omega)) | rfl | (simp (disch := omega) only [I_0, I_add, I_sub, I_mul, I_neg, I_nat, I_lt, I_le, I_eq, Int.toNat_natCast, ne_eq, not_true, not_false_iff, zt0, zt1, zI_at, zpi_I, zpl_I, zpd_I, zcp_I, cpI_k, Int.reduceToNat, zu_s, zu_k, zu_i, zu_j, zu_n]; done)))) rfl (by (first | rfl | (simp (disch := omega) only [I_0, I_add, I_sub, I_mul, I_neg, I_nat, I_lt, I_le, I_eq, Int.toNat_natCast, ne_eq, not_true, not_false_iff, zt0, zt1, zI_at, zpi_I, zpl_I, zpd_I, zcp_I, cpI_k, Int.reduceToNat, zu_s, zu_k, zu_i, zu_j, zu_n]; done) | (simp (disch := omega) only [I_0, I_add, I_sub, I_mul, I_neg, I_nat, I_lt, I_le, I_eq, Int.toNat_natCast, ne_eq, not_true, not_false_iff, zt0, zt1, zI_at, zpi_I, zpl_I, zpd_I, zcp_I, cpI_k, Int.reduceToNat, zu_s, zu_k, zu_i, zu_j, zu_n]; rfl))) (inner 3 0 rfl _ (eqx_zu (eqx_zu hS rfl) rfl) (fun c hc1 => ?_) ?_))
    · have h9 := hc c hc1
      refine ⟨?_, fun k hk => ?_⟩
      · rw [zu_n (by omega), zu_k (by decide)]; exact h9.1
      · rw [zu_k (by decide), zu_i (by omega)]; exact h9.2 k hk
    · refine ⟨by rw [zu_s]; rfl, fun k hk => ?_⟩
      have : k = 0 := by
        simp only [owS, List.length_cons, List.length_nil] at hk
        omega
      subst this
      rw [zu_k (by decide), zu_s]
      rfl
theorem m_X0_listRegions (h0 : zOk E) (hd : 1 ≤ d) {n : Nat} (hn : S 9 0 0 0 = n) (hn2 : n ≤ 8) (hf : wfO (fun c s => S 15 c 0 s)) (h4 : ∀ c, c < n → (owL (fun c s => S 15 c 0 s) c).length ≤ 4) (hk : ∀ S', eqx [16, 19] S S' → (∀ c, c < n → ownI S' c (owL (fun c s => S 15 c 0 s) c)) → kr none (zMI S' l δ))
    : zC E zm_X0_listRegions d mc ms [.inr (9, 0, 0)] (zMI S l δ) kr kx := by
  refine zC_of h0 (by decide +kernel) (Nat.le_of_ble_eq_true rfl) (Or.inl rfl) (zJ_cut h0 100 2 zo_X0_listRegions rfl fun K hK => ?_)
  conv => whnf
  repeat' (first
    | (refine ⟨0, 0, ⟨by omega, by omega⟩, ?_⟩)
    | (refine ⟨fun h => ?_, fun h => ?_⟩ <;> (try simp (disch := omega) only [I_0, I_add, I_sub, I_mul, I_neg, I_nat, I_lt, I_le, I_eq, Int.toNat_natCast, ne_eq, not_true, not_false_iff, zt0, zt1, zI_at, zpi_I, zpl_I, zpd_I, zcp_I, cpI_k, Int.reduceToNat, zu_s, zu_k, zu_i, zu_j, zu_n] at h) <;> (try (exfalso; omega)) <;> conv => whnf)
    | (refine ⟨by first | rfl | assumption | exact zin1 rfl | exact Nat.le_of_ble_eq_true rfl | exact ⟨rfl, Or.inl rfl⟩ | exact ⟨rfl, Or.inr (Or.inl rfl)⟩ | exact ⟨rfl, Or.inr (Or.inr rfl)⟩ | exact ⟨Nat.le_of_ble_eq_true rfl, Nat.le_of_ble_eq_true rfl⟩ | exact trivial | omega | (simp (disch := omega) only [I_0, I_add, I_sub, I_mul, I_neg, I_nat, I_lt, I_le, I_eq, Int.toNat_natCast, ne_eq, not_true, not_false_iff, zt0, zt1, zI_at, zpi_I, zpl_I, zpd_I, zcp_I, cpI_k, Int.reduceToNat, zu_s, zu_k, zu_i, zu_j, zu_n, I_in, zarr, zin6, zin8, zin11, zin13, zin15, zin19, zin21, zin22, zin23, zin24, zin25, zin26, zin27, zin28, zin29, zin30, zin29s, zin30s, zin33, zin5, Nat.le_refl, and_self, Prod.mk.injEq, Nat.reduceEqDiff, false_and, not_false_iff]; done) | (simp (disch := omega) only [I_0, I_add, I_sub, I_mul, I_neg, I_nat, I_lt, I_le, I_eq, Int.toNat_natCast, ne_eq, not_true, not_false_iff, zt0, zt1, zI_at, zpi_I, zpl_I, zpd_I, zcp_I, cpI_k, Int.reduceToNat, zu_s, zu_k, zu_i, zu_j, zu_n, I_in, zarr, zin6, zin8, zin11, zin13, zin15, zin19, zin21, zin22, zin23, zin24, zin25, zin26, zin27, zin28, zin29, zin30, zin29s, zin30s, zin33, zin5, Nat.le_refl, and_self, Prod.mk.injEq, Nat.reduceEqDiff, false_and, not_false_iff] <;> omega), ?_⟩; conv => whnf)
    | (refine zif70 (by assumption) ?_; conv => whnf)
    | (refine ⟨_, rfl, ?_⟩; conv => whnf))
  exact hK _ _ _ _ _ (zJ_to (by (repeat' (first | exact trivial | (refine And.intro ?_ ?_) | (refine zlk_i rfl ?_; first | (with_reducible rfl) | (simp (disch := omega) only [I_0, I_add, I_sub, I_mul, I_neg, I_nat, I_lt, I_le, I_eq, Int.toNat_natCast, ne_eq, not_true, not_false_iff, zt0, zt1, zI_at, zpi_I, zpl_I, zpd_I, zcp_I, cpI_k, Int.reduceToNat, zu_s, zu_k, zu_i, zu_j, zu_n]; done) | (simp (disch := omega) only [I_0, I_add, I_sub, I_mul, I_neg, I_nat, I_lt, I_le, I_eq, Int.toNat_natCast, ne_eq, not_true, not_false_iff, zt0, zt1, zI_at, zpi_I, zpl_I, zpd_I, zcp_I, cpI_k, Int.reduceToNat, zu_s, zu_k, zu_i, zu_j, zu_n]; first | omega | (congr 1; omega)) | (congr 1; omega)) | rfl | (simp (disch := omega) only [I_0, I_add, I_sub, I_mul, I_neg, I_nat, I_lt, I_le, I_eq, Int.toNat_natCast, ne_eq, not_true, not_false_iff, zt0, zt1, zI_at, zpi_I, zpl_I, zpd_I, zcp_I, cpI_k, Int.reduceToNat, zu_s, zu_k, zu_i, zu_j, zu_n]; done)))) rfl rfl (j_X0_listRegions h0 hd hn hn2 hf h4 hk n 0 (by omega) S eqx_rfl (fun c hc => by omega)))
end OW
