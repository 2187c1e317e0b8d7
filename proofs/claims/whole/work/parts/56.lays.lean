/-! ===== the model: laying out ===== -/
/-- the regions of one use: the component's own, then those of the inner ones -/
def usQ (L : List Nat) (v : Nat) : List (Nat × Nat) := match L with
  | [] => []
  | c :: M => (c, v) :: M.map (fun x => (x, 0))
theorem usP_Q (L : List Nat) (v : Nat) : usP L v L.length = usQ L v := by
  have h : ∀ n, n ≤ L.length → usP L v n = (usQ L v).take n := by
    intro n
    induction n with
    | zero => intro _; rfl
    | succ n ih =>
      intro hn
      simp only [usP, ih (by omega)]
      cases L with
      | nil => exact absurd hn (Nat.not_succ_le_zero n)
      | cons c M =>
        have hq : (usQ (c :: M) v).length = M.length + 1 := by simp [usQ]
        rw [List.take_succ_eq_append_getElem (by rw [hq]; rw [List.length_cons] at hn; omega)]
        congr 1
        cases n with
        | zero => simp [usQ]
        | succ n =>
          have : n < M.length := by rw [List.length_cons] at hn; omega
          simp [usQ, this]
  rw [h L.length (Nat.le_refl _), List.take_of_length_le]
  cases L with
  | nil => exact Nat.le_refl 0
  | cons c M => simp [usQ]
theorem owL_Q0 {f : Nat → Nat → Int} {c : Nat} : usQ (owL f c) 0 = (owL f c).map (fun x => (x, 0)) := rfl
/-- what is laid out -/
def ldI (G S : zS) (L : List (Nat × Nat)) : Prop := S 40 0 0 31 = L.length ∧ ∀ r, r < L.length → S 60 0 0 r = tkI G (L.getD r (0, 0)) 0 ∧ S 61 0 0 r = tkI G (L.getD r (0, 0)) 1 ∧ S 62 0 0 r = tkI G (L.getD r (0, 0)) 2
theorem ldI_put {G S : zS} {L : List (Nat × Nat)} {o : Nat × Nat} {n : Nat} (h : ldI G S L) (hn : L.length = n) : ldI G (zu (zu (zu (zu S 60 0 0 n (tkI G o 0)) 61 0 0 n (tkI G o 1)) 62 0 0 n (tkI G o 2)) 40 0 0 31 (n + 1)) (L ++ [o]) := by
  subst hn
  refine ⟨by rw [zu_s, List.length_append]; rfl, fun r hr => ?_⟩
  rw [List.length_append] at hr
  simp only [List.length_cons, List.length_nil] at hr
  by_cases c : r = L.length
  · subst c
    have e : (L ++ [o]).getD L.length (0, 0) = o := by simp
    rw [e]
    refine ⟨?_, ?_, ?_⟩
    · rw [zu_k (by decide), zu_k (by decide), zu_k (by decide), zu_s]
    · rw [zu_k (by decide), zu_k (by decide), zu_s]
    · rw [zu_k (by decide), zu_s]
  · have e : (L ++ [o]).getD r (0, 0) = L.getD r (0, 0) := by
      rw [List.getD_eq_getElem?_getD, List.getElem?_append_left (by omega), ← List.getD_eq_getElem?_getD]
    have := h.2 r (by omega)
    rw [e]
    refine ⟨?_, ?_, ?_⟩
    · rw [zu_k (by decide), zu_k (by decide), zu_k (by decide), zu_n c]; exact this.1
    · rw [zu_k (by decide), zu_k (by decide), zu_n c, zu_k (by decide)]; exact this.2.1
    · rw [zu_k (by decide), zu_n c, zu_k (by decide), zu_k (by decide)]; exact this.2.2
section M2
variable {E : zEn} {d mc ms : Nat} {kr : Option zV → zM → Prop} {kx : String → zM → Prop} {l : Nat → Nat → Nat → Nat → Int64} {δ : Nat → Nat → Nat → Nat → UInt64} {S : zS}
theorem m_Y_lays (h0 : zOk E) {G : zS} (hC : invC G) (hnt : G 1 0 0 0 ≤ 12) : ∀ c : Nat, (c : Int) < G 9 0 0 0 → ∀ (d mc ms v : Nat) (S : zS) (l : Nat → Nat → Nat → Nat → Int64) (δ : Nat → Nat → Nat → Nat → UInt64) (kr : Option zV → zM → Prop) (kx : String → zM → Prop) (L : List (Nat × Nat)), c ≤ d → v < 3 → RM G S → ldI G S L → L.length + (owL (fun c s => G 15 c 0 s) c).length ≤ 24 → (∀ S', eqq lyP S S' → ldI G S' (L ++ usQ (owL (fun c s => G 15 c 0 s) c) v) → kr none (zMI S' l δ)) → zC E zm_X7_lays d mc ms [.inr (40, 0, 0), .inl (.int (I c)), .inl (.int (I v))] (zMI S l δ) kr kx := by
  intro c
  induction c using Nat.strongRecOn with
  | _ c ihc =>
  intro hc d mc ms v S l δ kr kx L hd hv hR hL hlen hk
  have hnc := hC.1
  have hf := hC.2.2.2.1
  have hc8 : c < 8 := by omega
  have r4 := hR.2.2.2.1 c hc
  have hb : ∀ x, x < 5 → -1 ≤ G 11 c 0 x ∧ G 11 c 0 x ≤ 111 := fun x hx => by have := hC.2.1 c x hc8 hx; omega
  have hb0 := hb 0 (by omega)
  have hb3 := hb 3 (by omega)
  have hb4 := hb 4 (by omega)
  have hp0 := hC.2.2.1 c 0 hc (by omega)
  have hlen1 := hlen
  rw [owL_eq hf hc8, List.length_cons] at hlen1
  have e1 : ((3 : Int) * c + v).toNat = 3 * c + v := by omega
  have e2 : ((3 : Int) * c).toNat = 3 * c := by omega
  have hn : S 40 0 0 31 = L.length := hL.1
  -- the own front
  have hfr : ∃ w : Int, S 44 0 0 (3 * c + v) = w ∧ -1 ≤ w ∧ w ≤ 111 ∧ frI G c v = (if w = -1 then G 11 c 0 0 else w) := by
    have : v = 0 ∨ v = 1 ∨ v = 2 := by omega
    rcases this with rfl | rfl | rfl
    · refine ⟨_, rfl, ?_⟩
      rw [Nat.add_zero, r4.1]
      refine ⟨by omega, by omega, ?_⟩
      unfold frI
      rw [if_neg (by omega), if_neg (by omega)]
    · refine ⟨_, rfl, ?_⟩
      rw [r4.2.1]
      refine ⟨by omega, by omega, ?_⟩
      unfold frI
      rw [if_pos (by omega)]
    · refine ⟨_, rfl, ?_⟩
      rw [r4.2.2.1]
      refine ⟨by omega, by omega, ?_⟩
      unfold frI
      rw [if_pos (by omega)]
  obtain ⟨w, hw, hw1, hw2, hw3⟩ := hfr
  have loop : ∀ m y : Nat, y + m = 3 → ∀ S' : zS, eqq lyP S S' → ldI G S' (L ++ (c, v) :: (owS (fun c s => G 15 c 0 s) (owL (fun c s => G 15 c 0 s)) c y).map (fun x => (x, 0))) → zJ E zm_X7_lays d mc ms kr kx 81 [(0, .inr (40, 0, 0)), (1, .inl (.int (I c))), (4, .inl (.int (I (3 * (c : Int) + y))))] [] (zMI S' l δ) (0, 0) := by
    intro m
    induction m with
    | zero =>
      intro y hy S' hS' hl
      have : y = 3 := by omega
      subst this
      have hk := hk S' hS' (by rw [owL_eq hf hc8]; exact hl)
      refine zJ_at h0 100 zo_X7_lays rfl fun K hK => ?_
      conv => whnf
      repeat' (first
        | (refine ⟨0, 0, ⟨by omega, by omega⟩, ?_⟩)
        | (refine ⟨fun h => ?_, fun h => ?_⟩ <;> (try simp (disch := omega) only [I_0, I_add, I_sub, I_mul, I_neg, I_nat, I_lt, I_le, I_eq, Int.toNat_natCast, ne_eq, not_true, not_false_iff, zt0, zt1, zI_at, zpi_I, zpl_I, zpd_I, zcp_I, cpI_k, Int.reduceToNat, zu_s, zu_k, zu_i, zu_j, zu_n] at h) <;> (try (exfalso; omega)) <;> conv => whnf)
        | (refine ⟨by first | rfl | assumption | exact zin1 rfl | exact Nat.le_of_ble_eq_true rfl | exact ⟨rfl, Or.inl rfl⟩ | exact ⟨rfl, Or.inr (Or.inl rfl)⟩ | exact ⟨rfl, Or.inr (Or.inr rfl)⟩ | exact ⟨Nat.le_of_ble_eq_true rfl, Nat.le_of_ble_eq_true rfl⟩ | exact trivial | omega | (simp (disch := omega) only [I_0, I_add, I_sub, I_mul, I_neg, I_nat, I_lt, I_le, I_eq, Int.toNat_natCast, ne_eq, not_true, not_false_iff, zt0, zt1, zI_at, zpi_I, zpl_I, zpd_I, zcp_I, cpI_k, Int.reduceToNat, zu_s, zu_k, zu_i, zu_j, zu_n, I_in, zarr, zin6, zin8, zin11, zin13, zin15, zin19, zin21, zin22, zin23, zin24, zin25, zin26, zin27, zin28, zin29, zin30, zin29s, zin30s, zin33, zin5, Nat.le_refl, and_self, Prod.mk.injEq, Nat.reduceEqDiff, false_and, not_false_iff]; done) | (simp (disch := omega) only [I_0, I_add, I_sub, I_mul, I_neg, I_nat, I_lt, I_le, I_eq, Int.toNat_natCast, ne_eq, not_true, not_false_iff, zt0, zt1, zI_at, zpi_I, zpl_I, zpd_I, zcp_I, cpI_k, Int.reduceToNat, zu_s, zu_k, zu_i, zu_j, zu_n, I_in, zarr, zin6, zin8, zin11, zin13, zin15, zin19, zin21, zin22, zin23, zin24, zin25, zin26, zin27, zin28, zin29, zin30, zin29s, zin30s, zin33, zin5, Nat.le_refl, and_self, Prod.mk.injEq, Nat.reduceEqDiff, false_and, not_false_iff] <;> omega), ?_⟩; conv => whnf)
        | (refine zif70 (by assumption) ?_; conv => whnf)
        | (refine ⟨_, rfl, ?_⟩; conv => whnf))
      exact hk
    | succ m ih =>
      intro y hy S' hS' hl
      have hR' : RM G S' := RM_sc (eqq_mono hS' (fun k i j n h => by omega)) hR
      have e5 : ((3 : Int) * c + y).toNat = 3 * c + y := by omega
      have e6 : S' 47 0 0 (3 * c + y) = G 15 c 0 y := hR'.2.2.2.2.1 c y hc (by omega)
      have hw := hf c y hc8 (by omega)
      dsimp only at hw
      have hl2 := owS_len (fun c s => G 15 c 0 s) (owL (fun c s => G 15 c 0 s)) c (y + 1) 3 (by omega)
      refine zJ_at h0 100 zo_X7_lays rfl fun K hK => ?_
      conv => whnf
      repeat' (first
        | (refine ⟨0, 0, ⟨by omega, by omega⟩, ?_⟩)
        | (refine ⟨fun h => ?_, fun h => ?_⟩ <;> (try simp (disch := omega) only [I_0, I_add, I_sub, I_mul, I_neg, I_nat, I_lt, I_le, I_eq, Int.toNat_natCast, ne_eq, not_true, not_false_iff, zt0, zt1, zI_at, zpi_I, zpl_I, zpd_I, zcp_I, cpI_k, Int.reduceToNat, zu_s, zu_k, zu_i, zu_j, zu_n, e5, e6] at h) <;> (try (exfalso; omega)) <;> conv => whnf)
        | (refine ⟨by first | rfl | assumption | exact zin1 rfl | exact Nat.le_of_ble_eq_true rfl | exact ⟨rfl, Or.inl rfl⟩ | exact ⟨rfl, Or.inr (Or.inl rfl)⟩ | exact ⟨rfl, Or.inr (Or.inr rfl)⟩ | exact ⟨Nat.le_of_ble_eq_true rfl, Nat.le_of_ble_eq_true rfl⟩ | exact trivial | omega | (simp (disch := omega) only [I_0, I_add, I_sub, I_mul, I_neg, I_nat, I_lt, I_le, I_eq, Int.toNat_natCast, ne_eq, not_true, not_false_iff, zt0, zt1, zI_at, zpi_I, zpl_I, zpd_I, zcp_I, cpI_k, Int.reduceToNat, zu_s, zu_k, zu_i, zu_j, zu_n, I_in, zarr, zin6, zin8, zin11, zin13, zin15, zin19, zin21, zin22, zin23, zin24, zin25, zin26, zin27, zin28, zin29, zin30, zin29s, zin30s, zin33, zin5, Nat.le_refl, and_self, Prod.mk.injEq, Nat.reduceEqDiff, false_and, not_false_iff, e5, e6]; done) | (simp (disch := omega) only [I_0, I_add, I_sub, I_mul, I_neg, I_nat, I_lt, I_le, I_eq, Int.toNat_natCast, ne_eq, not_true, not_false_iff, zt0, zt1, zI_at, zpi_I, zpl_I, zpd_I, zcp_I, cpI_k, Int.reduceToNat, zu_s, zu_k, zu_i, zu_j, zu_n, I_in, zarr, zin6, zin8, zin11, zin13, zin15, zin19, zin21, zin22, zin23, zin24, zin25, zin26, zin27, zin28, zin29, zin30, zin29s, zin30s, zin33, zin5, Nat.le_refl, and_self, Prod.mk.injEq, Nat.reduceEqDiff, false_and, not_false_iff, e5, e6] <;> omega), ?_⟩; conv => whnf)
        | (refine zif70 (by assumption) ?_; conv => whnf)
        | (refine ⟨_, rfl, ?_⟩; conv => whnf))
      · refine hK _ _ _ _ _ (zJ_to (by (repeat' (first | exact trivial | (refine And.intro ?_ ?_) | (refine zlk_i rfl ?_; first | (with_reducible rfl) | (simp (disch := omega) only [I_0, I_add, I_sub, I_mul, I_neg, I_nat, I_lt, I_le, I_eq, Int.toNat_natCast, ne_eq, not_true, not_false_iff, zt0, zt1, zI_at, zpi_I, zpl_I, zpd_I, zcp_I, cpI_k, Int.reduceToNat, zu_s, zu_k, zu_i, zu_j, zu_n]; done) | (simp (disch := omega) only [I_0, I_add, I_sub, I_mul, I_neg, I_nat, I_lt, I_le, I_eq, Int.toNat_natCast, ne_eq, not_true, not_false_iff, zt0, zt1, zI_at, zpi_I, zpl_I, zpd_I, zcp_I, cpI_k, Int.reduceToNat, zu_s, zu_k, zu_i, zu_j, zu_n]; first | omega | (congr 1; omega)) | (congr 1; omega)) | rfl | (simp (disch := omega) only [I_0, I_add, I_sub, I_mul, I_neg, I_nat, I_lt, I_le, I_eq, Int.toNat_natCast, ne_eq, not_true, not_false_iff, zt0, zt1, zI_at, zpi_I, zpl_I, zpd_I, zcp_I, cpI_k, Int.reduceToNat, zu_s, zu_k, zu_i, zu_j, zu_n]; done) | (refine zlk_r rfl ?_; simp (disch := omega) only [I_0, I_add, I_sub, I_mul, I_neg, I_nat, I_lt, I_le, I_eq, Int.toNat_natCast, ne_eq, not_true, not_false_iff, zt0, zt1, zI_at, zpi_I, zpl_I, zpd_I, zcp_I, cpI_k, Int.reduceToNat, zu_s, zu_k, zu_i, zu_j, zu_n]; done)))) rfl rfl (ih (y + 1) (by omega) S' hS' ?_))
        simp only [owS]
        rw [if_pos (by omega), List.append_nil]
        exact hl
      · obtain ⟨e, he⟩ : ∃ e : Nat, G 15 c 0 y = e := ⟨(G 15 c 0 y).toNat, by omega⟩
        rw [he] at hw e6
        have hl3 : owS (fun c s => G 15 c 0 s) (owL (fun c s => G 15 c 0 s)) c (y + 1) = owS (fun c s => G 15 c 0 s) (owL (fun c s => G 15 c 0 s)) c y ++ owL (fun c s => G 15 c 0 s) e := by
          simp only [owS]
          rw [if_neg (by omega), he, Int.toNat_natCast]
        rw [hl3, List.length_append] at hl2
        refine zC_to (ihc e (by omega) (by omega) (d - 1) 0 0 0 S' l δ _ _ _ (by omega) (by omega) hR' hl (by simp only [List.length_append, List.length_cons, List.length_map]; omega) (fun S2 q1 q2 => ?_)) (by (repeat' (first | exact trivial | (refine And.intro ?_ ?_) | (refine zvi ?_; first | (with_reducible rfl) | (simp (disch := omega) only [I_0, I_add, I_sub, I_mul, I_neg, I_nat, I_lt, I_le, I_eq, Int.toNat_natCast, ne_eq, not_true, not_false_iff, zt0, zt1, zI_at, zpi_I, zpl_I, zpd_I, zcp_I, cpI_k, Int.reduceToNat, zu_s, zu_k, zu_i, zu_j, zu_n, e5, e6]; done) | (simp (disch := omega) only [I_0, I_add, I_sub, I_mul, I_neg, I_nat, I_lt, I_le, I_eq, Int.toNat_natCast, ne_eq, not_true, not_false_iff, zt0, zt1, zI_at, zpi_I, zpl_I, zpd_I, zcp_I, cpI_k, Int.reduceToNat, zu_s, zu_k, zu_i, zu_j, zu_n, e5, e6]; first | omega | (congr 1; omega)) | (congr 1; omega)) | rfl | (simp (disch := omega) only [I_0, I_add, I_sub, I_mul, I_neg, I_nat, I_lt, I_le, I_eq, Int.toNat_natCast, ne_eq, not_true, not_false_iff, zt0, zt1, zI_at, zpi_I, zpl_I, zpd_I, zcp_I, cpI_k, Int.reduceToNat, zu_s, zu_k, zu_i, zu_j, zu_n, e5, e6]; done) | (refine zlk_r rfl ?_; simp (disch := omega) only [I_0, I_add, I_sub, I_mul, I_neg, I_nat, I_lt, I_le, I_eq, Int.toNat_natCast, ne_eq, not_true, not_false_iff, zt0, zt1, zI_at, zpi_I, zpl_I, zpd_I, zcp_I, cpI_k, Int.reduceToNat, zu_s, zu_k, zu_i, zu_j, zu_n, e5, e6]; done)))) rfl
        conv => whnf
        repeat' (first
          | (refine ⟨0, 0, ⟨by omega, by omega⟩, ?_⟩)
          | (refine ⟨fun h => ?_, fun h => ?_⟩ <;> (try simp (disch := omega) only [I_0, I_add, I_sub, I_mul, I_neg, I_nat, I_lt, I_le, I_eq, Int.toNat_natCast, ne_eq, not_true, not_false_iff, zt0, zt1, zI_at, zpi_I, zpl_I, zpd_I, zcp_I, cpI_k, Int.reduceToNat, zu_s, zu_k, zu_i, zu_j, zu_n] at h) <;> (try (exfalso; omega)) <;> conv => whnf)
          | (refine ⟨by first | rfl | assumption | exact zin1 rfl | exact Nat.le_of_ble_eq_true rfl | exact ⟨rfl, Or.inl rfl⟩ | exact ⟨rfl, Or.inr (Or.inl rfl)⟩ | exact ⟨rfl, Or.inr (Or.inr rfl)⟩ | exact ⟨Nat.le_of_ble_eq_true rfl, Nat.le_of_ble_eq_true rfl⟩ | exact trivial | omega | (simp (disch := omega) only [I_0, I_add, I_sub, I_mul, I_neg, I_nat, I_lt, I_le, I_eq, Int.toNat_natCast, ne_eq, not_true, not_false_iff, zt0, zt1, zI_at, zpi_I, zpl_I, zpd_I, zcp_I, cpI_k, Int.reduceToNat, zu_s, zu_k, zu_i, zu_j, zu_n, I_in, zarr, zin6, zin8, zin11, zin13, zin15, zin19, zin21, zin22, zin23, zin24, zin25, zin26, zin27, zin28, zin29, zin30, zin29s, zin30s, zin33, zin5, Nat.le_refl, and_self, Prod.mk.injEq, Nat.reduceEqDiff, false_and, not_false_iff]; done) | (simp (disch := omega) only [I_0, I_add, I_sub, I_mul, I_neg, I_nat, I_lt, I_le, I_eq, Int.toNat_natCast, ne_eq, not_true, not_false_iff, zt0, zt1, zI_at, zpi_I, zpl_I, zpd_I, zcp_I, cpI_k, Int.reduceToNat, zu_s, zu_k, zu_i, zu_j, zu_n, I_in, zarr, zin6, zin8, zin11, zin13, zin15, zin19, zin21, zin22, zin23, zin24, zin25, zin26, zin27, zin28, zin29, zin30, zin29s, zin30s, zin33, zin5, Nat.le_refl, and_self, Prod.mk.injEq, Nat.reduceEqDiff, false_and, not_false_iff] <;> omega), ?_⟩; conv => whnf)
          | (refine zif70 (by assumption) ?_; conv => whnf)
          | (refine ⟨_, rfl, ?_⟩; conv => whnf))
        refine hK _ _ _ _ _ (zJ_to (by (repeat' (first | exact trivial | (refine And.intro ?_ ?_) | (refine zlk_i rfl ?_; first | (with_reducible rfl) | (simp (disch := omega) only [I_0, I_add, I_sub, I_mul, I_neg, I_nat, I_lt, I_le, I_eq, Int.toNat_natCast, ne_eq, not_true, not_false_iff, zt0, zt1, zI_at, zpi_I, zpl_I, zpd_I, zcp_I, cpI_k, Int.reduceToNat, zu_s, zu_k, zu_i, zu_j, zu_n]; done) | (simp (disch := omega) only [I_0, I_add, I_sub, I_mul, I_neg, I_nat, I_lt, I_le, I_eq, Int.toNat_natCast, ne_eq, not_true, not_false_iff, zt0, zt1, zI_at, zpi_I, zpl_I, zpd_I, zcp_I, cpI_k, Int.reduceToNat, zu_s, zu_k, zu_i, zu_j, zu_n]; first | omega | (congr 1; omega)) | (congr 1; omega)) | rfl | (simp (disch := omega) only [I_0, I_add, I_sub, I_mul, I_neg, I_nat, I_lt, I_le, I_eq, Int.toNat_natCast, ne_eq, not_true, not_false_iff, zt0, zt1, zI_at, zpi_I, zpl_I, zpd_I, zcp_I, cpI_k, Int.reduceToNat, zu_s, zu_k, zu_i, zu_j, zu_n]; done) | (refine zlk_r rfl ?_; simp (disch := omega) only [I_0, I_add, I_sub, I_mul, I_neg, I_nat, I_lt, I_le, I_eq, Int.toNat_natCast, ne_eq, not_true, not_false_iff, zt0, zt1, zI_at, zpi_I, zpl_I, zpd_I, zcp_I, cpI_k, Int.reduceToNat, zu_s, zu_k, zu_i, zu_j, zu_n]; done)))) rfl rfl (ih (y + 1) (by omega) S2 (eqq_trans hS' q1) ?_))
        rw [hl3, List.map_append]
        rw [List.append_assoc, List.cons_append] at q2
        exact q2
  refine zC_of h0 (by decide +kernel) (Nat.le_of_ble_eq_true rfl) (Or.inl rfl) (zJ_cut h0 100 81 zo_X7_lays rfl fun K hK => ?_)
  have put := ldI_put (o := (c, v)) hL rfl
  have t0 : tkI G (c, v) 0 = frI G c v := rfl
  have t1 : tkI G (c, v) 1 = S 45 0 0 c := by rw [r4.2.2.2.1]; rfl
  have t2 : tkI G (c, v) 2 = S 46 0 0 c := by rw [r4.2.2.2.2]; rfl
  rw [t0, t1, t2, hw3] at put
  have fin := loop 3 0 rfl _ (eqq_zu (eqq_zu (eqq_zu (eqq_zu eqq_rfl (by omega)) (by omega)) (by omega)) (by omega)) put
  conv => whnf
  repeat' (first
    | (refine ⟨0, 0, ⟨by omega, by omega⟩, ?_⟩)
    | (refine ⟨fun h => ?_, fun h => ?_⟩ <;> (try simp (disch := omega) only [I_0, I_add, I_sub, I_mul, I_neg, I_nat, I_lt, I_le, I_eq, Int.toNat_natCast, ne_eq, not_true, not_false_iff, zt0, zt1, zI_at, zpi_I, zpl_I, zpd_I, zcp_I, cpI_k, Int.reduceToNat, zu_s, zu_k, zu_i, zu_j, zu_n, e1, e2, hn, hw, r4.1] at h) <;> (try (exfalso; omega)) <;> conv => whnf)
    | (refine ⟨by first | rfl | assumption | exact zin1 rfl | exact Nat.le_of_ble_eq_true rfl | exact ⟨rfl, Or.inl rfl⟩ | exact ⟨rfl, Or.inr (Or.inl rfl)⟩ | exact ⟨rfl, Or.inr (Or.inr rfl)⟩ | exact ⟨Nat.le_of_ble_eq_true rfl, Nat.le_of_ble_eq_true rfl⟩ | exact trivial | omega | (simp (disch := omega) only [I_0, I_add, I_sub, I_mul, I_neg, I_nat, I_lt, I_le, I_eq, Int.toNat_natCast, ne_eq, not_true, not_false_iff, zt0, zt1, zI_at, zpi_I, zpl_I, zpd_I, zcp_I, cpI_k, Int.reduceToNat, zu_s, zu_k, zu_i, zu_j, zu_n, I_in, zarr, zin6, zin8, zin11, zin13, zin15, zin19, zin21, zin22, zin23, zin24, zin25, zin26, zin27, zin28, zin29, zin30, zin29s, zin30s, zin33, zin5, Nat.le_refl, and_self, Prod.mk.injEq, Nat.reduceEqDiff, false_and, not_false_iff, e1, e2, hn, hw, r4.1]; done) | (simp (disch := omega) only [I_0, I_add, I_sub, I_mul, I_neg, I_nat, I_lt, I_le, I_eq, Int.toNat_natCast, ne_eq, not_true, not_false_iff, zt0, zt1, zI_at, zpi_I, zpl_I, zpd_I, zcp_I, cpI_k, Int.reduceToNat, zu_s, zu_k, zu_i, zu_j, zu_n, I_in, zarr, zin6, zin8, zin11, zin13, zin15, zin19, zin21, zin22, zin23, zin24, zin25, zin26, zin27, zin28, zin29, zin30, zin29s, zin30s, zin33, zin5, Nat.le_refl, and_self, Prod.mk.injEq, Nat.reduceEqDiff, false_and, not_false_iff, e1, e2, hn, hw, r4.1] <;> omega), ?_⟩; conv => whnf)
    | (refine zif70 (by assumption) ?_; conv => whnf)
    | (refine ⟨_, rfl, ?_⟩; conv => whnf))
  · rw [if_neg (by omega)] at fin
    exact hK _ _ _ _ _ (zJ_to (by (repeat' (first | exact trivial | (refine And.intro ?_ ?_) | (refine zlk_i rfl ?_; first | (with_reducible rfl) | (simp (disch := omega) only [I_0, I_add, I_sub, I_mul, I_neg, I_nat, I_lt, I_le, I_eq, Int.toNat_natCast, ne_eq, not_true, not_false_iff, zt0, zt1, zI_at, zpi_I, zpl_I, zpd_I, zcp_I, cpI_k, Int.reduceToNat, zu_s, zu_k, zu_i, zu_j, zu_n]; done) | (simp (disch := omega) only [I_0, I_add, I_sub, I_mul, I_neg, I_nat, I_lt, I_le, I_eq, Int.toNat_natCast, ne_eq, not_true, not_false_iff, zt0, zt1, zI_at, zpi_I, zpl_I, zpd_I, zcp_I, cpI_k, Int.reduceToNat, zu_s, zu_k, zu_i, zu_j, zu_n]; first | omega | (congr 1; omega)) | (congr 1; omega)) | rfl | (simp (disch := omega) only [I_0, I_add, I_sub, I_mul, I_neg, I_nat, I_lt, I_le, I_eq, Int.toNat_natCast, ne_eq, not_true, not_false_iff, zt0, zt1, zI_at, zpi_I, zpl_I, zpd_I, zcp_I, cpI_k, Int.reduceToNat, zu_s, zu_k, zu_i, zu_j, zu_n]; done) | (refine zlk_r rfl ?_; simp (disch := omega) only [I_0, I_add, I_sub, I_mul, I_neg, I_nat, I_lt, I_le, I_eq, Int.toNat_natCast, ne_eq, not_true, not_false_iff, zt0, zt1, zI_at, zpi_I, zpl_I, zpd_I, zcp_I, cpI_k, Int.reduceToNat, zu_s, zu_k, zu_i, zu_j, zu_n]; done)))) rfl (by (first | rfl | (simp (disch := omega) only [I_0, I_add, I_sub, I_mul, I_neg, I_nat, I_lt, I_le, I_eq, Int.toNat_natCast, ne_eq, not_true, not_false_iff, zt0, zt1, zI_at, zpi_I, zpl_I, zpd_I, zcp_I, cpI_k, Int.reduceToNat, zu_s, zu_k, zu_i, zu_j, zu_n, e1, e2, hn, hw, r4.1]; done) | (simp (disch := omega) only [I_0, I_add, I_sub, I_mul, I_neg, I_nat, I_lt, I_le, I_eq, Int.toNat_natCast, ne_eq, not_true, not_false_iff, zt0, zt1, zI_at, zpi_I, zpl_I, zpd_I, zcp_I, cpI_k, Int.reduceToNat, zu_s, zu_k, zu_i, zu_j, zu_n, e1, e2, hn, hw, r4.1]; rfl))) fin)
  · rw [if_pos (by omega)] at fin
    exact hK _ _ _ _ _ (zJ_to (by (repeat' (first | exact trivial | (refine And.intro ?_ ?_) | (refine zlk_i rfl ?_; first | (with_reducible rfl) | (simp (disch := omega) only [I_0, I_add, I_sub, I_mul, I_neg, I_nat, I_lt, I_le, I_eq, Int.toNat_natCast, ne_eq, not_true, not_false_iff, zt0, zt1, zI_at, zpi_I, zpl_I, zpd_I, zcp_I, cpI_k, Int.reduceToNat, zu_s, zu_k, zu_i, zu_j, zu_n]; done) | (simp (disch := omega) only [I_0, I_add, I_sub, I_mul, I_neg, I_nat, I_lt, I_le, I_eq, Int.toNat_natCast, ne_eq, not_true, not_false_iff, zt0, zt1, zI_at, zpi_I, zpl_I, zpd_I, zcp_I, cpI_k, Int.reduceToNat, zu_s, zu_k, zu_i, zu_j, zu_n]; first | omega | (congr 1; omega)) | (congr 1; omega)) | rfl | (simp (disch := omega) only [I_0, I_add, I_sub, I_mul, I_neg, I_nat, I_lt, I_le, I_eq, Int.toNat_natCast, ne_eq, not_true, not_false_iff, zt0, zt1, zI_at, zpi_I, zpl_I, zpd_I, zcp_I, cpI_k, Int.reduceToNat, zu_s, zu_k, zu_i, zu_j, zu_n]; done) | (refine zlk_r rfl ?_; simp (disch := omega) only [I_0, I_add, I_sub, I_mul, I_neg, I_nat, I_lt, I_le, I_eq, Int.toNat_natCast, ne_eq, not_true, not_false_iff, zt0, zt1, zI_at, zpi_I, zpl_I, zpd_I, zcp_I, cpI_k, Int.reduceToNat, zu_s, zu_k, zu_i, zu_j, zu_n]; done)))) rfl (by (first | rfl | (simp (disch := omega) only [I_0, I_add, I_sub, I_mul, I_neg, I_nat, I_lt, I_le, I_eq, Int.toNat_natCast, ne_eq, not_true, not_false_iff, zt0, zt1, zI_at, zpi_I, zpl_I, zpd_I, zcp_I, cpI_k, Int.reduceToNat, zu_s, zu_k, zu_i, zu_j, zu_n, e1, e2, hn, hw, r4.1]; done) | (simp (disch := omega) only [I_0, I_add, I_sub, I_mul, I_neg, I_nat, I_lt, I_le, I_eq, Int.toNat_natCast, ne_eq, not_true, not_false_iff, zt0, zt1, zI_at, zpi_I, zpl_I, zpd_I, zcp_I, cpI_k, Int.reduceToNat, zu_s, zu_k, zu_i, zu_j, zu_n, e1, e2, hn, hw, r4.1]; rfl))) fin)
/-- what is laid out of a page -/
def ldF (G S : zS) (p : Nat) : Prop := ∀ r : Nat, (r : Int) < G 21 p 0 5 → S 60 0 0 r = G 25 p 0 (3 * r) ∧ S 61 0 0 r = G 25 p 0 (3 * r + 1) ∧ S 62 0 0 r = G 25 p 0 (3 * r + 2)
theorem m_Y_laysOut (h0 : zOk E) {G : zS} (hG : inv1 G) (hR : RM G S) {p : Nat} (hp : p < 4) (hd : 9 ≤ d) (hk : ∀ S', eqq lyP S S' → ldF G S' p → kr (some (.inl (.int (I (G 21 p 0 5))))) (zMI S' l δ))
    : zC E zm_X7_laysOut d mc ms [.inr (40, 0, 0), .inl (.int (I p))] (zMI S l δ) kr kx := by
  have hnt := hG.1.1
  have hC := hG.2.2.1
  have hnc := hC.1
  have h4 := hG.2.2.2.1 p hp
  have hw : wfP G p := wfP_of hG.1 hC h4.1 h4.2.1
  have hlen := pgP_len hw
  obtain ⟨nu, hnu⟩ : ∃ nu : Nat, G 21 p 0 0 = nu := ⟨(G 21 p 0 0).toNat, by have := h4.1; omega⟩
  have hrg := h4.2.2.2.2.2.1
  rw [hnu] at hlen hrg
  rw [Int.toNat_natCast] at hrg
  have e48 : S 48 0 0 p = nu := by rw [(hR.2.2.2.2.2.1 p hp).1, hnu]
  have hnu6 := h4.1
  have e1 : ((6 : Int) * p).toNat = 6 * p := by omega
  have loop : ∀ m u : Nat, u + m = nu → ∀ S' : zS, eqq lyP S S' → ldI G S' (pgP G p u) → zJ E zm_X7_laysOut d mc ms kr kx 10 [(0, .inr (40, 0, 0)), (1, .inl (.int (I p))), (2, .inl (.int (I (6 * (p : Int) + u))))] [] (zMI S' l δ) (0, 0) := by
    intro m
    induction m with
    | zero =>
      intro u hu S' hS' hl
      have : u = nu := by omega
      subst this
      have e : S' 48 0 0 p = u := (hS' _ _ _ _ (by omega)).trans e48
      have e31 : S' 40 0 0 31 = G 21 p 0 5 := by rw [hl.1, hrg.1]
      have hk := hk S' hS' (fun r hr => by
        have h2 := hl.2 r (by have := hrg.1; omega)
        have g0 := hrg.2 r 0 (by have := hrg.1; omega) (by omega)
        have g1 := hrg.2 r 1 (by have := hrg.1; omega) (by omega)
        have g2 := hrg.2 r 2 (by have := hrg.1; omega) (by omega)
        rw [Nat.add_zero] at g0
        rw [g0, g1, g2]
        exact h2)
      refine zJ_at h0 100 zo_X7_laysOut rfl fun K hK => ?_
      conv => whnf
      repeat' (first
        | (refine ⟨0, 0, ⟨by omega, by omega⟩, ?_⟩)
        | (refine ⟨fun h => ?_, fun h => ?_⟩ <;> (try simp (disch := omega) only [I_0, I_add, I_sub, I_mul, I_neg, I_nat, I_lt, I_le, I_eq, Int.toNat_natCast, ne_eq, not_true, not_false_iff, zt0, zt1, zI_at, zpi_I, zpl_I, zpd_I, zcp_I, cpI_k, Int.reduceToNat, zu_s, zu_k, zu_i, zu_j, zu_n, e] at h) <;> (try (exfalso; omega)) <;> conv => whnf)
        | (refine ⟨by first | rfl | assumption | exact zin1 rfl | exact Nat.le_of_ble_eq_true rfl | exact ⟨rfl, Or.inl rfl⟩ | exact ⟨rfl, Or.inr (Or.inl rfl)⟩ | exact ⟨rfl, Or.inr (Or.inr rfl)⟩ | exact ⟨Nat.le_of_ble_eq_true rfl, Nat.le_of_ble_eq_true rfl⟩ | exact trivial | omega | (simp (disch := omega) only [I_0, I_add, I_sub, I_mul, I_neg, I_nat, I_lt, I_le, I_eq, Int.toNat_natCast, ne_eq, not_true, not_false_iff, zt0, zt1, zI_at, zpi_I, zpl_I, zpd_I, zcp_I, cpI_k, Int.reduceToNat, zu_s, zu_k, zu_i, zu_j, zu_n, I_in, zarr, zin6, zin8, zin11, zin13, zin15, zin19, zin21, zin22, zin23, zin24, zin25, zin26, zin27, zin28, zin29, zin30, zin29s, zin30s, zin33, zin5, Nat.le_refl, and_self, Prod.mk.injEq, Nat.reduceEqDiff, false_and, not_false_iff, e]; done) | (simp (disch := omega) only [I_0, I_add, I_sub, I_mul, I_neg, I_nat, I_lt, I_le, I_eq, Int.toNat_natCast, ne_eq, not_true, not_false_iff, zt0, zt1, zI_at, zpi_I, zpl_I, zpd_I, zcp_I, cpI_k, Int.reduceToNat, zu_s, zu_k, zu_i, zu_j, zu_n, I_in, zarr, zin6, zin8, zin11, zin13, zin15, zin19, zin21, zin22, zin23, zin24, zin25, zin26, zin27, zin28, zin29, zin30, zin29s, zin30s, zin33, zin5, Nat.le_refl, and_self, Prod.mk.injEq, Nat.reduceEqDiff, false_and, not_false_iff, e] <;> omega), ?_⟩; conv => whnf)
        | (refine zif70 (by assumption) ?_; conv => whnf)
        | (refine ⟨_, rfl, ?_⟩; conv => whnf))
      simp (disch := omega) only [I_0, I_add, I_sub, I_mul, I_neg, I_nat, I_lt, I_le, I_eq, Int.toNat_natCast, ne_eq, not_true, not_false_iff, zt0, zt1, zI_at, zpi_I, zpl_I, zpd_I, zcp_I, cpI_k, Int.reduceToNat, zu_s, zu_k, zu_i, zu_j, zu_n, e31]
      exact hk
    | succ m ih =>
      intro u hu S' hS' hl
      have hR' : RM G S' := RM_sc (eqq_mono hS' (fun k i j n h => by omega)) hR
      have e : S' 48 0 0 p = nu := (hS' _ _ _ _ (by omega)).trans e48
      have e5 : ((6 : Int) * p + u).toNat = 6 * p + u := by omega
      have hu1 := h4.2.1 u (by omega)
      obtain ⟨c, hc⟩ : ∃ c : Nat, G 22 p 0 u = c := ⟨(G 22 p 0 u).toNat, by omega⟩
      obtain ⟨v, hv⟩ : ∃ v : Nat, G 23 p 0 u = v := ⟨(G 23 p 0 u).toNat, by omega⟩
      have r7 := hR'.2.2.2.2.2.2.1 p u hp (by omega)
      rw [hc, hv] at r7
      have hl4 := hlen (u + 1) (by omega)
      have hpg : pgP G p (u + 1) = pgP G p u ++ usQ (owL (fun c s => G 15 c 0 s) c) v := by
        simp only [pgP, hc, hv, Int.toNat_natCast, usP_Q]
      have hql : (usQ (owL (fun c s => G 15 c 0 s) c) v).length = (owL (fun c s => G 15 c 0 s) c).length := by
        rw [← usP_Q, usP_len]
      rw [hpg, List.length_append, hql] at hl4
      refine zJ_at h0 100 zo_X7_laysOut rfl fun K hK => ?_
      conv => whnf
      repeat' (first
        | (refine ⟨0, 0, ⟨by omega, by omega⟩, ?_⟩)
        | (refine ⟨fun h => ?_, fun h => ?_⟩ <;> (try simp (disch := omega) only [I_0, I_add, I_sub, I_mul, I_neg, I_nat, I_lt, I_le, I_eq, Int.toNat_natCast, ne_eq, not_true, not_false_iff, zt0, zt1, zI_at, zpi_I, zpl_I, zpd_I, zcp_I, cpI_k, Int.reduceToNat, zu_s, zu_k, zu_i, zu_j, zu_n, e, e5, r7.1, r7.2] at h) <;> (try (exfalso; omega)) <;> conv => whnf)
        | (refine ⟨by first | rfl | assumption | exact zin1 rfl | exact Nat.le_of_ble_eq_true rfl | exact ⟨rfl, Or.inl rfl⟩ | exact ⟨rfl, Or.inr (Or.inl rfl)⟩ | exact ⟨rfl, Or.inr (Or.inr rfl)⟩ | exact ⟨Nat.le_of_ble_eq_true rfl, Nat.le_of_ble_eq_true rfl⟩ | exact trivial | omega | (simp (disch := omega) only [I_0, I_add, I_sub, I_mul, I_neg, I_nat, I_lt, I_le, I_eq, Int.toNat_natCast, ne_eq, not_true, not_false_iff, zt0, zt1, zI_at, zpi_I, zpl_I, zpd_I, zcp_I, cpI_k, Int.reduceToNat, zu_s, zu_k, zu_i, zu_j, zu_n, I_in, zarr, zin6, zin8, zin11, zin13, zin15, zin19, zin21, zin22, zin23, zin24, zin25, zin26, zin27, zin28, zin29, zin30, zin29s, zin30s, zin33, zin5, Nat.le_refl, and_self, Prod.mk.injEq, Nat.reduceEqDiff, false_and, not_false_iff, e, e5, r7.1, r7.2]; done) | (simp (disch := omega) only [I_0, I_add, I_sub, I_mul, I_neg, I_nat, I_lt, I_le, I_eq, Int.toNat_natCast, ne_eq, not_true, not_false_iff, zt0, zt1, zI_at, zpi_I, zpl_I, zpd_I, zcp_I, cpI_k, Int.reduceToNat, zu_s, zu_k, zu_i, zu_j, zu_n, I_in, zarr, zin6, zin8, zin11, zin13, zin15, zin19, zin21, zin22, zin23, zin24, zin25, zin26, zin27, zin28, zin29, zin30, zin29s, zin30s, zin33, zin5, Nat.le_refl, and_self, Prod.mk.injEq, Nat.reduceEqDiff, false_and, not_false_iff, e, e5, r7.1, r7.2] <;> omega), ?_⟩; conv => whnf)
        | (refine zif70 (by assumption) ?_; conv => whnf)
        | (refine ⟨_, rfl, ?_⟩; conv => whnf))
      refine zC_to (m_Y_lays h0 hC hnt.2 c (by omega) (d - 1) 0 0 v S' l δ _ _ _ (by omega) (by omega) hR' hl (by omega) (fun S2 q1 q2 => ?_)) (by (repeat' (first | exact trivial | (refine And.intro ?_ ?_) | (refine zvi ?_; first | (with_reducible rfl) | (simp (disch := omega) only [I_0, I_add, I_sub, I_mul, I_neg, I_nat, I_lt, I_le, I_eq, Int.toNat_natCast, ne_eq, not_true, not_false_iff, zt0, zt1, zI_at, zpi_I, zpl_I, zpd_I, zcp_I, cpI_k, Int.reduceToNat, zu_s, zu_k, zu_i, zu_j, zu_n, e5, r7.1, r7.2]; done) | (simp (disch := omega) only [I_0, I_add, I_sub, I_mul, I_neg, I_nat, I_lt, I_le, I_eq, Int.toNat_natCast, ne_eq, not_true, not_false_iff, zt0, zt1, zI_at, zpi_I, zpl_I, zpd_I, zcp_I, cpI_k, Int.reduceToNat, zu_s, zu_k, zu_i, zu_j, zu_n, e5, r7.1, r7.2]; first | omega | (congr 1; omega)) | (congr 1; omega)) | rfl | (simp (disch := omega) only [I_0, I_add, I_sub, I_mul, I_neg, I_nat, I_lt, I_le, I_eq, Int.toNat_natCast, ne_eq, not_true, not_false_iff, zt0, zt1, zI_at, zpi_I, zpl_I, zpd_I, zcp_I, cpI_k, Int.reduceToNat, zu_s, zu_k, zu_i, zu_j, zu_n, e5, r7.1, r7.2]; done) | (refine zlk_r rfl ?_; simp (disch := omega) only [I_0, I_add, I_sub, I_mul, I_neg, I_nat, I_lt, I_le, I_eq, Int.toNat_natCast, ne_eq, not_true, not_false_iff, zt0, zt1, zI_at, zpi_I, zpl_I, zpd_I, zcp_I, cpI_k, Int.reduceToNat, zu_s, zu_k, zu_i, zu_j, zu_n, e5, r7.1, r7.2]; done)))) rfl
      conv => whnf
      repeat' (first
        | (refine ⟨0, 0, ⟨by omega, by omega⟩, ?_⟩)
        | (refine ⟨fun h => ?_, fun h => ?_⟩ <;> (try simp (disch := omega) only [I_0, I_add, I_sub, I_mul, I_neg, I_nat, I_lt, I_le, I_eq, Int.toNat_natCast, ne_eq, not_true, not_false_iff, zt0, zt1, zI_at, zpi_I, zpl_I, zpd_I, zcp_I, cpI_k, Int.reduceToNat, zu_s, zu_k, zu_i, zu_j, zu_n] at h) <;> (try (exfalso; omega)) <;> conv => whnf)
        | (refine ⟨by first | rfl | assumption | exact zin1 rfl | exact Nat.le_of_ble_eq_true rfl | exact ⟨rfl, Or.inl rfl⟩ | exact ⟨rfl, Or.inr (Or.inl rfl)⟩ | exact ⟨rfl, Or.inr (Or.inr rfl)⟩ | exact ⟨Nat.le_of_ble_eq_true rfl, Nat.le_of_ble_eq_true rfl⟩ | exact trivial | omega | (simp (disch := omega) only [I_0, I_add, I_sub, I_mul, I_neg, I_nat, I_lt, I_le, I_eq, Int.toNat_natCast, ne_eq, not_true, not_false_iff, zt0, zt1, zI_at, zpi_I, zpl_I, zpd_I, zcp_I, cpI_k, Int.reduceToNat, zu_s, zu_k, zu_i, zu_j, zu_n, I_in, zarr, zin6, zin8, zin11, zin13, zin15, zin19, zin21, zin22, zin23, zin24, zin25, zin26, zin27, zin28, zin29, zin30, zin29s, zin30s, zin33, zin5, Nat.le_refl, and_self, Prod.mk.injEq, Nat.reduceEqDiff, false_and, not_false_iff]; done) | (simp (disch := omega) only [I_0, I_add, I_sub, I_mul, I_neg, I_nat, I_lt, I_le, I_eq, Int.toNat_natCast, ne_eq, not_true, not_false_iff, zt0, zt1, zI_at, zpi_I, zpl_I, zpd_I, zcp_I, cpI_k, Int.reduceToNat, zu_s, zu_k, zu_i, zu_j, zu_n, I_in, zarr, zin6, zin8, zin11, zin13, zin15, zin19, zin21, zin22, zin23, zin24, zin25, zin26, zin27, zin28, zin29, zin30, zin29s, zin30s, zin33, zin5, Nat.le_refl, and_self, Prod.mk.injEq, Nat.reduceEqDiff, false_and, not_false_iff] <;> omega), ?_⟩; conv => whnf)
        | (refine zif70 (by assumption) ?_; conv => whnf)
        | (refine ⟨_, rfl, ?_⟩; conv => whnf))
      exact hK _ _ _ _ _ (zJ_to (by (repeat' (first | exact trivial | (refine And.intro ?_ ?_) | (refine zlk_i rfl ?_; first | (with_reducible rfl) | (simp (disch := omega) only [I_0, I_add, I_sub, I_mul, I_neg, I_nat, I_lt, I_le, I_eq, Int.toNat_natCast, ne_eq, not_true, not_false_iff, zt0, zt1, zI_at, zpi_I, zpl_I, zpd_I, zcp_I, cpI_k, Int.reduceToNat, zu_s, zu_k, zu_i, zu_j, zu_n]; done) | (simp (disch := omega) only [I_0, I_add, I_sub, I_mul, I_neg, I_nat, I_lt, I_le, I_eq, Int.toNat_natCast, ne_eq, not_true, not_false_iff, zt0, zt1, zI_at, zpi_I, zpl_I, zpd_I, zcp_I, cpI_k, Int.reduceToNat, zu_s, zu_k, zu_i, zu_j, zu_n]; first | omega | (congr 1; omega)) | (congr 1; omega)) | rfl | (simp (disch := omega) only [I_0, I_add, I_sub, I_mul, I_neg, I_nat, I_lt, I_le, I_eq, Int.toNat_natCast, ne_eq, not_true, not_false_iff, zt0, zt1, zI_at, zpi_I, zpl_I, zpd_I, zcp_I, cpI_k, Int.reduceToNat, zu_s, zu_k, zu_i, zu_j, zu_n]; done) | (refine zlk_r rfl ?_; simp (disch := omega) only [I_0, I_add, I_sub, I_mul, I_neg, I_nat, I_lt, I_le, I_eq, Int.toNat_natCast, ne_eq, not_true, not_false_iff, zt0, zt1, zI_at, zpi_I, zpl_I, zpd_I, zcp_I, cpI_k, Int.reduceToNat, zu_s, zu_k, zu_i, zu_j, zu_n]; done)))) rfl rfl (ih (u + 1) (by omega) S2 (eqq_trans hS' q1) (by rw [hpg]; exact q2)))
  refine zC_of h0 (by decide +kernel) (Nat.le_of_ble_eq_true rfl) (Or.inl rfl) (zJ_cut h0 100 10 zo_X7_laysOut rfl fun K hK => ?_)
  conv => whnf
  repeat' (first
    | (refine ⟨0, 0, ⟨by omega, by omega⟩, ?_⟩)
    | (refine ⟨fun h => ?_, fun h => ?_⟩ <;> (try simp (disch := omega) only [I_0, I_add, I_sub, I_mul, I_neg, I_nat, I_lt, I_le, I_eq, Int.toNat_natCast, ne_eq, not_true, not_false_iff, zt0, zt1, zI_at, zpi_I, zpl_I, zpd_I, zcp_I, cpI_k, Int.reduceToNat, zu_s, zu_k, zu_i, zu_j, zu_n] at h) <;> (try (exfalso; omega)) <;> conv => whnf)
    | (refine ⟨by first | rfl | assumption | exact zin1 rfl | exact Nat.le_of_ble_eq_true rfl | exact ⟨rfl, Or.inl rfl⟩ | exact ⟨rfl, Or.inr (Or.inl rfl)⟩ | exact ⟨rfl, Or.inr (Or.inr rfl)⟩ | exact ⟨Nat.le_of_ble_eq_true rfl, Nat.le_of_ble_eq_true rfl⟩ | exact trivial | omega | (simp (disch := omega) only [I_0, I_add, I_sub, I_mul, I_neg, I_nat, I_lt, I_le, I_eq, Int.toNat_natCast, ne_eq, not_true, not_false_iff, zt0, zt1, zI_at, zpi_I, zpl_I, zpd_I, zcp_I, cpI_k, Int.reduceToNat, zu_s, zu_k, zu_i, zu_j, zu_n, I_in, zarr, zin6, zin8, zin11, zin13, zin15, zin19, zin21, zin22, zin23, zin24, zin25, zin26, zin27, zin28, zin29, zin30, zin29s, zin30s, zin33, zin5, Nat.le_refl, and_self, Prod.mk.injEq, Nat.reduceEqDiff, false_and, not_false_iff]; done) | (simp (disch := omega) only [I_0, I_add, I_sub, I_mul, I_neg, I_nat, I_lt, I_le, I_eq, Int.toNat_natCast, ne_eq, not_true, not_false_iff, zt0, zt1, zI_at, zpi_I, zpl_I, zpd_I, zcp_I, cpI_k, Int.reduceToNat, zu_s, zu_k, zu_i, zu_j, zu_n, I_in, zarr, zin6, zin8, zin11, zin13, zin15, zin19, zin21, zin22, zin23, zin24, zin25, zin26, zin27, zin28, zin29, zin30, zin29s, zin30s, zin33, zin5, Nat.le_refl, and_self, Prod.mk.injEq, Nat.reduceEqDiff, false_and, not_false_iff] <;> omega), ?_⟩; conv => whnf)
    | (refine zif70 (by assumption) ?_; conv => whnf)
    | (refine ⟨_, rfl, ?_⟩; conv => whnf))
  exact hK _ _ _ _ _ (zJ_to (by (repeat' (first | exact trivial | (refine And.intro ?_ ?_) | (refine zlk_i rfl ?_; first | (with_reducible rfl) | (simp (disch := omega) only [I_0, I_add, I_sub, I_mul, I_neg, I_nat, I_lt, I_le, I_eq, Int.toNat_natCast, ne_eq, not_true, not_false_iff, zt0, zt1, zI_at, zpi_I, zpl_I, zpd_I, zcp_I, cpI_k, Int.reduceToNat, zu_s, zu_k, zu_i, zu_j, zu_n]; done) | (simp (disch := omega) only [I_0, I_add, I_sub, I_mul, I_neg, I_nat, I_lt, I_le, I_eq, Int.toNat_natCast, ne_eq, not_true, not_false_iff, zt0, zt1, zI_at, zpi_I, zpl_I, zpd_I, zcp_I, cpI_k, Int.reduceToNat, zu_s, zu_k, zu_i, zu_j, zu_n]; first | omega | (congr 1; omega)) | (congr 1; omega)) | rfl | (simp (disch := omega) only [I_0, I_add, I_sub, I_mul, I_neg, I_nat, I_lt, I_le, I_eq, Int.toNat_natCast, ne_eq, not_true, not_false_iff, zt0, zt1, zI_at, zpi_I, zpl_I, zpd_I, zcp_I, cpI_k, Int.reduceToNat, zu_s, zu_k, zu_i, zu_j, zu_n]; done) | (refine zlk_r rfl ?_; simp (disch := omega) only [I_0, I_add, I_sub, I_mul, I_neg, I_nat, I_lt, I_le, I_eq, Int.toNat_natCast, ne_eq, not_true, not_false_iff, zt0, zt1, zI_at, zpi_I, zpl_I, zpd_I, zcp_I, cpI_k, Int.reduceToNat, zu_s, zu_k, zu_i, zu_j, zu_n]; done)))) rfl (by (first | rfl | (simp (disch := omega) only [I_0, I_add, I_sub, I_mul, I_neg, I_nat, I_lt, I_le, I_eq, Int.toNat_natCast, ne_eq, not_true, not_false_iff, zt0, zt1, zI_at, zpi_I, zpl_I, zpd_I, zcp_I, cpI_k, Int.reduceToNat, zu_s, zu_k, zu_i, zu_j, zu_n]; done) | (simp (disch := omega) only [I_0, I_add, I_sub, I_mul, I_neg, I_nat, I_lt, I_le, I_eq, Int.toNat_natCast, ne_eq, not_true, not_false_iff, zt0, zt1, zI_at, zpi_I, zpl_I, zpd_I, zcp_I, cpI_k, Int.reduceToNat, zu_s, zu_k, zu_i, zu_j, zu_n]; rfl))) (loop nu 0 (by omega) (zu S 40 0 0 31 0) (eqq_zu eqq_rfl (by omega)) ⟨zu_s, fun r hr => absurd hr (Nat.not_lt_zero _)⟩))
end M2
