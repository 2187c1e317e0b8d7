/-! ===== the law's own start ===== -/
section HD
variable {E : zEn} {d mc ms : Nat} {kr : Option zV → zM → Prop} {kx : String → zM → Prop}
set_option maxRecDepth 100000 in
theorem cnt_EVS : (zevs EVS M00).2.2.2.2 = 176 := by decide +kernel
set_option maxRecDepth 100000 in
theorem law_init (h0 : zOk E) (hL : zLn E ≤ 2560) (hd : 30 ≤ d) (hkx : ∀ X M, ¬ kx X M) (hk : ∀ M, kr (some (.inl (.int (I 1)))) M) (h1 : 10000 ≤ mc) (h2 : 10000 ≤ ms) (a : Nat × Nat) (ha1 : a.1 ≤ 1000) (ha2 : a.2 ≤ 5000) : zJ E zm_L_law d mc ms kr kx 28 [(0, .inr (70, 0, 0)), (1, .inr (0, 0, 0)), (2, .inr (40, 0, 0)), (3, .inr (71, 0, 0)), (4, .inr (72, 0, 0)), (5, .inl (.int (I 0)))] [] (eAll M00) a := by
  rw [all_EVS]
  exact zJ_ag (ν := zMI S0 (fun _ _ _ _ => 0) (fun _ _ _ _ => 0)) cnt_EVS.symm ag_EVS (law_loop h0 hL hd hkx hk 512 0 a S0 _ _ (by omega) (by omega) (by omega) (by omega) TI_S0)
set_option maxRecDepth 100000 in
set_option maxHeartbeats 8000000 in
theorem law_head (h0 : zOk E) (hL : zLn E ≤ 2560) (hd : 30 ≤ d) (hkx : ∀ X M, ¬ kx X M) (hk : ∀ M, kr (some (.inl (.int (I 1)))) M) (h1 : 10000 ≤ mc) (h2 : 10000 ≤ ms) : zJ E zm_L_law d mc ms kr kx 0 [(0, .inr (70, 0, 0))] [] M00 (0, 0) := by
  refine zJ_cut h0 1000 28 zo_law_head rfl fun K hK => ?_
  have fin := law_init h0 hL hd hkx hk h1 h2
  conv => whnf
  repeat' (first | (refine ⟨by first | rfl | exact trivial | exact Nat.le_trans (Nat.le_of_ble_eq_true rfl) h1 | exact Nat.le_trans (Nat.le_of_ble_eq_true rfl) h2 | exact Nat.le_trans (Nat.le_of_ble_eq_true rfl) hd | exact zmem rfl rfl | decide | exact Nat.le_of_ble_eq_true rfl | fail, ?_⟩; conv => whnf) | fail)
  refine ⟨146, 2527, ⟨Nat.le_trans (Nat.le_of_ble_eq_true rfl) h1, Nat.le_trans (Nat.le_of_ble_eq_true rfl) h2⟩, c_Room h0 (by omega) (Nat.le_refl _) (Nat.le_refl _) ?_⟩
  refine ⟨rfl, ?_⟩
  conv => whnf
  repeat' (first | (refine ⟨by first | rfl | exact trivial | exact Nat.le_trans (Nat.le_of_ble_eq_true rfl) h1 | exact Nat.le_trans (Nat.le_of_ble_eq_true rfl) h2 | exact Nat.le_trans (Nat.le_of_ble_eq_true rfl) hd | exact zmem rfl rfl | decide | exact Nat.le_of_ble_eq_true rfl | fail, ?_⟩; conv => whnf) | fail)
  refine ⟨26, 1872, ⟨Nat.le_trans (Nat.le_of_ble_eq_true rfl) h1, Nat.le_trans (Nat.le_of_ble_eq_true rfl) h2⟩, c_Model h0 (Nat.le_refl _) (Nat.le_refl _) ?_⟩
  refine ⟨rfl, ?_⟩
  conv => whnf
  repeat' (first | (refine ⟨by first | rfl | exact trivial | exact Nat.le_trans (Nat.le_of_ble_eq_true rfl) h1 | exact Nat.le_trans (Nat.le_of_ble_eq_true rfl) h2 | exact Nat.le_trans (Nat.le_of_ble_eq_true rfl) hd | exact zmem rfl rfl | decide | exact Nat.le_of_ble_eq_true rfl | fail, ?_⟩; conv => whnf) | fail)
  exact hK _ _ _ _ _ (zJ_to (by (repeat' (first | exact trivial | (refine And.intro ?_ ?_) | (refine zlk_i rfl ?_; first | (with_reducible rfl) | (simp (disch := omega) only [I_0, I_add, I_sub, I_mul, I_neg, I_nat, I_lt, I_le, I_eq, Int.toNat_natCast, ne_eq, not_true, not_false_iff, zt0, zt1, zI_at, zpi_I, zpl_I, zpd_I, zcp_I, cpI_k, Int.reduceToNat, zu_s, zu_k, zu_i, zu_j, zu_n]; done) | (simp (disch := omega) only [I_0, I_add, I_sub, I_mul, I_neg, I_nat, I_lt, I_le, I_eq, Int.toNat_natCast, ne_eq, not_true, not_false_iff, zt0, zt1, zI_at, zpi_I, zpl_I, zpd_I, zcp_I, cpI_k, Int.reduceToNat, zu_s, zu_k, zu_i, zu_j, zu_n]; first | omega | (congr 1; omega)) | (congr 1; omega)) | rfl | (simp (disch := omega) only [I_0, I_add, I_sub, I_mul, I_neg, I_nat, I_lt, I_le, I_eq, Int.toNat_natCast, ne_eq, not_true, not_false_iff, zt0, zt1, zI_at, zpi_I, zpl_I, zpd_I, zcp_I, cpI_k, Int.reduceToNat, zu_s, zu_k, zu_i, zu_j, zu_n]; done) | (refine zlk_r rfl ?_; simp (disch := omega) only [I_0, I_add, I_sub, I_mul, I_neg, I_nat, I_lt, I_le, I_eq, Int.toNat_natCast, ne_eq, not_true, not_false_iff, zt0, zt1, zI_at, zpi_I, zpl_I, zpd_I, zcp_I, cpI_k, Int.reduceToNat, zu_s, zu_k, zu_i, zu_j, zu_n]; done)))) rfl rfl (fin _ (Nat.le_of_ble_eq_true rfl) (Nat.le_of_ble_eq_true rfl)))
end HD
