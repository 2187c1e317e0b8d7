/-! ===== constructors of the components and the pages ===== -/
section CT
variable {E : zEn} {d mc ms : Nat} {kr : Option zV → zM → Prop} {kx : String → zM → Prop} {σ : Nat → Nat → Nat → Nat → Int32} {l : Nat → Nat → Nat → Nat → Int64} {δ : Nat → Nat → Nat → Nat → UInt64} {ρ : Nat → Nat → Nat → Nat → Option zL}
abbrev eCmp (M : zM) : zM := (eFill (15, 7, 0) 3 (eFill (11, 7, 0) 5 (eFill (15, 6, 0) 3 (eFill (11, 6, 0) 5 (eFill (15, 5, 0) 3 (eFill (11, 5, 0) 5 (eFill (15, 4, 0) 3 (eFill (11, 4, 0) 5 (eFill (15, 3, 0) 3 (eFill (11, 3, 0) 5 (eFill (15, 2, 0) 3 (eFill (11, 2, 0) 5 (eFill (15, 1, 0) 3 (eFill (11, 1, 0) 5 (eFill (15, 0, 0) 3 (eFill (11, 0, 0) 5 (zpr (eMna (18, 0, 0) 8 (zpr (zal (zpr (zal (zpr (eMna (14, 0, 0) 8 (zpr (eMna (12, 0, 0) 8 (zpr (eMna (10, 0, 0) 8 M) (9, 0, 0) 1 (some (10, 0, 0)))) (9, 0, 0) 2 (some (12, 0, 0)))) (9, 0, 0) 3 (some (14, 0, 0))) (16, 0, 0)) (9, 0, 0) 4 (some (16, 0, 0))) (17, 0, 0)) (9, 0, 0) 5 (some (17, 0, 0)))) (9, 0, 0) 6 (some (18, 0, 0)))))))))))))))))))
set_option maxRecDepth 100000 in
theorem c_Cmp (h0 : zOk E) (hd : 1 ≤ d) (h1 : 38 ≤ mc) (h2 : 184 ≤ ms) (hk : kr none (eCmp (σ, l, δ, ρ, 16))) : zC E zm_X0_init d mc ms [.inr (9, 0, 0)] (σ, l, δ, ρ, 16) kr kx := by
  refine zC_of h0 (by decide +kernel) (Nat.le_of_ble_eq_true rfl) (Or.inl rfl) (zJ_at h0 1000 zo_X0_init rfl fun K hK => ?_)
  conv => whnf
  repeat' (first
    | (refine ⟨0, 0, ⟨Nat.le_trans (Nat.le_of_ble_eq_true rfl) h1, Nat.le_trans (Nat.le_of_ble_eq_true rfl) h2⟩, c_fill h0 rfl rfl (zmem rfl rfl) (by decide) rfl ?_⟩; refine ⟨rfl, ?_⟩; conv => whnf)
    | (refine ⟨fun h => absurd h (by decide), fun _ => ?_⟩; conv => whnf)
    | (refine ⟨fun _ => ?_, fun h => absurd (by decide) h⟩; conv => whnf)
    | (refine ⟨by first | rfl | exact trivial | exact Nat.le_trans (Nat.le_of_ble_eq_true rfl) h1 | exact Nat.le_trans (Nat.le_of_ble_eq_true rfl) h2 | exact Nat.le_trans (Nat.le_of_ble_eq_true rfl) hd | exact zmem rfl rfl | exact zmna rfl | decide | (unfold vp_in; decide) | exact Nat.le_of_ble_eq_true rfl | exact ⟨rfl, Or.inl rfl⟩ | exact Or.inl ⟨rfl, rfl⟩ | exact Or.inr (Or.inl ⟨rfl, rfl⟩) | exact Or.inr (Or.inr ⟨rfl, rfl⟩), ?_⟩; conv => whnf)
    | (refine hK _ _ _ _ _ (zJ_at h0 1000 zo_X0_init rfl fun K hK => ?_); conv => whnf))
  exact hk
abbrev ePage0 (M : zM) : zM := (zpr (eView 0 2 (zal (eFill (27, 0, 2) 12 (zpr (eView 0 1 (zal (eFill (27, 0, 1) 12 (zpr (eView 0 0 (zal (eFill (27, 0, 0) 12 (eFill (24, 0, 0) 12 (zpr (zal (zpr (eMna (26, 0, 0) 3 (zpr (zal (zpr (zal (zpr (zal (zpr (zal M (22, 0, 0)) (21, 0, 0) 1 (some (22, 0, 0))) (23, 0, 0)) (21, 0, 0) 2 (some (23, 0, 0))) (24, 0, 0)) (21, 0, 0) 4 (some (24, 0, 0))) (25, 0, 0)) (21, 0, 0) 6 (some (25, 0, 0)))) (21, 0, 0) 7 (some (26, 0, 0))) (28, 0, 0)) (21, 0, 0) 10 (some (28, 0, 0))))) (29, 0, 0))) (28, 0, 0) 0 (some (29, 0, 0)))) (29, 0, 1))) (28, 0, 0) 1 (some (29, 0, 1)))) (29, 0, 2))) (28, 0, 0) 2 (some (29, 0, 2)))
set_option maxRecDepth 100000 in
theorem c_Page0 (h0 : zOk E) (hd : 1 ≤ d) (h1 : 15 ≤ mc) (h2 : 360 ≤ ms) (hk : kr none (ePage0 (σ, l, δ, ρ, 56))) : zC E zm_X2_init d mc ms [.inr (21, 0, 0)] (σ, l, δ, ρ, 56) kr kx := by
  refine zC_of h0 (by decide +kernel) (Nat.le_of_ble_eq_true rfl) (Or.inl rfl) (zJ_at h0 1000 zo_X2_init rfl fun K hK => ?_)
  conv => whnf
  repeat' (first
    | (refine ⟨0, 0, ⟨Nat.le_trans (Nat.le_of_ble_eq_true rfl) h1, Nat.le_trans (Nat.le_of_ble_eq_true rfl) h2⟩, c_fill h0 rfl rfl (zmem rfl rfl) (by decide) rfl ?_⟩; refine ⟨rfl, ?_⟩; conv => whnf)
    | (refine ⟨1, 72, ⟨Nat.le_trans (Nat.le_of_ble_eq_true rfl) h1, Nat.le_trans (Nat.le_of_ble_eq_true rfl) h2⟩, c_View h0 rfl (zmem rfl rfl) (Nat.le_refl _) (Nat.le_refl _) ?_⟩; refine ⟨rfl, ?_⟩; conv => whnf)
    | (refine ⟨fun h => absurd h (by decide), fun _ => ?_⟩; conv => whnf)
    | (refine ⟨fun _ => ?_, fun h => absurd (by decide) h⟩; conv => whnf)
    | (refine ⟨by first | rfl | exact trivial | exact Nat.le_trans (Nat.le_of_ble_eq_true rfl) h1 | exact Nat.le_trans (Nat.le_of_ble_eq_true rfl) h2 | exact Nat.le_trans (Nat.le_of_ble_eq_true rfl) hd | exact zmem rfl rfl | exact zmna rfl | decide | (unfold vp_in; decide) | exact Nat.le_of_ble_eq_true rfl | exact ⟨rfl, Or.inl rfl⟩ | exact Or.inl ⟨rfl, rfl⟩ | exact Or.inr (Or.inl ⟨rfl, rfl⟩) | exact Or.inr (Or.inr ⟨rfl, rfl⟩), ?_⟩; conv => whnf)
    | (refine hK _ _ _ _ _ (zJ_at h0 1000 zo_X2_init rfl fun K hK => ?_); conv => whnf))
  exact hk
abbrev ePage1 (M : zM) : zM := (zpr (eView 1 2 (zal (eFill (27, 1, 2) 12 (zpr (eView 1 1 (zal (eFill (27, 1, 1) 12 (zpr (eView 1 0 (zal (eFill (27, 1, 0) 12 (eFill (24, 1, 0) 12 (zpr (zal (zpr (eMna (26, 1, 0) 3 (zpr (zal (zpr (zal (zpr (zal (zpr (zal M (22, 1, 0)) (21, 1, 0) 1 (some (22, 1, 0))) (23, 1, 0)) (21, 1, 0) 2 (some (23, 1, 0))) (24, 1, 0)) (21, 1, 0) 4 (some (24, 1, 0))) (25, 1, 0)) (21, 1, 0) 6 (some (25, 1, 0)))) (21, 1, 0) 7 (some (26, 1, 0))) (28, 1, 0)) (21, 1, 0) 10 (some (28, 1, 0))))) (29, 1, 0))) (28, 1, 0) 0 (some (29, 1, 0)))) (29, 1, 1))) (28, 1, 0) 1 (some (29, 1, 1)))) (29, 1, 2))) (28, 1, 0) 2 (some (29, 1, 2)))
set_option maxRecDepth 100000 in
theorem c_Page1 (h0 : zOk E) (hd : 1 ≤ d) (h1 : 15 ≤ mc) (h2 : 360 ≤ ms) (hk : kr none (ePage1 (σ, l, δ, ρ, 72))) : zC E zm_X2_init d mc ms [.inr (21, 1, 0)] (σ, l, δ, ρ, 72) kr kx := by
  refine zC_of h0 (by decide +kernel) (Nat.le_of_ble_eq_true rfl) (Or.inl rfl) (zJ_at h0 1000 zo_X2_init rfl fun K hK => ?_)
  conv => whnf
  repeat' (first
    | (refine ⟨0, 0, ⟨Nat.le_trans (Nat.le_of_ble_eq_true rfl) h1, Nat.le_trans (Nat.le_of_ble_eq_true rfl) h2⟩, c_fill h0 rfl rfl (zmem rfl rfl) (by decide) rfl ?_⟩; refine ⟨rfl, ?_⟩; conv => whnf)
    | (refine ⟨1, 72, ⟨Nat.le_trans (Nat.le_of_ble_eq_true rfl) h1, Nat.le_trans (Nat.le_of_ble_eq_true rfl) h2⟩, c_View h0 rfl (zmem rfl rfl) (Nat.le_refl _) (Nat.le_refl _) ?_⟩; refine ⟨rfl, ?_⟩; conv => whnf)
    | (refine ⟨fun h => absurd h (by decide), fun _ => ?_⟩; conv => whnf)
    | (refine ⟨fun _ => ?_, fun h => absurd (by decide) h⟩; conv => whnf)
    | (refine ⟨by first | rfl | exact trivial | exact Nat.le_trans (Nat.le_of_ble_eq_true rfl) h1 | exact Nat.le_trans (Nat.le_of_ble_eq_true rfl) h2 | exact Nat.le_trans (Nat.le_of_ble_eq_true rfl) hd | exact zmem rfl rfl | exact zmna rfl | decide | (unfold vp_in; decide) | exact Nat.le_of_ble_eq_true rfl | exact ⟨rfl, Or.inl rfl⟩ | exact Or.inl ⟨rfl, rfl⟩ | exact Or.inr (Or.inl ⟨rfl, rfl⟩) | exact Or.inr (Or.inr ⟨rfl, rfl⟩), ?_⟩; conv => whnf)
    | (refine hK _ _ _ _ _ (zJ_at h0 1000 zo_X2_init rfl fun K hK => ?_); conv => whnf))
  exact hk
abbrev ePage2 (M : zM) : zM := (zpr (eView 2 2 (zal (eFill (27, 2, 2) 12 (zpr (eView 2 1 (zal (eFill (27, 2, 1) 12 (zpr (eView 2 0 (zal (eFill (27, 2, 0) 12 (eFill (24, 2, 0) 12 (zpr (zal (zpr (eMna (26, 2, 0) 3 (zpr (zal (zpr (zal (zpr (zal (zpr (zal M (22, 2, 0)) (21, 2, 0) 1 (some (22, 2, 0))) (23, 2, 0)) (21, 2, 0) 2 (some (23, 2, 0))) (24, 2, 0)) (21, 2, 0) 4 (some (24, 2, 0))) (25, 2, 0)) (21, 2, 0) 6 (some (25, 2, 0)))) (21, 2, 0) 7 (some (26, 2, 0))) (28, 2, 0)) (21, 2, 0) 10 (some (28, 2, 0))))) (29, 2, 0))) (28, 2, 0) 0 (some (29, 2, 0)))) (29, 2, 1))) (28, 2, 0) 1 (some (29, 2, 1)))) (29, 2, 2))) (28, 2, 0) 2 (some (29, 2, 2)))
set_option maxRecDepth 100000 in
theorem c_Page2 (h0 : zOk E) (hd : 1 ≤ d) (h1 : 15 ≤ mc) (h2 : 360 ≤ ms) (hk : kr none (ePage2 (σ, l, δ, ρ, 88))) : zC E zm_X2_init d mc ms [.inr (21, 2, 0)] (σ, l, δ, ρ, 88) kr kx := by
  refine zC_of h0 (by decide +kernel) (Nat.le_of_ble_eq_true rfl) (Or.inl rfl) (zJ_at h0 1000 zo_X2_init rfl fun K hK => ?_)
  conv => whnf
  repeat' (first
    | (refine ⟨0, 0, ⟨Nat.le_trans (Nat.le_of_ble_eq_true rfl) h1, Nat.le_trans (Nat.le_of_ble_eq_true rfl) h2⟩, c_fill h0 rfl rfl (zmem rfl rfl) (by decide) rfl ?_⟩; refine ⟨rfl, ?_⟩; conv => whnf)
    | (refine ⟨1, 72, ⟨Nat.le_trans (Nat.le_of_ble_eq_true rfl) h1, Nat.le_trans (Nat.le_of_ble_eq_true rfl) h2⟩, c_View h0 rfl (zmem rfl rfl) (Nat.le_refl _) (Nat.le_refl _) ?_⟩; refine ⟨rfl, ?_⟩; conv => whnf)
    | (refine ⟨fun h => absurd h (by decide), fun _ => ?_⟩; conv => whnf)
    | (refine ⟨fun _ => ?_, fun h => absurd (by decide) h⟩; conv => whnf)
    | (refine ⟨by first | rfl | exact trivial | exact Nat.le_trans (Nat.le_of_ble_eq_true rfl) h1 | exact Nat.le_trans (Nat.le_of_ble_eq_true rfl) h2 | exact Nat.le_trans (Nat.le_of_ble_eq_true rfl) hd | exact zmem rfl rfl | exact zmna rfl | decide | (unfold vp_in; decide) | exact Nat.le_of_ble_eq_true rfl | exact ⟨rfl, Or.inl rfl⟩ | exact Or.inl ⟨rfl, rfl⟩ | exact Or.inr (Or.inl ⟨rfl, rfl⟩) | exact Or.inr (Or.inr ⟨rfl, rfl⟩), ?_⟩; conv => whnf)
    | (refine hK _ _ _ _ _ (zJ_at h0 1000 zo_X2_init rfl fun K hK => ?_); conv => whnf))
  exact hk
abbrev ePage3 (M : zM) : zM := (zpr (eView 3 2 (zal (eFill (27, 3, 2) 12 (zpr (eView 3 1 (zal (eFill (27, 3, 1) 12 (zpr (eView 3 0 (zal (eFill (27, 3, 0) 12 (eFill (24, 3, 0) 12 (zpr (zal (zpr (eMna (26, 3, 0) 3 (zpr (zal (zpr (zal (zpr (zal (zpr (zal M (22, 3, 0)) (21, 3, 0) 1 (some (22, 3, 0))) (23, 3, 0)) (21, 3, 0) 2 (some (23, 3, 0))) (24, 3, 0)) (21, 3, 0) 4 (some (24, 3, 0))) (25, 3, 0)) (21, 3, 0) 6 (some (25, 3, 0)))) (21, 3, 0) 7 (some (26, 3, 0))) (28, 3, 0)) (21, 3, 0) 10 (some (28, 3, 0))))) (29, 3, 0))) (28, 3, 0) 0 (some (29, 3, 0)))) (29, 3, 1))) (28, 3, 0) 1 (some (29, 3, 1)))) (29, 3, 2))) (28, 3, 0) 2 (some (29, 3, 2)))
set_option maxRecDepth 100000 in
theorem c_Page3 (h0 : zOk E) (hd : 1 ≤ d) (h1 : 15 ≤ mc) (h2 : 360 ≤ ms) (hk : kr none (ePage3 (σ, l, δ, ρ, 104))) : zC E zm_X2_init d mc ms [.inr (21, 3, 0)] (σ, l, δ, ρ, 104) kr kx := by
  refine zC_of h0 (by decide +kernel) (Nat.le_of_ble_eq_true rfl) (Or.inl rfl) (zJ_at h0 1000 zo_X2_init rfl fun K hK => ?_)
  conv => whnf
  repeat' (first
    | (refine ⟨0, 0, ⟨Nat.le_trans (Nat.le_of_ble_eq_true rfl) h1, Nat.le_trans (Nat.le_of_ble_eq_true rfl) h2⟩, c_fill h0 rfl rfl (zmem rfl rfl) (by decide) rfl ?_⟩; refine ⟨rfl, ?_⟩; conv => whnf)
    | (refine ⟨1, 72, ⟨Nat.le_trans (Nat.le_of_ble_eq_true rfl) h1, Nat.le_trans (Nat.le_of_ble_eq_true rfl) h2⟩, c_View h0 rfl (zmem rfl rfl) (Nat.le_refl _) (Nat.le_refl _) ?_⟩; refine ⟨rfl, ?_⟩; conv => whnf)
    | (refine ⟨fun h => absurd h (by decide), fun _ => ?_⟩; conv => whnf)
    | (refine ⟨fun _ => ?_, fun h => absurd (by decide) h⟩; conv => whnf)
    | (refine ⟨by first | rfl | exact trivial | exact Nat.le_trans (Nat.le_of_ble_eq_true rfl) h1 | exact Nat.le_trans (Nat.le_of_ble_eq_true rfl) h2 | exact Nat.le_trans (Nat.le_of_ble_eq_true rfl) hd | exact zmem rfl rfl | exact zmna rfl | decide | (unfold vp_in; decide) | exact Nat.le_of_ble_eq_true rfl | exact ⟨rfl, Or.inl rfl⟩ | exact Or.inl ⟨rfl, rfl⟩ | exact Or.inr (Or.inl ⟨rfl, rfl⟩) | exact Or.inr (Or.inr ⟨rfl, rfl⟩), ?_⟩; conv => whnf)
    | (refine hK _ _ _ _ _ (zJ_at h0 1000 zo_X2_init rfl fun K hK => ?_); conv => whnf))
  exact hk
end CT
