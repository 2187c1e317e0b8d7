/-! ===== constructors of the room and the model ===== -/
section CT
variable {E : zEn} {d mc ms : Nat} {kr : Option zV → zM → Prop} {kx : String → zM → Prop} {σ : Nat → Nat → Nat → Nat → Int32} {l : Nat → Nat → Nat → Nat → Int64} {δ : Nat → Nat → Nat → Nat → UInt64} {ρ : Nat → Nat → Nat → Nat → Option zL}
abbrev eRoom (M : zM) : zM := (zpr (eView 5 0 (zal (zpr (eSnap7 (zal (zpr (eSnap6 (zal (zpr (eSnap5 (zal (zpr (eSnap4 (zal (zpr (eSnap3 (zal (zpr (eSnap2 (zal (zpr (eSnap1 (zal (zpr (eSnap0 (zal (zpr (zal (zpr (eLim (zal (zpr (ePage3 (zal (zpr (ePage2 (zal (zpr (ePage1 (zal (zpr (ePage0 (zal (zpr (zal (zpr (eCmp (zal (zpr (eTok (zal M (1, 0, 0))) (0, 0, 0) 0 (some (1, 0, 0))) (9, 0, 0))) (0, 0, 0) 1 (some (9, 0, 0))) (20, 0, 0)) (0, 0, 0) 2 (some (20, 0, 0))) (21, 0, 0))) (20, 0, 0) 0 (some (21, 0, 0))) (21, 1, 0))) (20, 0, 0) 1 (some (21, 1, 0))) (21, 2, 0))) (20, 0, 0) 2 (some (21, 2, 0))) (21, 3, 0))) (20, 0, 0) 3 (some (21, 3, 0))) (31, 0, 0))) (0, 0, 0) 4 (some (31, 0, 0))) (32, 0, 0)) (0, 0, 0) 5 (some (32, 0, 0))) (33, 0, 0))) (32, 0, 0) 0 (some (33, 0, 0))) (33, 0, 1))) (32, 0, 0) 1 (some (33, 0, 1))) (33, 0, 2))) (32, 0, 0) 2 (some (33, 0, 2))) (33, 0, 3))) (32, 0, 0) 3 (some (33, 0, 3))) (33, 0, 4))) (32, 0, 0) 4 (some (33, 0, 4))) (33, 0, 5))) (32, 0, 0) 5 (some (33, 0, 5))) (33, 0, 6))) (32, 0, 0) 6 (some (33, 0, 6))) (33, 0, 7))) (32, 0, 0) 7 (some (33, 0, 7))) (29, 5, 0))) (0, 0, 0) 8 (some (29, 5, 0)))
set_option maxHeartbeats 8000000 in
set_option maxRecDepth 100000 in
theorem c_Room (h0 : zOk E) (hd : 2 ≤ d) (h1 : 146 ≤ mc) (h2 : 2527 ≤ ms) (hk : kr none (eRoom (σ, l, δ, ρ, 1))) : zC E zm_X6_init d mc ms [.inr (0, 0, 0)] (σ, l, δ, ρ, 1) kr kx := by
  refine zC_of h0 (by decide +kernel) (Nat.le_of_ble_eq_true rfl) (Or.inl rfl) (zJ_at h0 1000 zo_X6_init rfl fun K hK => ?_)
  conv => whnf
  repeat' (first
    | (refine ⟨by first | rfl | exact trivial | exact Nat.le_trans (Nat.le_of_ble_eq_true rfl) h1 | exact Nat.le_trans (Nat.le_of_ble_eq_true rfl) h2 | exact Nat.le_trans (Nat.le_of_ble_eq_true rfl) hd | exact zmem rfl rfl | exact zmna rfl | decide | (unfold vp_in; decide) | exact Nat.le_of_ble_eq_true rfl | exact ⟨rfl, Or.inl rfl⟩ | exact Or.inl ⟨rfl, rfl⟩ | exact Or.inr (Or.inl ⟨rfl, rfl⟩) | exact Or.inr (Or.inr ⟨rfl, rfl⟩), ?_⟩; conv => whnf)
    | (refine ⟨fun h => absurd h (by decide), fun _ => ?_⟩; conv => whnf)
    | (refine ⟨fun _ => ?_, fun h => absurd (by decide) h⟩; conv => whnf)
    | (refine hK _ _ _ _ _ (zJ_at h0 1000 zo_X6_init rfl fun K hK => ?_); conv => whnf))
  refine ⟨13, 140, ⟨Nat.le_trans (Nat.le_of_ble_eq_true rfl) h1, Nat.le_trans (Nat.le_of_ble_eq_true rfl) h2⟩, c_Tok h0 (by omega) (Nat.le_refl _) (Nat.le_refl _) ?_⟩
  refine ⟨rfl, ?_⟩
  conv => whnf
  repeat' (first
    | (refine ⟨by first | rfl | exact trivial | exact Nat.le_trans (Nat.le_of_ble_eq_true rfl) h1 | exact Nat.le_trans (Nat.le_of_ble_eq_true rfl) h2 | exact Nat.le_trans (Nat.le_of_ble_eq_true rfl) hd | exact zmem rfl rfl | exact zmna rfl | decide | (unfold vp_in; decide) | exact Nat.le_of_ble_eq_true rfl | exact ⟨rfl, Or.inl rfl⟩ | exact Or.inl ⟨rfl, rfl⟩ | exact Or.inr (Or.inl ⟨rfl, rfl⟩) | exact Or.inr (Or.inr ⟨rfl, rfl⟩), ?_⟩; conv => whnf)
    | (refine ⟨fun h => absurd h (by decide), fun _ => ?_⟩; conv => whnf)
    | (refine ⟨fun _ => ?_, fun h => absurd (by decide) h⟩; conv => whnf)
    | (refine hK _ _ _ _ _ (zJ_at h0 1000 zo_X6_init rfl fun K hK => ?_); conv => whnf))
  refine ⟨38, 184, ⟨Nat.le_trans (Nat.le_of_ble_eq_true rfl) h1, Nat.le_trans (Nat.le_of_ble_eq_true rfl) h2⟩, c_Cmp h0 (by omega) (Nat.le_refl _) (Nat.le_refl _) ?_⟩
  refine ⟨rfl, ?_⟩
  conv => whnf
  repeat' (first
    | (refine ⟨by first | rfl | exact trivial | exact Nat.le_trans (Nat.le_of_ble_eq_true rfl) h1 | exact Nat.le_trans (Nat.le_of_ble_eq_true rfl) h2 | exact Nat.le_trans (Nat.le_of_ble_eq_true rfl) hd | exact zmem rfl rfl | exact zmna rfl | decide | (unfold vp_in; decide) | exact Nat.le_of_ble_eq_true rfl | exact ⟨rfl, Or.inl rfl⟩ | exact Or.inl ⟨rfl, rfl⟩ | exact Or.inr (Or.inl ⟨rfl, rfl⟩) | exact Or.inr (Or.inr ⟨rfl, rfl⟩), ?_⟩; conv => whnf)
    | (refine ⟨fun h => absurd h (by decide), fun _ => ?_⟩; conv => whnf)
    | (refine ⟨fun _ => ?_, fun h => absurd (by decide) h⟩; conv => whnf)
    | (refine hK _ _ _ _ _ (zJ_at h0 1000 zo_X6_init rfl fun K hK => ?_); conv => whnf))
  refine ⟨15, 360, ⟨Nat.le_trans (Nat.le_of_ble_eq_true rfl) h1, Nat.le_trans (Nat.le_of_ble_eq_true rfl) h2⟩, c_Page0 h0 (by omega) (Nat.le_refl _) (Nat.le_refl _) ?_⟩
  refine ⟨rfl, ?_⟩
  conv => whnf
  repeat' (first
    | (refine ⟨by first | rfl | exact trivial | exact Nat.le_trans (Nat.le_of_ble_eq_true rfl) h1 | exact Nat.le_trans (Nat.le_of_ble_eq_true rfl) h2 | exact Nat.le_trans (Nat.le_of_ble_eq_true rfl) hd | exact zmem rfl rfl | exact zmna rfl | decide | (unfold vp_in; decide) | exact Nat.le_of_ble_eq_true rfl | exact ⟨rfl, Or.inl rfl⟩ | exact Or.inl ⟨rfl, rfl⟩ | exact Or.inr (Or.inl ⟨rfl, rfl⟩) | exact Or.inr (Or.inr ⟨rfl, rfl⟩), ?_⟩; conv => whnf)
    | (refine ⟨fun h => absurd h (by decide), fun _ => ?_⟩; conv => whnf)
    | (refine ⟨fun _ => ?_, fun h => absurd (by decide) h⟩; conv => whnf)
    | (refine hK _ _ _ _ _ (zJ_at h0 1000 zo_X6_init rfl fun K hK => ?_); conv => whnf))
  refine ⟨15, 360, ⟨Nat.le_trans (Nat.le_of_ble_eq_true rfl) h1, Nat.le_trans (Nat.le_of_ble_eq_true rfl) h2⟩, c_Page1 h0 (by omega) (Nat.le_refl _) (Nat.le_refl _) ?_⟩
  refine ⟨rfl, ?_⟩
  conv => whnf
  repeat' (first
    | (refine ⟨by first | rfl | exact trivial | exact Nat.le_trans (Nat.le_of_ble_eq_true rfl) h1 | exact Nat.le_trans (Nat.le_of_ble_eq_true rfl) h2 | exact Nat.le_trans (Nat.le_of_ble_eq_true rfl) hd | exact zmem rfl rfl | exact zmna rfl | decide | (unfold vp_in; decide) | exact Nat.le_of_ble_eq_true rfl | exact ⟨rfl, Or.inl rfl⟩ | exact Or.inl ⟨rfl, rfl⟩ | exact Or.inr (Or.inl ⟨rfl, rfl⟩) | exact Or.inr (Or.inr ⟨rfl, rfl⟩), ?_⟩; conv => whnf)
    | (refine ⟨fun h => absurd h (by decide), fun _ => ?_⟩; conv => whnf)
    | (refine ⟨fun _ => ?_, fun h => absurd (by decide) h⟩; conv => whnf)
    | (refine hK _ _ _ _ _ (zJ_at h0 1000 zo_X6_init rfl fun K hK => ?_); conv => whnf))
  refine ⟨15, 360, ⟨Nat.le_trans (Nat.le_of_ble_eq_true rfl) h1, Nat.le_trans (Nat.le_of_ble_eq_true rfl) h2⟩, c_Page2 h0 (by omega) (Nat.le_refl _) (Nat.le_refl _) ?_⟩
  refine ⟨rfl, ?_⟩
  conv => whnf
  repeat' (first
    | (refine ⟨by first | rfl | exact trivial | exact Nat.le_trans (Nat.le_of_ble_eq_true rfl) h1 | exact Nat.le_trans (Nat.le_of_ble_eq_true rfl) h2 | exact Nat.le_trans (Nat.le_of_ble_eq_true rfl) hd | exact zmem rfl rfl | exact zmna rfl | decide | (unfold vp_in; decide) | exact Nat.le_of_ble_eq_true rfl | exact ⟨rfl, Or.inl rfl⟩ | exact Or.inl ⟨rfl, rfl⟩ | exact Or.inr (Or.inl ⟨rfl, rfl⟩) | exact Or.inr (Or.inr ⟨rfl, rfl⟩), ?_⟩; conv => whnf)
    | (refine ⟨fun h => absurd h (by decide), fun _ => ?_⟩; conv => whnf)
    | (refine ⟨fun _ => ?_, fun h => absurd (by decide) h⟩; conv => whnf)
    | (refine hK _ _ _ _ _ (zJ_at h0 1000 zo_X6_init rfl fun K hK => ?_); conv => whnf))
  refine ⟨15, 360, ⟨Nat.le_trans (Nat.le_of_ble_eq_true rfl) h1, Nat.le_trans (Nat.le_of_ble_eq_true rfl) h2⟩, c_Page3 h0 (by omega) (Nat.le_refl _) (Nat.le_refl _) ?_⟩
  refine ⟨rfl, ?_⟩
  conv => whnf
  repeat' (first
    | (refine ⟨by first | rfl | exact trivial | exact Nat.le_trans (Nat.le_of_ble_eq_true rfl) h1 | exact Nat.le_trans (Nat.le_of_ble_eq_true rfl) h2 | exact Nat.le_trans (Nat.le_of_ble_eq_true rfl) hd | exact zmem rfl rfl | exact zmna rfl | decide | (unfold vp_in; decide) | exact Nat.le_of_ble_eq_true rfl | exact ⟨rfl, Or.inl rfl⟩ | exact Or.inl ⟨rfl, rfl⟩ | exact Or.inr (Or.inl ⟨rfl, rfl⟩) | exact Or.inr (Or.inr ⟨rfl, rfl⟩), ?_⟩; conv => whnf)
    | (refine ⟨fun h => absurd h (by decide), fun _ => ?_⟩; conv => whnf)
    | (refine ⟨fun _ => ?_, fun h => absurd (by decide) h⟩; conv => whnf)
    | (refine hK _ _ _ _ _ (zJ_at h0 1000 zo_X6_init rfl fun K hK => ?_); conv => whnf))
  refine ⟨0, 0, ⟨Nat.le_trans (Nat.le_of_ble_eq_true rfl) h1, Nat.le_trans (Nat.le_of_ble_eq_true rfl) h2⟩, c_Lim h0 (Nat.le_refl _) (Nat.le_refl _) ?_⟩
  refine ⟨rfl, ?_⟩
  conv => whnf
  repeat' (first
    | (refine ⟨by first | rfl | exact trivial | exact Nat.le_trans (Nat.le_of_ble_eq_true rfl) h1 | exact Nat.le_trans (Nat.le_of_ble_eq_true rfl) h2 | exact Nat.le_trans (Nat.le_of_ble_eq_true rfl) hd | exact zmem rfl rfl | exact zmna rfl | decide | (unfold vp_in; decide) | exact Nat.le_of_ble_eq_true rfl | exact ⟨rfl, Or.inl rfl⟩ | exact Or.inl ⟨rfl, rfl⟩ | exact Or.inr (Or.inl ⟨rfl, rfl⟩) | exact Or.inr (Or.inr ⟨rfl, rfl⟩), ?_⟩; conv => whnf)
    | (refine ⟨fun h => absurd h (by decide), fun _ => ?_⟩; conv => whnf)
    | (refine ⟨fun _ => ?_, fun h => absurd (by decide) h⟩; conv => whnf)
    | (refine hK _ _ _ _ _ (zJ_at h0 1000 zo_X6_init rfl fun K hK => ?_); conv => whnf))
  refine ⟨2, 74, ⟨Nat.le_trans (Nat.le_of_ble_eq_true rfl) h1, Nat.le_trans (Nat.le_of_ble_eq_true rfl) h2⟩, c_Snap0 h0 (by omega) (Nat.le_refl _) (Nat.le_refl _) ?_⟩
  refine ⟨rfl, ?_⟩
  conv => whnf
  repeat' (first
    | (refine ⟨by first | rfl | exact trivial | exact Nat.le_trans (Nat.le_of_ble_eq_true rfl) h1 | exact Nat.le_trans (Nat.le_of_ble_eq_true rfl) h2 | exact Nat.le_trans (Nat.le_of_ble_eq_true rfl) hd | exact zmem rfl rfl | exact zmna rfl | decide | (unfold vp_in; decide) | exact Nat.le_of_ble_eq_true rfl | exact ⟨rfl, Or.inl rfl⟩ | exact Or.inl ⟨rfl, rfl⟩ | exact Or.inr (Or.inl ⟨rfl, rfl⟩) | exact Or.inr (Or.inr ⟨rfl, rfl⟩), ?_⟩; conv => whnf)
    | (refine ⟨fun h => absurd h (by decide), fun _ => ?_⟩; conv => whnf)
    | (refine ⟨fun _ => ?_, fun h => absurd (by decide) h⟩; conv => whnf)
    | (refine hK _ _ _ _ _ (zJ_at h0 1000 zo_X6_init rfl fun K hK => ?_); conv => whnf))
  refine ⟨2, 74, ⟨Nat.le_trans (Nat.le_of_ble_eq_true rfl) h1, Nat.le_trans (Nat.le_of_ble_eq_true rfl) h2⟩, c_Snap1 h0 (by omega) (Nat.le_refl _) (Nat.le_refl _) ?_⟩
  refine ⟨rfl, ?_⟩
  conv => whnf
  repeat' (first
    | (refine ⟨by first | rfl | exact trivial | exact Nat.le_trans (Nat.le_of_ble_eq_true rfl) h1 | exact Nat.le_trans (Nat.le_of_ble_eq_true rfl) h2 | exact Nat.le_trans (Nat.le_of_ble_eq_true rfl) hd | exact zmem rfl rfl | exact zmna rfl | decide | (unfold vp_in; decide) | exact Nat.le_of_ble_eq_true rfl | exact ⟨rfl, Or.inl rfl⟩ | exact Or.inl ⟨rfl, rfl⟩ | exact Or.inr (Or.inl ⟨rfl, rfl⟩) | exact Or.inr (Or.inr ⟨rfl, rfl⟩), ?_⟩; conv => whnf)
    | (refine ⟨fun h => absurd h (by decide), fun _ => ?_⟩; conv => whnf)
    | (refine ⟨fun _ => ?_, fun h => absurd (by decide) h⟩; conv => whnf)
    | (refine hK _ _ _ _ _ (zJ_at h0 1000 zo_X6_init rfl fun K hK => ?_); conv => whnf))
  refine ⟨2, 74, ⟨Nat.le_trans (Nat.le_of_ble_eq_true rfl) h1, Nat.le_trans (Nat.le_of_ble_eq_true rfl) h2⟩, c_Snap2 h0 (by omega) (Nat.le_refl _) (Nat.le_refl _) ?_⟩
  refine ⟨rfl, ?_⟩
  conv => whnf
  repeat' (first
    | (refine ⟨by first | rfl | exact trivial | exact Nat.le_trans (Nat.le_of_ble_eq_true rfl) h1 | exact Nat.le_trans (Nat.le_of_ble_eq_true rfl) h2 | exact Nat.le_trans (Nat.le_of_ble_eq_true rfl) hd | exact zmem rfl rfl | exact zmna rfl | decide | (unfold vp_in; decide) | exact Nat.le_of_ble_eq_true rfl | exact ⟨rfl, Or.inl rfl⟩ | exact Or.inl ⟨rfl, rfl⟩ | exact Or.inr (Or.inl ⟨rfl, rfl⟩) | exact Or.inr (Or.inr ⟨rfl, rfl⟩), ?_⟩; conv => whnf)
    | (refine ⟨fun h => absurd h (by decide), fun _ => ?_⟩; conv => whnf)
    | (refine ⟨fun _ => ?_, fun h => absurd (by decide) h⟩; conv => whnf)
    | (refine hK _ _ _ _ _ (zJ_at h0 1000 zo_X6_init rfl fun K hK => ?_); conv => whnf))
  refine ⟨2, 74, ⟨Nat.le_trans (Nat.le_of_ble_eq_true rfl) h1, Nat.le_trans (Nat.le_of_ble_eq_true rfl) h2⟩, c_Snap3 h0 (by omega) (Nat.le_refl _) (Nat.le_refl _) ?_⟩
  refine ⟨rfl, ?_⟩
  conv => whnf
  repeat' (first
    | (refine ⟨by first | rfl | exact trivial | exact Nat.le_trans (Nat.le_of_ble_eq_true rfl) h1 | exact Nat.le_trans (Nat.le_of_ble_eq_true rfl) h2 | exact Nat.le_trans (Nat.le_of_ble_eq_true rfl) hd | exact zmem rfl rfl | exact zmna rfl | decide | (unfold vp_in; decide) | exact Nat.le_of_ble_eq_true rfl | exact ⟨rfl, Or.inl rfl⟩ | exact Or.inl ⟨rfl, rfl⟩ | exact Or.inr (Or.inl ⟨rfl, rfl⟩) | exact Or.inr (Or.inr ⟨rfl, rfl⟩), ?_⟩; conv => whnf)
    | (refine ⟨fun h => absurd h (by decide), fun _ => ?_⟩; conv => whnf)
    | (refine ⟨fun _ => ?_, fun h => absurd (by decide) h⟩; conv => whnf)
    | (refine hK _ _ _ _ _ (zJ_at h0 1000 zo_X6_init rfl fun K hK => ?_); conv => whnf))
  refine ⟨2, 74, ⟨Nat.le_trans (Nat.le_of_ble_eq_true rfl) h1, Nat.le_trans (Nat.le_of_ble_eq_true rfl) h2⟩, c_Snap4 h0 (by omega) (Nat.le_refl _) (Nat.le_refl _) ?_⟩
  refine ⟨rfl, ?_⟩
  conv => whnf
  repeat' (first
    | (refine ⟨by first | rfl | exact trivial | exact Nat.le_trans (Nat.le_of_ble_eq_true rfl) h1 | exact Nat.le_trans (Nat.le_of_ble_eq_true rfl) h2 | exact Nat.le_trans (Nat.le_of_ble_eq_true rfl) hd | exact zmem rfl rfl | exact zmna rfl | decide | (unfold vp_in; decide) | exact Nat.le_of_ble_eq_true rfl | exact ⟨rfl, Or.inl rfl⟩ | exact Or.inl ⟨rfl, rfl⟩ | exact Or.inr (Or.inl ⟨rfl, rfl⟩) | exact Or.inr (Or.inr ⟨rfl, rfl⟩), ?_⟩; conv => whnf)
    | (refine ⟨fun h => absurd h (by decide), fun _ => ?_⟩; conv => whnf)
    | (refine ⟨fun _ => ?_, fun h => absurd (by decide) h⟩; conv => whnf)
    | (refine hK _ _ _ _ _ (zJ_at h0 1000 zo_X6_init rfl fun K hK => ?_); conv => whnf))
  refine ⟨2, 74, ⟨Nat.le_trans (Nat.le_of_ble_eq_true rfl) h1, Nat.le_trans (Nat.le_of_ble_eq_true rfl) h2⟩, c_Snap5 h0 (by omega) (Nat.le_refl _) (Nat.le_refl _) ?_⟩
  refine ⟨rfl, ?_⟩
  conv => whnf
  repeat' (first
    | (refine ⟨by first | rfl | exact trivial | exact Nat.le_trans (Nat.le_of_ble_eq_true rfl) h1 | exact Nat.le_trans (Nat.le_of_ble_eq_true rfl) h2 | exact Nat.le_trans (Nat.le_of_ble_eq_true rfl) hd | exact zmem rfl rfl | exact zmna rfl | decide | (unfold vp_in; decide) | exact Nat.le_of_ble_eq_true rfl | exact ⟨rfl, Or.inl rfl⟩ | exact Or.inl ⟨rfl, rfl⟩ | exact Or.inr (Or.inl ⟨rfl, rfl⟩) | exact Or.inr (Or.inr ⟨rfl, rfl⟩), ?_⟩; conv => whnf)
    | (refine ⟨fun h => absurd h (by decide), fun _ => ?_⟩; conv => whnf)
    | (refine ⟨fun _ => ?_, fun h => absurd (by decide) h⟩; conv => whnf)
    | (refine hK _ _ _ _ _ (zJ_at h0 1000 zo_X6_init rfl fun K hK => ?_); conv => whnf))
  refine ⟨2, 74, ⟨Nat.le_trans (Nat.le_of_ble_eq_true rfl) h1, Nat.le_trans (Nat.le_of_ble_eq_true rfl) h2⟩, c_Snap6 h0 (by omega) (Nat.le_refl _) (Nat.le_refl _) ?_⟩
  refine ⟨rfl, ?_⟩
  conv => whnf
  repeat' (first
    | (refine ⟨by first | rfl | exact trivial | exact Nat.le_trans (Nat.le_of_ble_eq_true rfl) h1 | exact Nat.le_trans (Nat.le_of_ble_eq_true rfl) h2 | exact Nat.le_trans (Nat.le_of_ble_eq_true rfl) hd | exact zmem rfl rfl | exact zmna rfl | decide | (unfold vp_in; decide) | exact Nat.le_of_ble_eq_true rfl | exact ⟨rfl, Or.inl rfl⟩ | exact Or.inl ⟨rfl, rfl⟩ | exact Or.inr (Or.inl ⟨rfl, rfl⟩) | exact Or.inr (Or.inr ⟨rfl, rfl⟩), ?_⟩; conv => whnf)
    | (refine ⟨fun h => absurd h (by decide), fun _ => ?_⟩; conv => whnf)
    | (refine ⟨fun _ => ?_, fun h => absurd (by decide) h⟩; conv => whnf)
    | (refine hK _ _ _ _ _ (zJ_at h0 1000 zo_X6_init rfl fun K hK => ?_); conv => whnf))
  refine ⟨2, 74, ⟨Nat.le_trans (Nat.le_of_ble_eq_true rfl) h1, Nat.le_trans (Nat.le_of_ble_eq_true rfl) h2⟩, c_Snap7 h0 (by omega) (Nat.le_refl _) (Nat.le_refl _) ?_⟩
  refine ⟨rfl, ?_⟩
  conv => whnf
  repeat' (first
    | (refine ⟨by first | rfl | exact trivial | exact Nat.le_trans (Nat.le_of_ble_eq_true rfl) h1 | exact Nat.le_trans (Nat.le_of_ble_eq_true rfl) h2 | exact Nat.le_trans (Nat.le_of_ble_eq_true rfl) hd | exact zmem rfl rfl | exact zmna rfl | decide | (unfold vp_in; decide) | exact Nat.le_of_ble_eq_true rfl | exact ⟨rfl, Or.inl rfl⟩ | exact Or.inl ⟨rfl, rfl⟩ | exact Or.inr (Or.inl ⟨rfl, rfl⟩) | exact Or.inr (Or.inr ⟨rfl, rfl⟩), ?_⟩; conv => whnf)
    | (refine ⟨fun h => absurd h (by decide), fun _ => ?_⟩; conv => whnf)
    | (refine ⟨fun _ => ?_, fun h => absurd (by decide) h⟩; conv => whnf)
    | (refine hK _ _ _ _ _ (zJ_at h0 1000 zo_X6_init rfl fun K hK => ?_); conv => whnf))
  refine ⟨1, 72, ⟨Nat.le_trans (Nat.le_of_ble_eq_true rfl) h1, Nat.le_trans (Nat.le_of_ble_eq_true rfl) h2⟩, c_View h0 rfl (zmem rfl rfl) (Nat.le_refl _) (Nat.le_refl _) ?_⟩
  refine ⟨rfl, ?_⟩
  conv => whnf
  repeat' (first
    | (refine ⟨by first | rfl | exact trivial | exact Nat.le_trans (Nat.le_of_ble_eq_true rfl) h1 | exact Nat.le_trans (Nat.le_of_ble_eq_true rfl) h2 | exact Nat.le_trans (Nat.le_of_ble_eq_true rfl) hd | exact zmem rfl rfl | exact zmna rfl | decide | (unfold vp_in; decide) | exact Nat.le_of_ble_eq_true rfl | exact ⟨rfl, Or.inl rfl⟩ | exact Or.inl ⟨rfl, rfl⟩ | exact Or.inr (Or.inl ⟨rfl, rfl⟩) | exact Or.inr (Or.inr ⟨rfl, rfl⟩), ?_⟩; conv => whnf)
    | (refine ⟨fun h => absurd h (by decide), fun _ => ?_⟩; conv => whnf)
    | (refine ⟨fun _ => ?_, fun h => absurd (by decide) h⟩; conv => whnf)
    | (refine hK _ _ _ _ _ (zJ_at h0 1000 zo_X6_init rfl fun K hK => ?_); conv => whnf))
  exact hk
abbrev eModel (M : zM) : zM := (zpr (zal (zpr (zal (zpr (zal (zpr (zal (zpr (zal (zpr (zal (zpr (zal (zpr (zal (zpr (zal (zpr (zal (zpr (zal (zpi (zpi (zpi (zpr (zal (zpr (zal (zpr (zal (zpr (zal (zpr (zal (zpr (zal (zpr (zal (zpr (zal (zpr (zal (zpr (zal (zpr (zal (zpr (zal (zpi (zpr (zpi (zpi (zpi (zpi (zpi (zpi (zpi (zpi (zpi (zpi (zpi (zpi (zal (zpr (zal (zpr (zal M (41, 0, 0)) (40, 0, 0) 1 (some (41, 0, 0))) (42, 0, 0)) (40, 0, 0) 2 (some (42, 0, 0))) (43, 0, 0)) (43, 0, 0) (I 0).toNatClampNeg (I (-1))) (43, 0, 0) (I 1).toNatClampNeg (I (-1))) (43, 0, 0) (I 2).toNatClampNeg (I (-1))) (43, 0, 0) (I 3).toNatClampNeg (I (-1))) (43, 0, 0) (I 4).toNatClampNeg (I (-1))) (43, 0, 0) (I 5).toNatClampNeg (I (-1))) (43, 0, 0) (I 6).toNatClampNeg (I (-1))) (43, 0, 0) (I 7).toNatClampNeg (I (-1))) (43, 0, 0) (I 8).toNatClampNeg (I (-1))) (43, 0, 0) (I 9).toNatClampNeg (I (-1))) (43, 0, 0) (I 10).toNatClampNeg (I (-1))) (43, 0, 0) (I 11).toNatClampNeg (I (-1))) (40, 0, 0) 3 (some (43, 0, 0))) (40, 0, 0) 4 (I 1)) (44, 0, 0)) (40, 0, 0) 6 (some (44, 0, 0))) (45, 0, 0)) (40, 0, 0) 7 (some (45, 0, 0))) (46, 0, 0)) (40, 0, 0) 8 (some (46, 0, 0))) (47, 0, 0)) (40, 0, 0) 9 (some (47, 0, 0))) (48, 0, 0)) (40, 0, 0) 11 (some (48, 0, 0))) (49, 0, 0)) (40, 0, 0) 12 (some (49, 0, 0))) (50, 0, 0)) (40, 0, 0) 13 (some (50, 0, 0))) (51, 0, 0)) (40, 0, 0) 14 (some (51, 0, 0))) (52, 0, 0)) (40, 0, 0) 15 (some (52, 0, 0))) (53, 0, 0)) (40, 0, 0) 16 (some (53, 0, 0))) (54, 0, 0)) (40, 0, 0) 17 (some (54, 0, 0))) (55, 0, 0)) (40, 0, 0) 18 (some (55, 0, 0))) (40, 0, 0) 19 (I 30)) (40, 0, 0) 20 (I 8)) (40, 0, 0) 21 (I 72)) (56, 0, 0)) (40, 0, 0) 23 (some (56, 0, 0))) (57, 0, 0)) (40, 0, 0) 24 (some (57, 0, 0))) (58, 0, 0)) (40, 0, 0) 25 (some (58, 0, 0))) (59, 0, 0)) (40, 0, 0) 26 (some (59, 0, 0))) (60, 0, 0)) (40, 0, 0) 28 (some (60, 0, 0))) (61, 0, 0)) (40, 0, 0) 29 (some (61, 0, 0))) (62, 0, 0)) (40, 0, 0) 30 (some (62, 0, 0))) (63, 0, 0)) (40, 0, 0) 32 (some (63, 0, 0))) (64, 0, 0)) (40, 0, 0) 33 (some (64, 0, 0))) (65, 0, 0)) (40, 0, 0) 34 (some (65, 0, 0))) (66, 0, 0)) (40, 0, 0) 35 (some (66, 0, 0)))
set_option maxRecDepth 100000 in
theorem c_Model (h0 : zOk E) (h1 : 26 ≤ mc) (h2 : 1872 ≤ ms) (hk : kr none (eModel (σ, l, δ, ρ, 148))) : zC E zm_X7_init d mc ms [.inr (40, 0, 0)] (σ, l, δ, ρ, 148) kr kx := by
  refine zC_of h0 (by decide +kernel) (Nat.le_of_ble_eq_true rfl) (Or.inl rfl) (zJ_at h0 1000 zo_X7_init rfl fun K hK => ?_)
  conv => whnf
  repeat' (first
    | (refine ⟨fun h => absurd h (by decide), fun _ => ?_⟩; conv => whnf)
    | (refine ⟨fun _ => ?_, fun h => absurd (by decide) h⟩; conv => whnf)
    | (refine ⟨by first | rfl | exact trivial | exact Nat.le_trans (Nat.le_of_ble_eq_true rfl) h1 | exact Nat.le_trans (Nat.le_of_ble_eq_true rfl) h2 | exact zmem rfl rfl | exact zmna rfl | decide | (unfold vp_in; decide) | exact Nat.le_of_ble_eq_true rfl | exact ⟨rfl, Or.inl rfl⟩ | exact Or.inl ⟨rfl, rfl⟩ | exact Or.inr (Or.inl ⟨rfl, rfl⟩) | exact Or.inr (Or.inr ⟨rfl, rfl⟩), ?_⟩; conv => whnf)
    | (refine hK _ _ _ _ _ (zJ_at h0 1000 zo_X7_init rfl fun K hK => ?_); conv => whnf))
  exact hk
end CT
