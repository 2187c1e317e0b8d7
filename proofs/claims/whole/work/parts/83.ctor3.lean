/-! ===== constructors of the room and the model ===== -/
section CT
variable {E : zEn} {d mc ms : Nat} {kr : Option zV → zM → Prop} {kx : String → zM → Prop} {σ : Nat → Nat → Nat → Nat → Int32} {l : Nat → Nat → Nat → Nat → Int64} {δ : Nat → Nat → Nat → Nat → UInt64} {ρ : Nat → Nat → Nat → Nat → Option zL}
abbrev eRoom (M : zM) : zM := (zevs [(1, (0, 0, 0), 8, (29, 5, 0), 0)] (eView 5 0 (zevs [(0, (29, 5, 0), 0, (0, 0, 0), 0), (1, (32, 0, 0), 7, (33, 0, 7), 0)] (eSnap7 (zevs [(0, (33, 0, 7), 0, (0, 0, 0), 0), (1, (32, 0, 0), 6, (33, 0, 6), 0)] (eSnap6 (zevs [(0, (33, 0, 6), 0, (0, 0, 0), 0), (1, (32, 0, 0), 5, (33, 0, 5), 0)] (eSnap5 (zevs [(0, (33, 0, 5), 0, (0, 0, 0), 0), (1, (32, 0, 0), 4, (33, 0, 4), 0)] (eSnap4 (zevs [(0, (33, 0, 4), 0, (0, 0, 0), 0), (1, (32, 0, 0), 3, (33, 0, 3), 0)] (eSnap3 (zevs [(0, (33, 0, 3), 0, (0, 0, 0), 0), (1, (32, 0, 0), 2, (33, 0, 2), 0)] (eSnap2 (zevs [(0, (33, 0, 2), 0, (0, 0, 0), 0), (1, (32, 0, 0), 1, (33, 0, 1), 0)] (eSnap1 (zevs [(0, (33, 0, 1), 0, (0, 0, 0), 0), (1, (32, 0, 0), 0, (33, 0, 0), 0)] (eSnap0 (zevs [(0, (33, 0, 0), 0, (0, 0, 0), 0), (1, (0, 0, 0), 5, (32, 0, 0), 0), (0, (32, 0, 0), 0, (0, 0, 0), 0), (1, (0, 0, 0), 4, (31, 0, 0), 0)] (eLim (zevs [(0, (31, 0, 0), 0, (0, 0, 0), 0), (1, (20, 0, 0), 3, (21, 3, 0), 0)] (ePage3 (zevs [(0, (21, 3, 0), 0, (0, 0, 0), 0), (1, (20, 0, 0), 2, (21, 2, 0), 0)] (ePage2 (zevs [(0, (21, 2, 0), 0, (0, 0, 0), 0), (1, (20, 0, 0), 1, (21, 1, 0), 0)] (ePage1 (zevs [(0, (21, 1, 0), 0, (0, 0, 0), 0), (1, (20, 0, 0), 0, (21, 0, 0), 0)] (ePage0 (zevs [(0, (21, 0, 0), 0, (0, 0, 0), 0), (1, (0, 0, 0), 2, (20, 0, 0), 0), (0, (20, 0, 0), 0, (0, 0, 0), 0), (1, (0, 0, 0), 1, (9, 0, 0), 0)] (eCmp (zevs [(0, (9, 0, 0), 0, (0, 0, 0), 0), (1, (0, 0, 0), 0, (1, 0, 0), 0)] (eTok (zevs [(0, (1, 0, 0), 0, (0, 0, 0), 0)] M)))))))))))))))))))))))))))))))))
set_option maxHeartbeats 8000000 in
set_option maxRecDepth 100000 in
theorem c_Room (h0 : zOk E) (hd : 2 ≤ d) (h1 : 146 ≤ mc) (h2 : 2527 ≤ ms) (hk : kr none (eRoom (σ, l, δ, ρ, 1))) : zC E zm_X6_init d mc ms [.inr (0, 0, 0)] (σ, l, δ, ρ, 1) kr kx := by
  refine zC_of h0 (by decide +kernel) (Nat.le_of_ble_eq_true rfl) (Or.inl rfl) (zJ_at h0 1000 zo_X6_init rfl fun K hK => ?_)
  conv => whnf
  repeat' (first
    | (refine ⟨by first | rfl | exact trivial | exact Nat.le_trans (Nat.le_of_ble_eq_true rfl) h1 | exact Nat.le_trans (Nat.le_of_ble_eq_true rfl) h2 | exact Nat.le_trans (Nat.le_of_ble_eq_true rfl) hd | exact zmem rfl rfl | exact zmna rfl | decide | (unfold vp_in; decide) | exact Nat.le_of_ble_eq_true rfl | exact ⟨rfl, Or.inl rfl⟩ | exact Or.inl ⟨rfl, rfl⟩ | exact Or.inr (Or.inl ⟨rfl, rfl⟩) | exact Or.inr (Or.inr ⟨rfl, rfl⟩), ?_⟩; conv => whnf)
    | (refine ⟨fun h => absurd h (by decide), fun _ => ?_⟩; conv => whnf)
    | (refine ⟨fun _ => ?_, fun h => absurd (by decide) h⟩; conv => whnf)
    | (refine hK _ _ _ _ _ (zJ_at h0 1000 zo_X6_init rfl fun K hK => ?_); conv => whnf))
  refine ⟨13, 140, ⟨Nat.le_trans (Nat.le_of_ble_eq_true rfl) h1, Nat.le_trans (Nat.le_of_ble_eq_true rfl) h2⟩, c_Tok h0 (by omega) (Nat.le_refl _) (Nat.le_refl _) ?_⟩
  refine ⟨rfl, ?_⟩
  conv => whnf
  repeat' (first
    | (refine ⟨by first | rfl | exact trivial | exact Nat.le_trans (Nat.le_of_ble_eq_true rfl) h1 | exact Nat.le_trans (Nat.le_of_ble_eq_true rfl) h2 | exact Nat.le_trans (Nat.le_of_ble_eq_true rfl) hd | exact zmem rfl rfl | exact zmna rfl | decide | (unfold vp_in; decide) | exact Nat.le_of_ble_eq_true rfl | exact ⟨rfl, Or.inl rfl⟩ | exact Or.inl ⟨rfl, rfl⟩ | exact Or.inr (Or.inl ⟨rfl, rfl⟩) | exact Or.inr (Or.inr ⟨rfl, rfl⟩), ?_⟩; conv => whnf)
    | (refine ⟨fun h => absurd h (by decide), fun _ => ?_⟩; conv => whnf)
    | (refine ⟨fun _ => ?_, fun h => absurd (by decide) h⟩; conv => whnf)
    | (refine hK _ _ _ _ _ (zJ_at h0 1000 zo_X6_init rfl fun K hK => ?_); conv => whnf))
  refine ⟨38, 184, ⟨Nat.le_trans (Nat.le_of_ble_eq_true rfl) h1, Nat.le_trans (Nat.le_of_ble_eq_true rfl) h2⟩, c_Cmp h0 (by omega) (Nat.le_refl _) (Nat.le_refl _) ?_⟩
  refine ⟨rfl, ?_⟩
  conv => whnf
  repeat' (first
    | (refine ⟨by first | rfl | exact trivial | exact Nat.le_trans (Nat.le_of_ble_eq_true rfl) h1 | exact Nat.le_trans (Nat.le_of_ble_eq_true rfl) h2 | exact Nat.le_trans (Nat.le_of_ble_eq_true rfl) hd | exact zmem rfl rfl | exact zmna rfl | decide | (unfold vp_in; decide) | exact Nat.le_of_ble_eq_true rfl | exact ⟨rfl, Or.inl rfl⟩ | exact Or.inl ⟨rfl, rfl⟩ | exact Or.inr (Or.inl ⟨rfl, rfl⟩) | exact Or.inr (Or.inr ⟨rfl, rfl⟩), ?_⟩; conv => whnf)
    | (refine ⟨fun h => absurd h (by decide), fun _ => ?_⟩; conv => whnf)
    | (refine ⟨fun _ => ?_, fun h => absurd (by decide) h⟩; conv => whnf)
    | (refine hK _ _ _ _ _ (zJ_at h0 1000 zo_X6_init rfl fun K hK => ?_); conv => whnf))
  refine ⟨15, 360, ⟨Nat.le_trans (Nat.le_of_ble_eq_true rfl) h1, Nat.le_trans (Nat.le_of_ble_eq_true rfl) h2⟩, c_Page0 h0 (by omega) (Nat.le_refl _) (Nat.le_refl _) ?_⟩
  refine ⟨rfl, ?_⟩
  conv => whnf
  repeat' (first
    | (refine ⟨by first | rfl | exact trivial | exact Nat.le_trans (Nat.le_of_ble_eq_true rfl) h1 | exact Nat.le_trans (Nat.le_of_ble_eq_true rfl) h2 | exact Nat.le_trans (Nat.le_of_ble_eq_true rfl) hd | exact zmem rfl rfl | exact zmna rfl | decide | (unfold vp_in; decide) | exact Nat.le_of_ble_eq_true rfl | exact ⟨rfl, Or.inl rfl⟩ | exact Or.inl ⟨rfl, rfl⟩ | exact Or.inr (Or.inl ⟨rfl, rfl⟩) | exact Or.inr (Or.inr ⟨rfl, rfl⟩), ?_⟩; conv => whnf)
    | (refine ⟨fun h => absurd h (by decide), fun _ => ?_⟩; conv => whnf)
    | (refine ⟨fun _ => ?_, fun h => absurd (by decide) h⟩; conv => whnf)
    | (refine hK _ _ _ _ _ (zJ_at h0 1000 zo_X6_init rfl fun K hK => ?_); conv => whnf))
  refine ⟨15, 360, ⟨Nat.le_trans (Nat.le_of_ble_eq_true rfl) h1, Nat.le_trans (Nat.le_of_ble_eq_true rfl) h2⟩, c_Page1 h0 (by omega) (Nat.le_refl _) (Nat.le_refl _) ?_⟩
  refine ⟨rfl, ?_⟩
  conv => whnf
  repeat' (first
    | (refine ⟨by first | rfl | exact trivial | exact Nat.le_trans (Nat.le_of_ble_eq_true rfl) h1 | exact Nat.le_trans (Nat.le_of_ble_eq_true rfl) h2 | exact Nat.le_trans (Nat.le_of_ble_eq_true rfl) hd | exact zmem rfl rfl | exact zmna rfl | decide | (unfold vp_in; decide) | exact Nat.le_of_ble_eq_true rfl | exact ⟨rfl, Or.inl rfl⟩ | exact Or.inl ⟨rfl, rfl⟩ | exact Or.inr (Or.inl ⟨rfl, rfl⟩) | exact Or.inr (Or.inr ⟨rfl, rfl⟩), ?_⟩; conv => whnf)
    | (refine ⟨fun h => absurd h (by decide), fun _ => ?_⟩; conv => whnf)
    | (refine ⟨fun _ => ?_, fun h => absurd (by decide) h⟩; conv => whnf)
    | (refine hK _ _ _ _ _ (zJ_at h0 1000 zo_X6_init rfl fun K hK => ?_); conv => whnf))
  refine ⟨15, 360, ⟨Nat.le_trans (Nat.le_of_ble_eq_true rfl) h1, Nat.le_trans (Nat.le_of_ble_eq_true rfl) h2⟩, c_Page2 h0 (by omega) (Nat.le_refl _) (Nat.le_refl _) ?_⟩
  refine ⟨rfl, ?_⟩
  conv => whnf
  repeat' (first
    | (refine ⟨by first | rfl | exact trivial | exact Nat.le_trans (Nat.le_of_ble_eq_true rfl) h1 | exact Nat.le_trans (Nat.le_of_ble_eq_true rfl) h2 | exact Nat.le_trans (Nat.le_of_ble_eq_true rfl) hd | exact zmem rfl rfl | exact zmna rfl | decide | (unfold vp_in; decide) | exact Nat.le_of_ble_eq_true rfl | exact ⟨rfl, Or.inl rfl⟩ | exact Or.inl ⟨rfl, rfl⟩ | exact Or.inr (Or.inl ⟨rfl, rfl⟩) | exact Or.inr (Or.inr ⟨rfl, rfl⟩), ?_⟩; conv => whnf)
    | (refine ⟨fun h => absurd h (by decide), fun _ => ?_⟩; conv => whnf)
    | (refine ⟨fun _ => ?_, fun h => absurd (by decide) h⟩; conv => whnf)
    | (refine hK _ _ _ _ _ (zJ_at h0 1000 zo_X6_init rfl fun K hK => ?_); conv => whnf))
  refine ⟨15, 360, ⟨Nat.le_trans (Nat.le_of_ble_eq_true rfl) h1, Nat.le_trans (Nat.le_of_ble_eq_true rfl) h2⟩, c_Page3 h0 (by omega) (Nat.le_refl _) (Nat.le_refl _) ?_⟩
  refine ⟨rfl, ?_⟩
  conv => whnf
  repeat' (first
    | (refine ⟨by first | rfl | exact trivial | exact Nat.le_trans (Nat.le_of_ble_eq_true rfl) h1 | exact Nat.le_trans (Nat.le_of_ble_eq_true rfl) h2 | exact Nat.le_trans (Nat.le_of_ble_eq_true rfl) hd | exact zmem rfl rfl | exact zmna rfl | decide | (unfold vp_in; decide) | exact Nat.le_of_ble_eq_true rfl | exact ⟨rfl, Or.inl rfl⟩ | exact Or.inl ⟨rfl, rfl⟩ | exact Or.inr (Or.inl ⟨rfl, rfl⟩) | exact Or.inr (Or.inr ⟨rfl, rfl⟩), ?_⟩; conv => whnf)
    | (refine ⟨fun h => absurd h (by decide), fun _ => ?_⟩; conv => whnf)
    | (refine ⟨fun _ => ?_, fun h => absurd (by decide) h⟩; conv => whnf)
    | (refine hK _ _ _ _ _ (zJ_at h0 1000 zo_X6_init rfl fun K hK => ?_); conv => whnf))
  refine ⟨0, 0, ⟨Nat.le_trans (Nat.le_of_ble_eq_true rfl) h1, Nat.le_trans (Nat.le_of_ble_eq_true rfl) h2⟩, c_Lim h0 (Nat.le_refl _) (Nat.le_refl _) ?_⟩
  refine ⟨rfl, ?_⟩
  conv => whnf
  repeat' (first
    | (refine ⟨by first | rfl | exact trivial | exact Nat.le_trans (Nat.le_of_ble_eq_true rfl) h1 | exact Nat.le_trans (Nat.le_of_ble_eq_true rfl) h2 | exact Nat.le_trans (Nat.le_of_ble_eq_true rfl) hd | exact zmem rfl rfl | exact zmna rfl | decide | (unfold vp_in; decide) | exact Nat.le_of_ble_eq_true rfl | exact ⟨rfl, Or.inl rfl⟩ | exact Or.inl ⟨rfl, rfl⟩ | exact Or.inr (Or.inl ⟨rfl, rfl⟩) | exact Or.inr (Or.inr ⟨rfl, rfl⟩), ?_⟩; conv => whnf)
    | (refine ⟨fun h => absurd h (by decide), fun _ => ?_⟩; conv => whnf)
    | (refine ⟨fun _ => ?_, fun h => absurd (by decide) h⟩; conv => whnf)
    | (refine hK _ _ _ _ _ (zJ_at h0 1000 zo_X6_init rfl fun K hK => ?_); conv => whnf))
  refine ⟨2, 74, ⟨Nat.le_trans (Nat.le_of_ble_eq_true rfl) h1, Nat.le_trans (Nat.le_of_ble_eq_true rfl) h2⟩, c_Snap0 h0 (by omega) (Nat.le_refl _) (Nat.le_refl _) ?_⟩
  refine ⟨rfl, ?_⟩
  conv => whnf
  repeat' (first
    | (refine ⟨by first | rfl | exact trivial | exact Nat.le_trans (Nat.le_of_ble_eq_true rfl) h1 | exact Nat.le_trans (Nat.le_of_ble_eq_true rfl) h2 | exact Nat.le_trans (Nat.le_of_ble_eq_true rfl) hd | exact zmem rfl rfl | exact zmna rfl | decide | (unfold vp_in; decide) | exact Nat.le_of_ble_eq_true rfl | exact ⟨rfl, Or.inl rfl⟩ | exact Or.inl ⟨rfl, rfl⟩ | exact Or.inr (Or.inl ⟨rfl, rfl⟩) | exact Or.inr (Or.inr ⟨rfl, rfl⟩), ?_⟩; conv => whnf)
    | (refine ⟨fun h => absurd h (by decide), fun _ => ?_⟩; conv => whnf)
    | (refine ⟨fun _ => ?_, fun h => absurd (by decide) h⟩; conv => whnf)
    | (refine hK _ _ _ _ _ (zJ_at h0 1000 zo_X6_init rfl fun K hK => ?_); conv => whnf))
  refine ⟨2, 74, ⟨Nat.le_trans (Nat.le_of_ble_eq_true rfl) h1, Nat.le_trans (Nat.le_of_ble_eq_true rfl) h2⟩, c_Snap1 h0 (by omega) (Nat.le_refl _) (Nat.le_refl _) ?_⟩
  refine ⟨rfl, ?_⟩
  conv => whnf
  repeat' (first
    | (refine ⟨by first | rfl | exact trivial | exact Nat.le_trans (Nat.le_of_ble_eq_true rfl) h1 | exact Nat.le_trans (Nat.le_of_ble_eq_true rfl) h2 | exact Nat.le_trans (Nat.le_of_ble_eq_true rfl) hd | exact zmem rfl rfl | exact zmna rfl | decide | (unfold vp_in; decide) | exact Nat.le_of_ble_eq_true rfl | exact ⟨rfl, Or.inl rfl⟩ | exact Or.inl ⟨rfl, rfl⟩ | exact Or.inr (Or.inl ⟨rfl, rfl⟩) | exact Or.inr (Or.inr ⟨rfl, rfl⟩), ?_⟩; conv => whnf)
    | (refine ⟨fun h => absurd h (by decide), fun _ => ?_⟩; conv => whnf)
    | (refine ⟨fun _ => ?_, fun h => absurd (by decide) h⟩; conv => whnf)
    | (refine hK _ _ _ _ _ (zJ_at h0 1000 zo_X6_init rfl fun K hK => ?_); conv => whnf))
  refine ⟨2, 74, ⟨Nat.le_trans (Nat.le_of_ble_eq_true rfl) h1, Nat.le_trans (Nat.le_of_ble_eq_true rfl) h2⟩, c_Snap2 h0 (by omega) (Nat.le_refl _) (Nat.le_refl _) ?_⟩
  refine ⟨rfl, ?_⟩
  conv => whnf
  repeat' (first
    | (refine ⟨by first | rfl | exact trivial | exact Nat.le_trans (Nat.le_of_ble_eq_true rfl) h1 | exact Nat.le_trans (Nat.le_of_ble_eq_true rfl) h2 | exact Nat.le_trans (Nat.le_of_ble_eq_true rfl) hd | exact zmem rfl rfl | exact zmna rfl | decide | (unfold vp_in; decide) | exact Nat.le_of_ble_eq_true rfl | exact ⟨rfl, Or.inl rfl⟩ | exact Or.inl ⟨rfl, rfl⟩ | exact Or.inr (Or.inl ⟨rfl, rfl⟩) | exact Or.inr (Or.inr ⟨rfl, rfl⟩), ?_⟩; conv => whnf)
    | (refine ⟨fun h => absurd h (by decide), fun _ => ?_⟩; conv => whnf)
    | (refine ⟨fun _ => ?_, fun h => absurd (by decide) h⟩; conv => whnf)
    | (refine hK _ _ _ _ _ (zJ_at h0 1000 zo_X6_init rfl fun K hK => ?_); conv => whnf))
  refine ⟨2, 74, ⟨Nat.le_trans (Nat.le_of_ble_eq_true rfl) h1, Nat.le_trans (Nat.le_of_ble_eq_true rfl) h2⟩, c_Snap3 h0 (by omega) (Nat.le_refl _) (Nat.le_refl _) ?_⟩
  refine ⟨rfl, ?_⟩
  conv => whnf
  repeat' (first
    | (refine ⟨by first | rfl | exact trivial | exact Nat.le_trans (Nat.le_of_ble_eq_true rfl) h1 | exact Nat.le_trans (Nat.le_of_ble_eq_true rfl) h2 | exact Nat.le_trans (Nat.le_of_ble_eq_true rfl) hd | exact zmem rfl rfl | exact zmna rfl | decide | (unfold vp_in; decide) | exact Nat.le_of_ble_eq_true rfl | exact ⟨rfl, Or.inl rfl⟩ | exact Or.inl ⟨rfl, rfl⟩ | exact Or.inr (Or.inl ⟨rfl, rfl⟩) | exact Or.inr (Or.inr ⟨rfl, rfl⟩), ?_⟩; conv => whnf)
    | (refine ⟨fun h => absurd h (by decide), fun _ => ?_⟩; conv => whnf)
    | (refine ⟨fun _ => ?_, fun h => absurd (by decide) h⟩; conv => whnf)
    | (refine hK _ _ _ _ _ (zJ_at h0 1000 zo_X6_init rfl fun K hK => ?_); conv => whnf))
  refine ⟨2, 74, ⟨Nat.le_trans (Nat.le_of_ble_eq_true rfl) h1, Nat.le_trans (Nat.le_of_ble_eq_true rfl) h2⟩, c_Snap4 h0 (by omega) (Nat.le_refl _) (Nat.le_refl _) ?_⟩
  refine ⟨rfl, ?_⟩
  conv => whnf
  repeat' (first
    | (refine ⟨by first | rfl | exact trivial | exact Nat.le_trans (Nat.le_of_ble_eq_true rfl) h1 | exact Nat.le_trans (Nat.le_of_ble_eq_true rfl) h2 | exact Nat.le_trans (Nat.le_of_ble_eq_true rfl) hd | exact zmem rfl rfl | exact zmna rfl | decide | (unfold vp_in; decide) | exact Nat.le_of_ble_eq_true rfl | exact ⟨rfl, Or.inl rfl⟩ | exact Or.inl ⟨rfl, rfl⟩ | exact Or.inr (Or.inl ⟨rfl, rfl⟩) | exact Or.inr (Or.inr ⟨rfl, rfl⟩), ?_⟩; conv => whnf)
    | (refine ⟨fun h => absurd h (by decide), fun _ => ?_⟩; conv => whnf)
    | (refine ⟨fun _ => ?_, fun h => absurd (by decide) h⟩; conv => whnf)
    | (refine hK _ _ _ _ _ (zJ_at h0 1000 zo_X6_init rfl fun K hK => ?_); conv => whnf))
  refine ⟨2, 74, ⟨Nat.le_trans (Nat.le_of_ble_eq_true rfl) h1, Nat.le_trans (Nat.le_of_ble_eq_true rfl) h2⟩, c_Snap5 h0 (by omega) (Nat.le_refl _) (Nat.le_refl _) ?_⟩
  refine ⟨rfl, ?_⟩
  conv => whnf
  repeat' (first
    | (refine ⟨by first | rfl | exact trivial | exact Nat.le_trans (Nat.le_of_ble_eq_true rfl) h1 | exact Nat.le_trans (Nat.le_of_ble_eq_true rfl) h2 | exact Nat.le_trans (Nat.le_of_ble_eq_true rfl) hd | exact zmem rfl rfl | exact zmna rfl | decide | (unfold vp_in; decide) | exact Nat.le_of_ble_eq_true rfl | exact ⟨rfl, Or.inl rfl⟩ | exact Or.inl ⟨rfl, rfl⟩ | exact Or.inr (Or.inl ⟨rfl, rfl⟩) | exact Or.inr (Or.inr ⟨rfl, rfl⟩), ?_⟩; conv => whnf)
    | (refine ⟨fun h => absurd h (by decide), fun _ => ?_⟩; conv => whnf)
    | (refine ⟨fun _ => ?_, fun h => absurd (by decide) h⟩; conv => whnf)
    | (refine hK _ _ _ _ _ (zJ_at h0 1000 zo_X6_init rfl fun K hK => ?_); conv => whnf))
  refine ⟨2, 74, ⟨Nat.le_trans (Nat.le_of_ble_eq_true rfl) h1, Nat.le_trans (Nat.le_of_ble_eq_true rfl) h2⟩, c_Snap6 h0 (by omega) (Nat.le_refl _) (Nat.le_refl _) ?_⟩
  refine ⟨rfl, ?_⟩
  conv => whnf
  repeat' (first
    | (refine ⟨by first | rfl | exact trivial | exact Nat.le_trans (Nat.le_of_ble_eq_true rfl) h1 | exact Nat.le_trans (Nat.le_of_ble_eq_true rfl) h2 | exact Nat.le_trans (Nat.le_of_ble_eq_true rfl) hd | exact zmem rfl rfl | exact zmna rfl | decide | (unfold vp_in; decide) | exact Nat.le_of_ble_eq_true rfl | exact ⟨rfl, Or.inl rfl⟩ | exact Or.inl ⟨rfl, rfl⟩ | exact Or.inr (Or.inl ⟨rfl, rfl⟩) | exact Or.inr (Or.inr ⟨rfl, rfl⟩), ?_⟩; conv => whnf)
    | (refine ⟨fun h => absurd h (by decide), fun _ => ?_⟩; conv => whnf)
    | (refine ⟨fun _ => ?_, fun h => absurd (by decide) h⟩; conv => whnf)
    | (refine hK _ _ _ _ _ (zJ_at h0 1000 zo_X6_init rfl fun K hK => ?_); conv => whnf))
  refine ⟨2, 74, ⟨Nat.le_trans (Nat.le_of_ble_eq_true rfl) h1, Nat.le_trans (Nat.le_of_ble_eq_true rfl) h2⟩, c_Snap7 h0 (by omega) (Nat.le_refl _) (Nat.le_refl _) ?_⟩
  refine ⟨rfl, ?_⟩
  conv => whnf
  repeat' (first
    | (refine ⟨by first | rfl | exact trivial | exact Nat.le_trans (Nat.le_of_ble_eq_true rfl) h1 | exact Nat.le_trans (Nat.le_of_ble_eq_true rfl) h2 | exact Nat.le_trans (Nat.le_of_ble_eq_true rfl) hd | exact zmem rfl rfl | exact zmna rfl | decide | (unfold vp_in; decide) | exact Nat.le_of_ble_eq_true rfl | exact ⟨rfl, Or.inl rfl⟩ | exact Or.inl ⟨rfl, rfl⟩ | exact Or.inr (Or.inl ⟨rfl, rfl⟩) | exact Or.inr (Or.inr ⟨rfl, rfl⟩), ?_⟩; conv => whnf)
    | (refine ⟨fun h => absurd h (by decide), fun _ => ?_⟩; conv => whnf)
    | (refine ⟨fun _ => ?_, fun h => absurd (by decide) h⟩; conv => whnf)
    | (refine hK _ _ _ _ _ (zJ_at h0 1000 zo_X6_init rfl fun K hK => ?_); conv => whnf))
  refine ⟨1, 72, ⟨Nat.le_trans (Nat.le_of_ble_eq_true rfl) h1, Nat.le_trans (Nat.le_of_ble_eq_true rfl) h2⟩, c_View h0 rfl (zmem rfl rfl) (Nat.le_refl _) (Nat.le_refl _) ?_⟩
  refine ⟨rfl, ?_⟩
  conv => whnf
  repeat' (first
    | (refine ⟨by first | rfl | exact trivial | exact Nat.le_trans (Nat.le_of_ble_eq_true rfl) h1 | exact Nat.le_trans (Nat.le_of_ble_eq_true rfl) h2 | exact Nat.le_trans (Nat.le_of_ble_eq_true rfl) hd | exact zmem rfl rfl | exact zmna rfl | decide | (unfold vp_in; decide) | exact Nat.le_of_ble_eq_true rfl | exact ⟨rfl, Or.inl rfl⟩ | exact Or.inl ⟨rfl, rfl⟩ | exact Or.inr (Or.inl ⟨rfl, rfl⟩) | exact Or.inr (Or.inr ⟨rfl, rfl⟩), ?_⟩; conv => whnf)
    | (refine ⟨fun h => absurd h (by decide), fun _ => ?_⟩; conv => whnf)
    | (refine ⟨fun _ => ?_, fun h => absurd (by decide) h⟩; conv => whnf)
    | (refine hK _ _ _ _ _ (zJ_at h0 1000 zo_X6_init rfl fun K hK => ?_); conv => whnf))
  exact hk
abbrev eModel (M : zM) : zM := (zevs [(1, (40, 0, 0), 35, (66, 0, 0), 0), (0, (66, 0, 0), 0, (0, 0, 0), 0), (1, (40, 0, 0), 34, (65, 0, 0), 0), (0, (65, 0, 0), 0, (0, 0, 0), 0), (1, (40, 0, 0), 33, (64, 0, 0), 0), (0, (64, 0, 0), 0, (0, 0, 0), 0), (1, (40, 0, 0), 32, (63, 0, 0), 0), (0, (63, 0, 0), 0, (0, 0, 0), 0), (1, (40, 0, 0), 30, (62, 0, 0), 0), (0, (62, 0, 0), 0, (0, 0, 0), 0), (1, (40, 0, 0), 29, (61, 0, 0), 0), (0, (61, 0, 0), 0, (0, 0, 0), 0), (1, (40, 0, 0), 28, (60, 0, 0), 0), (0, (60, 0, 0), 0, (0, 0, 0), 0), (1, (40, 0, 0), 26, (59, 0, 0), 0), (0, (59, 0, 0), 0, (0, 0, 0), 0), (1, (40, 0, 0), 25, (58, 0, 0), 0), (0, (58, 0, 0), 0, (0, 0, 0), 0), (1, (40, 0, 0), 24, (57, 0, 0), 0), (0, (57, 0, 0), 0, (0, 0, 0), 0), (1, (40, 0, 0), 23, (56, 0, 0), 0), (0, (56, 0, 0), 0, (0, 0, 0), 0), (2, (40, 0, 0), 21, (0, 0, 0), 72), (2, (40, 0, 0), 20, (0, 0, 0), 8), (2, (40, 0, 0), 19, (0, 0, 0), 30), (1, (40, 0, 0), 18, (55, 0, 0), 0), (0, (55, 0, 0), 0, (0, 0, 0), 0), (1, (40, 0, 0), 17, (54, 0, 0), 0), (0, (54, 0, 0), 0, (0, 0, 0), 0), (1, (40, 0, 0), 16, (53, 0, 0), 0), (0, (53, 0, 0), 0, (0, 0, 0), 0), (1, (40, 0, 0), 15, (52, 0, 0), 0), (0, (52, 0, 0), 0, (0, 0, 0), 0), (1, (40, 0, 0), 14, (51, 0, 0), 0), (0, (51, 0, 0), 0, (0, 0, 0), 0), (1, (40, 0, 0), 13, (50, 0, 0), 0), (0, (50, 0, 0), 0, (0, 0, 0), 0), (1, (40, 0, 0), 12, (49, 0, 0), 0), (0, (49, 0, 0), 0, (0, 0, 0), 0), (1, (40, 0, 0), 11, (48, 0, 0), 0), (0, (48, 0, 0), 0, (0, 0, 0), 0), (1, (40, 0, 0), 9, (47, 0, 0), 0), (0, (47, 0, 0), 0, (0, 0, 0), 0), (1, (40, 0, 0), 8, (46, 0, 0), 0), (0, (46, 0, 0), 0, (0, 0, 0), 0), (1, (40, 0, 0), 7, (45, 0, 0), 0), (0, (45, 0, 0), 0, (0, 0, 0), 0), (1, (40, 0, 0), 6, (44, 0, 0), 0), (0, (44, 0, 0), 0, (0, 0, 0), 0), (2, (40, 0, 0), 4, (0, 0, 0), 1), (1, (40, 0, 0), 3, (43, 0, 0), 0), (2, (43, 0, 0), 11, (0, 0, 0), (-1)), (2, (43, 0, 0), 10, (0, 0, 0), (-1)), (2, (43, 0, 0), 9, (0, 0, 0), (-1)), (2, (43, 0, 0), 8, (0, 0, 0), (-1)), (2, (43, 0, 0), 7, (0, 0, 0), (-1)), (2, (43, 0, 0), 6, (0, 0, 0), (-1)), (2, (43, 0, 0), 5, (0, 0, 0), (-1)), (2, (43, 0, 0), 4, (0, 0, 0), (-1)), (2, (43, 0, 0), 3, (0, 0, 0), (-1)), (2, (43, 0, 0), 2, (0, 0, 0), (-1)), (2, (43, 0, 0), 1, (0, 0, 0), (-1)), (2, (43, 0, 0), 0, (0, 0, 0), (-1)), (0, (43, 0, 0), 0, (0, 0, 0), 0), (1, (40, 0, 0), 2, (42, 0, 0), 0), (0, (42, 0, 0), 0, (0, 0, 0), 0), (1, (40, 0, 0), 1, (41, 0, 0), 0), (0, (41, 0, 0), 0, (0, 0, 0), 0)] M)
set_option maxRecDepth 100000 in
theorem c_Model (h0 : zOk E) (h1 : 26 ≤ mc) (h2 : 1872 ≤ ms) (hk : kr none (eModel (σ, l, δ, ρ, 148))) : zC E zm_X7_init d mc ms [.inr (40, 0, 0)] (σ, l, δ, ρ, 148) kr kx := by
  refine zC_of h0 (by decide +kernel) (Nat.le_of_ble_eq_true rfl) (Or.inl rfl) (zJ_at h0 1000 zo_X7_init rfl fun K hK => ?_)
  conv => whnf
  repeat' (first
    | (refine ⟨fun h => absurd h (by decide), fun _ => ?_⟩; conv => whnf)
    | (refine ⟨fun _ => ?_, fun h => absurd (by decide) h⟩; conv => whnf)
    | (refine ⟨by first | rfl | exact trivial | exact Nat.le_trans (Nat.le_of_ble_eq_true rfl) h1 | exact Nat.le_trans (Nat.le_of_ble_eq_true rfl) h2 | exact zmem rfl rfl | exact zmna rfl | decide | (unfold vp_in; decide) | exact Nat.le_of_ble_eq_true rfl | exact ⟨rfl, Or.inl rfl⟩ | exact Or.inl ⟨rfl, rfl⟩ | exact Or.inr (Or.inl ⟨rfl, rfl⟩) | exact Or.inr (Or.inr ⟨rfl, rfl⟩), ?_⟩; conv => whnf)
    | (refine hK _ _ _ _ _ (zJ_at h0 1000 zo_X7_init rfl fun K hK => ?_); conv => whnf))
  exact hk
end CT
