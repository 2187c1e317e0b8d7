/-! ===== the relation kept by each change ===== -/
def adL (S : zS) (n y : Nat) : zS := fun k i j x => if k = 42 ∧ i = 0 ∧ j = 0 ∧ 12 ≤ x ∧ x < 12 * y ∧ x % 12 = n then -1 else S k i j x
def adO (S : zS) (n y : Nat) : zS := fun k i j x => if k = 51 ∧ i = 0 ∧ j = 0 ∧ x < 12 * y ∧ x % 12 = n then -1 else S k i j x
theorem adL_s {S : zS} {n y : Nat} (hn : n < 12) (hy : 1 ≤ y) : zu (adL S n y) 42 0 0 (12 * y + n) (-1) = adL S n (y + 1) := by
  funext k i j x
  unfold zu adL
  by_cases c : k = 42 ∧ i = 0 ∧ j = 0 ∧ x = 12 * y + n
  · rw [if_pos c, if_pos (by omega)]
  · rw [if_neg c]
    by_cases c2 : k = 42 ∧ i = 0 ∧ j = 0 ∧ 12 ≤ x ∧ x < 12 * y ∧ x % 12 = n
    · rw [if_pos c2, if_pos (by omega)]
    · rw [if_neg c2, if_neg (by omega)]
theorem adO_s {S : zS} {n y : Nat} (hn : n < 12) : zu (adO S n y) 51 0 0 (12 * y + n) (-1) = adO S n (y + 1) := by
  funext k i j x
  unfold zu adO
  by_cases c : k = 51 ∧ i = 0 ∧ j = 0 ∧ x = 12 * y + n
  · rw [if_pos c, if_pos (by omega)]
  · rw [if_neg c]
    by_cases c2 : k = 51 ∧ i = 0 ∧ j = 0 ∧ x < 12 * y ∧ x % 12 = n
    · rw [if_pos c2, if_pos (by omega)]
    · rw [if_neg c2, if_neg (by omega)]
/-- the model with a token more -/
def atM (S : zS) (n : Nat) (a b : Int) : zS := zu (adO (adL (zu (zu S 41 0 0 n a) 42 0 0 n b) n 4) n 4) 40 0 0 0 (n + 1)
theorem RM_at {G S : zS} (hR : RM G S) (hG : inv0 G) (hU : invU G) {n : Nat} (hn : G 1 0 0 0 = n) (hn2 : n < 12) {a b : Int} : RM (atS G n a b) (atM S n a b) := by
  have h : eqq (fun k _ _ m => (k = 1 ∧ m = 0) ∨ k = 2 ∨ k = 6) G (atS G n a b) := fun k i j m hk => by
    unfold atS zu
    rw [if_neg (by omega), if_neg (by omega), if_neg (by omega)]
  have hS : eqq (fun k _ _ m => (k = 40 ∧ m = 0) ∨ k = 41 ∨ k = 42 ∨ k = 51) S (atM S n a b) := fun k i j m hk => by
    unfold atM adO adL zu
    dsimp only
    rw [if_neg (by omega), if_neg (by omega), if_neg (by omega), if_neg (by omega), if_neg (by omega)]
  have g10 : atS G n a b 1 0 0 0 = n + 1 := zu_s
  have g2 : ∀ t, atS G n a b 2 0 0 t = if t = n then a else G 2 0 0 t := fun t => by
    unfold atS
    rw [zu_k (by decide), zu_k (by decide)]
    by_cases c : t = n
    · subst c; rw [zu_s, if_pos rfl]
    · rw [zu_n c, if_neg c]
  have g6 : ∀ r t, atS G n a b 6 r 0 t = if r = 0 ∧ t = n then b else G 6 r 0 t := fun r t => by
    unfold atS
    rw [zu_k (by decide)]
    by_cases c : r = 0 ∧ t = n
    · obtain ⟨rfl, rfl⟩ := c; rw [zu_s, if_pos ⟨rfl, rfl⟩]
    · rw [if_neg c]
      exact (if_neg (by omega)).trans (zu_k (by decide))
  have s0 : atM S n a b 40 0 0 0 = n + 1 := zu_s
  have s41 : ∀ t, atM S n a b 41 0 0 t = if t = n then a else S 41 0 0 t := fun t => by
    unfold atM adO adL zu
    dsimp only
    rw [if_neg (by omega), if_neg (by omega), if_neg (by omega), if_neg (by omega)]
    by_cases c : t = n
    · rw [if_pos ⟨rfl, rfl, rfl, c⟩, if_pos c]
    · rw [if_neg (by omega), if_neg c]
  have s42 : ∀ x, atM S n a b 42 0 0 x = if 12 ≤ x ∧ x < 48 ∧ x % 12 = n then -1 else if x = n then b else S 42 0 0 x := fun x => by
    unfold atM adO adL zu
    dsimp only
    rw [if_neg (by omega), if_neg (by omega)]
    by_cases c : 12 ≤ x ∧ x < 48 ∧ x % 12 = n
    · rw [if_pos c, if_pos (by omega)]
    · rw [if_neg c, if_neg (by omega)]
      by_cases c2 : x = n
      · rw [if_pos c2, if_pos ⟨rfl, rfl, rfl, c2⟩]
      · rw [if_neg c2, if_neg (by omega), if_neg (by omega)]
  have s51 : ∀ x, atM S n a b 51 0 0 x = if x < 48 ∧ x % 12 = n then -1 else S 51 0 0 x := fun x => by
    unfold atM adO adL zu
    dsimp only
    rw [if_neg (by omega)]
    by_cases c : x < 48 ∧ x % 12 = n
    · rw [if_pos c, if_pos (by omega)]
    · rw [if_neg c, if_neg (by omega), if_neg (by omega), if_neg (by omega), if_neg (by omega)]
  have f1_1 : (atS G n a b) 1 0 0 1 = G 1 0 0 1 := h _ _ _ _ (by omega)
  have f0_3 : (atS G n a b) 0 0 0 3 = G 0 0 0 3 := h _ _ _ _ (by omega)
  have f0_6 : (atS G n a b) 0 0 0 6 = G 0 0 0 6 := h _ _ _ _ (by omega)
  have f9 : (atS G n a b) 9 0 0 0 = G 9 0 0 0 := h _ _ _ _ (by omega)
  have f31 : ∀ x1, (atS G n a b) 31 0 0 x1 = G 31 0 0 x1 := fun x1 => h _ _ _ _ (by omega)
  have f3 : ∀ x1, (atS G n a b) 3 0 0 x1 = G 3 0 0 x1 := fun x1 => h _ _ _ _ (by omega)
  have f11 : ∀ x1 x2, (atS G n a b) 11 x1 0 x2 = G 11 x1 0 x2 := fun x1 x2 => h _ _ _ _ (by omega)
  have f15 : ∀ x1 x2, (atS G n a b) 15 x1 0 x2 = G 15 x1 0 x2 := fun x1 x2 => h _ _ _ _ (by omega)
  have f22 : ∀ x1 x2, (atS G n a b) 22 x1 0 x2 = G 22 x1 0 x2 := fun x1 x2 => h _ _ _ _ (by omega)
  have f23 : ∀ x1 x2, (atS G n a b) 23 x1 0 x2 = G 23 x1 0 x2 := fun x1 x2 => h _ _ _ _ (by omega)
  have f24 : ∀ x1 x2, (atS G n a b) 24 x1 0 x2 = G 24 x1 0 x2 := fun x1 x2 => h _ _ _ _ (by omega)
  have f33 : ∀ x1 x2, (atS G n a b) 33 0 x1 x2 = G 33 0 x1 x2 := fun x1 x2 => h _ _ _ _ (by omega)
  have f29 : ∀ x1 x2 x3, (atS G n a b) 29 x1 x2 x3 = G 29 x1 x2 x3 := fun x1 x2 x3 => h _ _ _ _ (by omega)
  have f30 : ∀ x1 x2 x3, (atS G n a b) 30 x1 x2 x3 = G 30 x1 x2 x3 := fun x1 x2 x3 => h _ _ _ _ (by omega)
  have f21_0 : ∀ x1, (atS G n a b) 21 x1 0 0 = G 21 x1 0 0 := fun x1 => h _ _ _ _ (by omega)
  have f21_8 : ∀ x1, (atS G n a b) 21 x1 0 8 = G 21 x1 0 8 := fun x1 => h _ _ _ _ (by omega)
  have f21_9 : ∀ x1, (atS G n a b) 21 x1 0 9 = G 21 x1 0 9 := fun x1 => h _ _ _ _ (by omega)
  have u4 : (atM S n a b) 40 0 0 4 = S 40 0 0 4 := hS _ _ _ _ (by omega)
  have u5 : (atM S n a b) 40 0 0 5 = S 40 0 0 5 := hS _ _ _ _ (by omega)
  have u10 : (atM S n a b) 40 0 0 10 = S 40 0 0 10 := hS _ _ _ _ (by omega)
  have u19 : (atM S n a b) 40 0 0 19 = S 40 0 0 19 := hS _ _ _ _ (by omega)
  have u20 : (atM S n a b) 40 0 0 20 = S 40 0 0 20 := hS _ _ _ _ (by omega)
  have u21 : (atM S n a b) 40 0 0 21 = S 40 0 0 21 := hS _ _ _ _ (by omega)
  have u22 : (atM S n a b) 40 0 0 22 = S 40 0 0 22 := hS _ _ _ _ (by omega)
  have u43 : ∀ x1, (atM S n a b) 43 0 0 x1 = S 43 0 0 x1 := fun x1 => hS _ _ _ _ (by omega)
  have u44 : ∀ x1, (atM S n a b) 44 0 0 x1 = S 44 0 0 x1 := fun x1 => hS _ _ _ _ (by omega)
  have u45 : ∀ x1, (atM S n a b) 45 0 0 x1 = S 45 0 0 x1 := fun x1 => hS _ _ _ _ (by omega)
  have u46 : ∀ x1, (atM S n a b) 46 0 0 x1 = S 46 0 0 x1 := fun x1 => hS _ _ _ _ (by omega)
  have u47 : ∀ x1, (atM S n a b) 47 0 0 x1 = S 47 0 0 x1 := fun x1 => hS _ _ _ _ (by omega)
  have u48 : ∀ x1, (atM S n a b) 48 0 0 x1 = S 48 0 0 x1 := fun x1 => hS _ _ _ _ (by omega)
  have u49 : ∀ x1, (atM S n a b) 49 0 0 x1 = S 49 0 0 x1 := fun x1 => hS _ _ _ _ (by omega)
  have u50 : ∀ x1, (atM S n a b) 50 0 0 x1 = S 50 0 0 x1 := fun x1 => hS _ _ _ _ (by omega)
  have u52 : ∀ x1, (atM S n a b) 52 0 0 x1 = S 52 0 0 x1 := fun x1 => hS _ _ _ _ (by omega)
  have u53 : ∀ x1, (atM S n a b) 53 0 0 x1 = S 53 0 0 x1 := fun x1 => hS _ _ _ _ (by omega)
  have u54 : ∀ x1, (atM S n a b) 54 0 0 x1 = S 54 0 0 x1 := fun x1 => hS _ _ _ _ (by omega)
  have u55 : ∀ x1, (atM S n a b) 55 0 0 x1 = S 55 0 0 x1 := fun x1 => hS _ _ _ _ (by omega)
  have u56 : ∀ x1, (atM S n a b) 56 0 0 x1 = S 56 0 0 x1 := fun x1 => hS _ _ _ _ (by omega)
  have u57 : ∀ x1, (atM S n a b) 57 0 0 x1 = S 57 0 0 x1 := fun x1 => hS _ _ _ _ (by omega)
  have u58 : ∀ x1, (atM S n a b) 58 0 0 x1 = S 58 0 0 x1 := fun x1 => hS _ _ _ _ (by omega)
  have u59 : ∀ x1, (atM S n a b) 59 0 0 x1 = S 59 0 0 x1 := fun x1 => hS _ _ _ _ (by omega)
  obtain ⟨r1, r2, r3, r4, r5, r6, r7, r8, r9, r10, r11⟩ := hR
  refine ⟨?_, ⟨?_, ?_⟩, ?_, ?_, ?_, ?_, ?_, ?_, ?_, ?_, ?_⟩
  · simp only [f1_1, f0_3, f0_6, f9, f31, f3, f11, f15, f22, f23, f24, f33, f29, f30, f21_0, f21_8, f21_9, u4, u5, u10, u19, u20, u21, u22, u43, u44, u45, u46, u47, u48, u49, u50, u52, u53, u54, u55, u56, u57, u58, u59]; rw [s0, g10]; exact ⟨rfl, r1.2⟩
  · intro t ht
    rw [s41, g2]
    by_cases c : t = n
    · rw [if_pos c, if_pos c]
    · rw [if_neg c, if_neg c]; exact r2.1 t (by omega)
  · simp only [f1_1, f0_3, f0_6, f9, f31, f3, f11, f15, f22, f23, f24, f33, f29, f30, f21_0, f21_8, f21_9, u4, u5, u10, u19, u20, u21, u22, u43, u44, u45, u46, u47, u48, u49, u50, u52, u53, u54, u55, u56, u57, u58, u59]; exact r2.2
  · intro r t hr ht
    rw [g10] at ht
    rw [s42, g6]
    by_cases c : t = n
    · subst c
      by_cases c2 : r = 0
      · subst c2
        rw [if_neg (by omega), if_pos (by omega), if_pos ⟨rfl, rfl⟩]
      · rw [if_pos (by omega), if_neg (by omega)]
        exact (hG.1.1.2.2.2.2.1 r t hr hn2 (by omega)).symm
    · rw [if_neg (by omega), if_neg (by omega), if_neg (by omega)]
      exact r3 r t hr (by omega)
  · simp only [f1_1, f0_3, f0_6, f9, f31, f3, f11, f15, f22, f23, f24, f33, f29, f30, f21_0, f21_8, f21_9, u4, u5, u10, u19, u20, u21, u22, u43, u44, u45, u46, u47, u48, u49, u50, u52, u53, u54, u55, u56, u57, u58, u59]; exact r4
  · simp only [f1_1, f0_3, f0_6, f9, f31, f3, f11, f15, f22, f23, f24, f33, f29, f30, f21_0, f21_8, f21_9, u4, u5, u10, u19, u20, u21, u22, u43, u44, u45, u46, u47, u48, u49, u50, u52, u53, u54, u55, u56, u57, u58, u59]; exact r5
  · simp only [f1_1, f0_3, f0_6, f9, f31, f3, f11, f15, f22, f23, f24, f33, f29, f30, f21_0, f21_8, f21_9, u4, u5, u10, u19, u20, u21, u22, u43, u44, u45, u46, u47, u48, u49, u50, u52, u53, u54, u55, u56, u57, u58, u59]; exact r6
  · simp only [f1_1, f0_3, f0_6, f9, f31, f3, f11, f15, f22, f23, f24, f33, f29, f30, f21_0, f21_8, f21_9, u4, u5, u10, u19, u20, u21, u22, u43, u44, u45, u46, u47, u48, u49, u50, u52, u53, u54, u55, u56, u57, u58, u59]; exact r7
  · intro p t hp ht
    rw [g10] at ht
    rw [s51, h 24 p 0 t (by omega)]
    by_cases c : t = n
    · subst c
      rw [if_pos (by omega)]
      exact ((hG.1.2.2.2.1 p hp).2.2.2.1 t hn2 (by omega)).symm
    · rw [if_neg (by omega)]
      exact r8 p t hp (by omega)
  · simp only [f1_1, f0_3, f0_6, f9, f31, f3, f11, f15, f22, f23, f24, f33, f29, f30, f21_0, f21_8, f21_9, u4, u5, u10, u19, u20, u21, u22, u43, u44, u45, u46, u47, u48, u49, u50, u52, u53, u54, u55, u56, u57, u58, u59]; exact r9
  · simp only [f1_1, f0_3, f0_6, f9, f31, f3, f11, f15, f22, f23, f24, f33, f29, f30, f21_0, f21_8, f21_9, u4, u5, u10, u19, u20, u21, u22, u43, u44, u45, u46, u47, u48, u49, u50, u52, u53, u54, u55, u56, u57, u58, u59]; exact r10
  · simp only [f1_1, f0_3, f0_6, f9, f31, f3, f11, f15, f22, f23, f24, f33, f29, f30, f21_0, f21_8, f21_9, u4, u5, u10, u19, u20, u21, u22, u43, u44, u45, u46, u47, u48, u49, u50, u52, u53, u54, u55, u56, u57, u58, u59]; exact r11
theorem RM_th {G S : zS} (hR : RM G S) {v : Int} : RM (zu G 1 0 0 1 v) (zu S 40 0 0 4 v) := by
  have h : eqq (fun k _ _ m => k = 1 ∧ m = 1) G (zu G 1 0 0 1 v) := fun k i j m hk => if_neg (by omega)
  have hS : eqq (fun k _ _ m => k = 40 ∧ m = 4) S (zu S 40 0 0 4 v) := fun k i j m hk => if_neg (by omega)
  have f1_0 : (zu G 1 0 0 1 v) 1 0 0 0 = G 1 0 0 0 := h _ _ _ _ (by omega)
  have f0_3 : (zu G 1 0 0 1 v) 0 0 0 3 = G 0 0 0 3 := h _ _ _ _ (by omega)
  have f0_6 : (zu G 1 0 0 1 v) 0 0 0 6 = G 0 0 0 6 := h _ _ _ _ (by omega)
  have f9 : (zu G 1 0 0 1 v) 9 0 0 0 = G 9 0 0 0 := h _ _ _ _ (by omega)
  have f31 : ∀ x1, (zu G 1 0 0 1 v) 31 0 0 x1 = G 31 0 0 x1 := fun x1 => h _ _ _ _ (by omega)
  have f2 : ∀ x1, (zu G 1 0 0 1 v) 2 0 0 x1 = G 2 0 0 x1 := fun x1 => h _ _ _ _ (by omega)
  have f3 : ∀ x1, (zu G 1 0 0 1 v) 3 0 0 x1 = G 3 0 0 x1 := fun x1 => h _ _ _ _ (by omega)
  have f6 : ∀ x1 x2, (zu G 1 0 0 1 v) 6 x1 0 x2 = G 6 x1 0 x2 := fun x1 x2 => h _ _ _ _ (by omega)
  have f11 : ∀ x1 x2, (zu G 1 0 0 1 v) 11 x1 0 x2 = G 11 x1 0 x2 := fun x1 x2 => h _ _ _ _ (by omega)
  have f15 : ∀ x1 x2, (zu G 1 0 0 1 v) 15 x1 0 x2 = G 15 x1 0 x2 := fun x1 x2 => h _ _ _ _ (by omega)
  have f22 : ∀ x1 x2, (zu G 1 0 0 1 v) 22 x1 0 x2 = G 22 x1 0 x2 := fun x1 x2 => h _ _ _ _ (by omega)
  have f23 : ∀ x1 x2, (zu G 1 0 0 1 v) 23 x1 0 x2 = G 23 x1 0 x2 := fun x1 x2 => h _ _ _ _ (by omega)
  have f24 : ∀ x1 x2, (zu G 1 0 0 1 v) 24 x1 0 x2 = G 24 x1 0 x2 := fun x1 x2 => h _ _ _ _ (by omega)
  have f33 : ∀ x1 x2, (zu G 1 0 0 1 v) 33 0 x1 x2 = G 33 0 x1 x2 := fun x1 x2 => h _ _ _ _ (by omega)
  have f29 : ∀ x1 x2 x3, (zu G 1 0 0 1 v) 29 x1 x2 x3 = G 29 x1 x2 x3 := fun x1 x2 x3 => h _ _ _ _ (by omega)
  have f30 : ∀ x1 x2 x3, (zu G 1 0 0 1 v) 30 x1 x2 x3 = G 30 x1 x2 x3 := fun x1 x2 x3 => h _ _ _ _ (by omega)
  have f21_0 : ∀ x1, (zu G 1 0 0 1 v) 21 x1 0 0 = G 21 x1 0 0 := fun x1 => h _ _ _ _ (by omega)
  have f21_8 : ∀ x1, (zu G 1 0 0 1 v) 21 x1 0 8 = G 21 x1 0 8 := fun x1 => h _ _ _ _ (by omega)
  have f21_9 : ∀ x1, (zu G 1 0 0 1 v) 21 x1 0 9 = G 21 x1 0 9 := fun x1 => h _ _ _ _ (by omega)
  have u0 : (zu S 40 0 0 4 v) 40 0 0 0 = S 40 0 0 0 := hS _ _ _ _ (by omega)
  have u5 : (zu S 40 0 0 4 v) 40 0 0 5 = S 40 0 0 5 := hS _ _ _ _ (by omega)
  have u10 : (zu S 40 0 0 4 v) 40 0 0 10 = S 40 0 0 10 := hS _ _ _ _ (by omega)
  have u19 : (zu S 40 0 0 4 v) 40 0 0 19 = S 40 0 0 19 := hS _ _ _ _ (by omega)
  have u20 : (zu S 40 0 0 4 v) 40 0 0 20 = S 40 0 0 20 := hS _ _ _ _ (by omega)
  have u21 : (zu S 40 0 0 4 v) 40 0 0 21 = S 40 0 0 21 := hS _ _ _ _ (by omega)
  have u22 : (zu S 40 0 0 4 v) 40 0 0 22 = S 40 0 0 22 := hS _ _ _ _ (by omega)
  have u41 : ∀ x1, (zu S 40 0 0 4 v) 41 0 0 x1 = S 41 0 0 x1 := fun x1 => hS _ _ _ _ (by omega)
  have u42 : ∀ x1, (zu S 40 0 0 4 v) 42 0 0 x1 = S 42 0 0 x1 := fun x1 => hS _ _ _ _ (by omega)
  have u43 : ∀ x1, (zu S 40 0 0 4 v) 43 0 0 x1 = S 43 0 0 x1 := fun x1 => hS _ _ _ _ (by omega)
  have u44 : ∀ x1, (zu S 40 0 0 4 v) 44 0 0 x1 = S 44 0 0 x1 := fun x1 => hS _ _ _ _ (by omega)
  have u45 : ∀ x1, (zu S 40 0 0 4 v) 45 0 0 x1 = S 45 0 0 x1 := fun x1 => hS _ _ _ _ (by omega)
  have u46 : ∀ x1, (zu S 40 0 0 4 v) 46 0 0 x1 = S 46 0 0 x1 := fun x1 => hS _ _ _ _ (by omega)
  have u47 : ∀ x1, (zu S 40 0 0 4 v) 47 0 0 x1 = S 47 0 0 x1 := fun x1 => hS _ _ _ _ (by omega)
  have u48 : ∀ x1, (zu S 40 0 0 4 v) 48 0 0 x1 = S 48 0 0 x1 := fun x1 => hS _ _ _ _ (by omega)
  have u49 : ∀ x1, (zu S 40 0 0 4 v) 49 0 0 x1 = S 49 0 0 x1 := fun x1 => hS _ _ _ _ (by omega)
  have u50 : ∀ x1, (zu S 40 0 0 4 v) 50 0 0 x1 = S 50 0 0 x1 := fun x1 => hS _ _ _ _ (by omega)
  have u51 : ∀ x1, (zu S 40 0 0 4 v) 51 0 0 x1 = S 51 0 0 x1 := fun x1 => hS _ _ _ _ (by omega)
  have u52 : ∀ x1, (zu S 40 0 0 4 v) 52 0 0 x1 = S 52 0 0 x1 := fun x1 => hS _ _ _ _ (by omega)
  have u53 : ∀ x1, (zu S 40 0 0 4 v) 53 0 0 x1 = S 53 0 0 x1 := fun x1 => hS _ _ _ _ (by omega)
  have u54 : ∀ x1, (zu S 40 0 0 4 v) 54 0 0 x1 = S 54 0 0 x1 := fun x1 => hS _ _ _ _ (by omega)
  have u55 : ∀ x1, (zu S 40 0 0 4 v) 55 0 0 x1 = S 55 0 0 x1 := fun x1 => hS _ _ _ _ (by omega)
  have u56 : ∀ x1, (zu S 40 0 0 4 v) 56 0 0 x1 = S 56 0 0 x1 := fun x1 => hS _ _ _ _ (by omega)
  have u57 : ∀ x1, (zu S 40 0 0 4 v) 57 0 0 x1 = S 57 0 0 x1 := fun x1 => hS _ _ _ _ (by omega)
  have u58 : ∀ x1, (zu S 40 0 0 4 v) 58 0 0 x1 = S 58 0 0 x1 := fun x1 => hS _ _ _ _ (by omega)
  have u59 : ∀ x1, (zu S 40 0 0 4 v) 59 0 0 x1 = S 59 0 0 x1 := fun x1 => hS _ _ _ _ (by omega)
  obtain ⟨r1, r2, r3, r4, r5, r6, r7, r8, r9, r10, r11⟩ := hR
  refine ⟨?_, ?_, ?_, ?_, ?_, ?_, ?_, ?_, ?_, ?_, ?_⟩
  · simp only [f1_0, f0_3, f0_6, f9, f31, f2, f3, f6, f11, f15, f22, f23, f24, f33, f29, f30, f21_0, f21_8, f21_9, u0, u5, u10, u19, u20, u21, u22, u41, u42, u43, u44, u45, u46, u47, u48, u49, u50, u51, u52, u53, u54, u55, u56, u57, u58, u59]; rw [zu_s, zu_s]; exact ⟨r1.1, rfl, r1.2.2⟩
  · simp only [f1_0, f0_3, f0_6, f9, f31, f2, f3, f6, f11, f15, f22, f23, f24, f33, f29, f30, f21_0, f21_8, f21_9, u0, u5, u10, u19, u20, u21, u22, u41, u42, u43, u44, u45, u46, u47, u48, u49, u50, u51, u52, u53, u54, u55, u56, u57, u58, u59]; exact r2
  · simp only [f1_0, f0_3, f0_6, f9, f31, f2, f3, f6, f11, f15, f22, f23, f24, f33, f29, f30, f21_0, f21_8, f21_9, u0, u5, u10, u19, u20, u21, u22, u41, u42, u43, u44, u45, u46, u47, u48, u49, u50, u51, u52, u53, u54, u55, u56, u57, u58, u59]; exact r3
  · simp only [f1_0, f0_3, f0_6, f9, f31, f2, f3, f6, f11, f15, f22, f23, f24, f33, f29, f30, f21_0, f21_8, f21_9, u0, u5, u10, u19, u20, u21, u22, u41, u42, u43, u44, u45, u46, u47, u48, u49, u50, u51, u52, u53, u54, u55, u56, u57, u58, u59]; exact r4
  · simp only [f1_0, f0_3, f0_6, f9, f31, f2, f3, f6, f11, f15, f22, f23, f24, f33, f29, f30, f21_0, f21_8, f21_9, u0, u5, u10, u19, u20, u21, u22, u41, u42, u43, u44, u45, u46, u47, u48, u49, u50, u51, u52, u53, u54, u55, u56, u57, u58, u59]; exact r5
  · simp only [f1_0, f0_3, f0_6, f9, f31, f2, f3, f6, f11, f15, f22, f23, f24, f33, f29, f30, f21_0, f21_8, f21_9, u0, u5, u10, u19, u20, u21, u22, u41, u42, u43, u44, u45, u46, u47, u48, u49, u50, u51, u52, u53, u54, u55, u56, u57, u58, u59]; exact r6
  · simp only [f1_0, f0_3, f0_6, f9, f31, f2, f3, f6, f11, f15, f22, f23, f24, f33, f29, f30, f21_0, f21_8, f21_9, u0, u5, u10, u19, u20, u21, u22, u41, u42, u43, u44, u45, u46, u47, u48, u49, u50, u51, u52, u53, u54, u55, u56, u57, u58, u59]; exact r7
  · simp only [f1_0, f0_3, f0_6, f9, f31, f2, f3, f6, f11, f15, f22, f23, f24, f33, f29, f30, f21_0, f21_8, f21_9, u0, u5, u10, u19, u20, u21, u22, u41, u42, u43, u44, u45, u46, u47, u48, u49, u50, u51, u52, u53, u54, u55, u56, u57, u58, u59]; exact r8
  · simp only [f1_0, f0_3, f0_6, f9, f31, f2, f3, f6, f11, f15, f22, f23, f24, f33, f29, f30, f21_0, f21_8, f21_9, u0, u5, u10, u19, u20, u21, u22, u41, u42, u43, u44, u45, u46, u47, u48, u49, u50, u51, u52, u53, u54, u55, u56, u57, u58, u59]; exact r9
  · simp only [f1_0, f0_3, f0_6, f9, f31, f2, f3, f6, f11, f15, f22, f23, f24, f33, f29, f30, f21_0, f21_8, f21_9, u0, u5, u10, u19, u20, u21, u22, u41, u42, u43, u44, u45, u46, u47, u48, u49, u50, u51, u52, u53, u54, u55, u56, u57, u58, u59]; exact r10
  · simp only [f1_0, f0_3, f0_6, f9, f31, f2, f3, f6, f11, f15, f22, f23, f24, f33, f29, f30, f21_0, f21_8, f21_9, u0, u5, u10, u19, u20, u21, u22, u41, u42, u43, u44, u45, u46, u47, u48, u49, u50, u51, u52, u53, u54, u55, u56, u57, u58, u59]; exact r11
theorem RM_ac {G S S' : zS} (hR : RM G S) {n : Nat} (hn : G 9 0 0 0 = n) {a b c : Int} (hno : ∀ x, x = 3 ∨ x = 4 → G 11 n 0 x = -1) (hsl : ∀ s, s < 3 → G 15 n 0 s = -1) (hS : eqq (fun k _ _ m => (k = 40 ∧ m = 5) ∨ k = 44 ∨ k = 45 ∨ k = 46 ∨ k = 47) S S') (s5 : S' 40 0 0 5 = n + 1) (s44 : S' 44 0 0 (3 * n) = a ∧ S' 44 0 0 (3 * n + 1) = -1 ∧ S' 44 0 0 (3 * n + 2) = -1) (s44' : ∀ x, x < 3 * n → S' 44 0 0 x = S 44 0 0 x) (s45 : ∀ x, S' 45 0 0 x = if x = n then b else S 45 0 0 x) (s46 : ∀ x, S' 46 0 0 x = if x = n then c else S 46 0 0 x) (s47 : ∀ s, s < 3 → S' 47 0 0 (3 * n + s) = -1) (s47' : ∀ x, x < 3 * n → S' 47 0 0 x = S 47 0 0 x) : RM (acS G n a b c) S' := by
  have h : eqq (fun k i _ m => (k = 9 ∧ m = 0) ∨ (k = 11 ∧ i = n ∧ m < 3)) G (acS G n a b c) := fun k i j m hk => by
    unfold acS zu
    rw [if_neg (by omega), if_neg (by omega), if_neg (by omega), if_neg (by omega)]
  have g9 : acS G n a b c 9 0 0 0 = n + 1 := zu_s
  have g11 : acS G n a b c 11 n 0 0 = a ∧ acS G n a b c 11 n 0 1 = b ∧ acS G n a b c 11 n 0 2 = c := by
    unfold acS
    refine ⟨?_, ?_, ?_⟩
    · rw [zu_k (by decide), zu_n (by decide), zu_n (by decide), zu_s]
    · rw [zu_k (by decide), zu_n (by decide), zu_s]
    · rw [zu_k (by decide), zu_s]
  have g11' : ∀ i, i ≠ n → ∀ x, acS G n a b c 11 i 0 x = G 11 i 0 x := fun i hi x => h _ _ _ _ (by omega)
  have g113 : ∀ x, 3 ≤ x → acS G n a b c 11 n 0 x = G 11 n 0 x := fun x hx => h _ _ _ _ (by omega)
  have g15 : ∀ i x, acS G n a b c 15 i 0 x = G 15 i 0 x := fun i x => h _ _ _ _ (by omega)
  have f1_0 : (acS G n a b c) 1 0 0 0 = G 1 0 0 0 := h _ _ _ _ (by omega)
  have f1_1 : (acS G n a b c) 1 0 0 1 = G 1 0 0 1 := h _ _ _ _ (by omega)
  have f0_3 : (acS G n a b c) 0 0 0 3 = G 0 0 0 3 := h _ _ _ _ (by omega)
  have f0_6 : (acS G n a b c) 0 0 0 6 = G 0 0 0 6 := h _ _ _ _ (by omega)
  have f31 : ∀ x1, (acS G n a b c) 31 0 0 x1 = G 31 0 0 x1 := fun x1 => h _ _ _ _ (by omega)
  have f2 : ∀ x1, (acS G n a b c) 2 0 0 x1 = G 2 0 0 x1 := fun x1 => h _ _ _ _ (by omega)
  have f3 : ∀ x1, (acS G n a b c) 3 0 0 x1 = G 3 0 0 x1 := fun x1 => h _ _ _ _ (by omega)
  have f6 : ∀ x1 x2, (acS G n a b c) 6 x1 0 x2 = G 6 x1 0 x2 := fun x1 x2 => h _ _ _ _ (by omega)
  have f22 : ∀ x1 x2, (acS G n a b c) 22 x1 0 x2 = G 22 x1 0 x2 := fun x1 x2 => h _ _ _ _ (by omega)
  have f23 : ∀ x1 x2, (acS G n a b c) 23 x1 0 x2 = G 23 x1 0 x2 := fun x1 x2 => h _ _ _ _ (by omega)
  have f24 : ∀ x1 x2, (acS G n a b c) 24 x1 0 x2 = G 24 x1 0 x2 := fun x1 x2 => h _ _ _ _ (by omega)
  have f33 : ∀ x1 x2, (acS G n a b c) 33 0 x1 x2 = G 33 0 x1 x2 := fun x1 x2 => h _ _ _ _ (by omega)
  have f29 : ∀ x1 x2 x3, (acS G n a b c) 29 x1 x2 x3 = G 29 x1 x2 x3 := fun x1 x2 x3 => h _ _ _ _ (by omega)
  have f30 : ∀ x1 x2 x3, (acS G n a b c) 30 x1 x2 x3 = G 30 x1 x2 x3 := fun x1 x2 x3 => h _ _ _ _ (by omega)
  have f21_0 : ∀ x1, (acS G n a b c) 21 x1 0 0 = G 21 x1 0 0 := fun x1 => h _ _ _ _ (by omega)
  have f21_8 : ∀ x1, (acS G n a b c) 21 x1 0 8 = G 21 x1 0 8 := fun x1 => h _ _ _ _ (by omega)
  have f21_9 : ∀ x1, (acS G n a b c) 21 x1 0 9 = G 21 x1 0 9 := fun x1 => h _ _ _ _ (by omega)
  have u0 : S' 40 0 0 0 = S 40 0 0 0 := hS _ _ _ _ (by omega)
  have u4 : S' 40 0 0 4 = S 40 0 0 4 := hS _ _ _ _ (by omega)
  have u10 : S' 40 0 0 10 = S 40 0 0 10 := hS _ _ _ _ (by omega)
  have u19 : S' 40 0 0 19 = S 40 0 0 19 := hS _ _ _ _ (by omega)
  have u20 : S' 40 0 0 20 = S 40 0 0 20 := hS _ _ _ _ (by omega)
  have u21 : S' 40 0 0 21 = S 40 0 0 21 := hS _ _ _ _ (by omega)
  have u22 : S' 40 0 0 22 = S 40 0 0 22 := hS _ _ _ _ (by omega)
  have u41 : ∀ x1, S' 41 0 0 x1 = S 41 0 0 x1 := fun x1 => hS _ _ _ _ (by omega)
  have u42 : ∀ x1, S' 42 0 0 x1 = S 42 0 0 x1 := fun x1 => hS _ _ _ _ (by omega)
  have u43 : ∀ x1, S' 43 0 0 x1 = S 43 0 0 x1 := fun x1 => hS _ _ _ _ (by omega)
  have u48 : ∀ x1, S' 48 0 0 x1 = S 48 0 0 x1 := fun x1 => hS _ _ _ _ (by omega)
  have u49 : ∀ x1, S' 49 0 0 x1 = S 49 0 0 x1 := fun x1 => hS _ _ _ _ (by omega)
  have u50 : ∀ x1, S' 50 0 0 x1 = S 50 0 0 x1 := fun x1 => hS _ _ _ _ (by omega)
  have u51 : ∀ x1, S' 51 0 0 x1 = S 51 0 0 x1 := fun x1 => hS _ _ _ _ (by omega)
  have u52 : ∀ x1, S' 52 0 0 x1 = S 52 0 0 x1 := fun x1 => hS _ _ _ _ (by omega)
  have u53 : ∀ x1, S' 53 0 0 x1 = S 53 0 0 x1 := fun x1 => hS _ _ _ _ (by omega)
  have u54 : ∀ x1, S' 54 0 0 x1 = S 54 0 0 x1 := fun x1 => hS _ _ _ _ (by omega)
  have u55 : ∀ x1, S' 55 0 0 x1 = S 55 0 0 x1 := fun x1 => hS _ _ _ _ (by omega)
  have u56 : ∀ x1, S' 56 0 0 x1 = S 56 0 0 x1 := fun x1 => hS _ _ _ _ (by omega)
  have u57 : ∀ x1, S' 57 0 0 x1 = S 57 0 0 x1 := fun x1 => hS _ _ _ _ (by omega)
  have u58 : ∀ x1, S' 58 0 0 x1 = S 58 0 0 x1 := fun x1 => hS _ _ _ _ (by omega)
  have u59 : ∀ x1, S' 59 0 0 x1 = S 59 0 0 x1 := fun x1 => hS _ _ _ _ (by omega)
  obtain ⟨r1, r2, r3, r4, r5, r6, r7, r8, r9, r10, r11⟩ := hR
  refine ⟨?_, ?_, ?_, ?_, ?_, ?_, ?_, ?_, ?_, ?_, ?_⟩
  · simp only [f1_0, f1_1, f0_3, f0_6, f31, f2, f3, f6, f22, f23, f24, f33, f29, f30, f21_0, f21_8, f21_9, u0, u4, u10, u19, u20, u21, u22, u41, u42, u43, u48, u49, u50, u51, u52, u53, u54, u55, u56, u57, u58, u59]; rw [s5, g9]; exact ⟨r1.1, r1.2.1, rfl, r1.2.2.2⟩
  · simp only [f1_0, f1_1, f0_3, f0_6, f31, f2, f3, f6, f22, f23, f24, f33, f29, f30, f21_0, f21_8, f21_9, u0, u4, u10, u19, u20, u21, u22, u41, u42, u43, u48, u49, u50, u51, u52, u53, u54, u55, u56, u57, u58, u59]; exact r2
  · simp only [f1_0, f1_1, f0_3, f0_6, f31, f2, f3, f6, f22, f23, f24, f33, f29, f30, f21_0, f21_8, f21_9, u0, u4, u10, u19, u20, u21, u22, u41, u42, u43, u48, u49, u50, u51, u52, u53, u54, u55, u56, u57, u58, u59]; exact r3
  · intro e he
    rw [g9] at he
    rw [s45, s46]
    by_cases q : e = n
    · subst q
      rw [if_pos rfl, if_pos rfl, g11.1, g11.2.1, g11.2.2, g113 3 (by omega), g113 4 (by omega), hno 3 (by omega), hno 4 (by omega)]
      exact ⟨s44.1, s44.2.1, s44.2.2, rfl, rfl⟩
    · rw [if_neg q, if_neg q, s44' (3 * e) (by omega), s44' (3 * e + 1) (by omega), s44' (3 * e + 2) (by omega), g11' e q, g11' e q, g11' e q, g11' e q, g11' e q]
      exact r4 e (by omega)
  · intro e s he hs
    rw [g9] at he
    rw [g15]
    by_cases q : e = n
    · subst q
      rw [s47 s hs, hsl s hs]
    · rw [s47' (3 * e + s) (by omega)]
      exact r5 e s (by omega) hs
  · simp only [f1_0, f1_1, f0_3, f0_6, f31, f2, f3, f6, f22, f23, f24, f33, f29, f30, f21_0, f21_8, f21_9, u0, u4, u10, u19, u20, u21, u22, u41, u42, u43, u48, u49, u50, u51, u52, u53, u54, u55, u56, u57, u58, u59]; exact r6
  · simp only [f1_0, f1_1, f0_3, f0_6, f31, f2, f3, f6, f22, f23, f24, f33, f29, f30, f21_0, f21_8, f21_9, u0, u4, u10, u19, u20, u21, u22, u41, u42, u43, u48, u49, u50, u51, u52, u53, u54, u55, u56, u57, u58, u59]; exact r7
  · simp only [f1_0, f1_1, f0_3, f0_6, f31, f2, f3, f6, f22, f23, f24, f33, f29, f30, f21_0, f21_8, f21_9, u0, u4, u10, u19, u20, u21, u22, u41, u42, u43, u48, u49, u50, u51, u52, u53, u54, u55, u56, u57, u58, u59]; exact r8
  · simp only [f1_0, f1_1, f0_3, f0_6, f31, f2, f3, f6, f22, f23, f24, f33, f29, f30, f21_0, f21_8, f21_9, u0, u4, u10, u19, u20, u21, u22, u41, u42, u43, u48, u49, u50, u51, u52, u53, u54, u55, u56, u57, u58, u59]; exact r9
  · simp only [f1_0, f1_1, f0_3, f0_6, f31, f2, f3, f6, f22, f23, f24, f33, f29, f30, f21_0, f21_8, f21_9, u0, u4, u10, u19, u20, u21, u22, u41, u42, u43, u48, u49, u50, u51, u52, u53, u54, u55, u56, u57, u58, u59]; exact r10
  · simp only [f1_0, f1_1, f0_3, f0_6, f31, f2, f3, f6, f22, f23, f24, f33, f29, f30, f21_0, f21_8, f21_9, u0, u4, u10, u19, u20, u21, u22, u41, u42, u43, u48, u49, u50, u51, u52, u53, u54, u55, u56, u57, u58, u59]; exact r11
theorem RM_sv {G S : zS} (hR : RM G S) {c v : Nat} {f : Int} (hv : 1 ≤ v ∧ v < 3) : RM (zu G 11 c 0 (2 + v) f) (zu S 44 0 0 (3 * c + v) f) := by
  have h : eqq (fun k i _ m => k = 11 ∧ i = c ∧ m = 2 + v) G (zu G 11 c 0 (2 + v) f) := fun k i j m hk => if_neg (by omega)
  have hS : eqq (fun k _ _ m => k = 44) S (zu S 44 0 0 (3 * c + v) f) := fun k i j m hk => if_neg (by omega)
  have g1 : zu G 11 c 0 (2 + v) f 11 c 0 (2 + v) = f := zu_s
  have g2 : ∀ i x, ¬ (i = c ∧ x = 2 + v) → zu G 11 c 0 (2 + v) f 11 i 0 x = G 11 i 0 x := fun i x hh => if_neg (by omega)
  have s1 : ∀ x, zu S 44 0 0 (3 * c + v) f 44 0 0 x = if x = 3 * c + v then f else S 44 0 0 x := fun x => by
    by_cases q : x = 3 * c + v
    · subst q; rw [zu_s, if_pos rfl]
    · rw [zu_n q, if_neg q]
  have f1_0 : (zu G 11 c 0 (2 + v) f) 1 0 0 0 = G 1 0 0 0 := h _ _ _ _ (by omega)
  have f1_1 : (zu G 11 c 0 (2 + v) f) 1 0 0 1 = G 1 0 0 1 := h _ _ _ _ (by omega)
  have f0_3 : (zu G 11 c 0 (2 + v) f) 0 0 0 3 = G 0 0 0 3 := h _ _ _ _ (by omega)
  have f0_6 : (zu G 11 c 0 (2 + v) f) 0 0 0 6 = G 0 0 0 6 := h _ _ _ _ (by omega)
  have f9 : (zu G 11 c 0 (2 + v) f) 9 0 0 0 = G 9 0 0 0 := h _ _ _ _ (by omega)
  have f31 : ∀ x1, (zu G 11 c 0 (2 + v) f) 31 0 0 x1 = G 31 0 0 x1 := fun x1 => h _ _ _ _ (by omega)
  have f2 : ∀ x1, (zu G 11 c 0 (2 + v) f) 2 0 0 x1 = G 2 0 0 x1 := fun x1 => h _ _ _ _ (by omega)
  have f3 : ∀ x1, (zu G 11 c 0 (2 + v) f) 3 0 0 x1 = G 3 0 0 x1 := fun x1 => h _ _ _ _ (by omega)
  have f6 : ∀ x1 x2, (zu G 11 c 0 (2 + v) f) 6 x1 0 x2 = G 6 x1 0 x2 := fun x1 x2 => h _ _ _ _ (by omega)
  have f15 : ∀ x1 x2, (zu G 11 c 0 (2 + v) f) 15 x1 0 x2 = G 15 x1 0 x2 := fun x1 x2 => h _ _ _ _ (by omega)
  have f22 : ∀ x1 x2, (zu G 11 c 0 (2 + v) f) 22 x1 0 x2 = G 22 x1 0 x2 := fun x1 x2 => h _ _ _ _ (by omega)
  have f23 : ∀ x1 x2, (zu G 11 c 0 (2 + v) f) 23 x1 0 x2 = G 23 x1 0 x2 := fun x1 x2 => h _ _ _ _ (by omega)
  have f24 : ∀ x1 x2, (zu G 11 c 0 (2 + v) f) 24 x1 0 x2 = G 24 x1 0 x2 := fun x1 x2 => h _ _ _ _ (by omega)
  have f33 : ∀ x1 x2, (zu G 11 c 0 (2 + v) f) 33 0 x1 x2 = G 33 0 x1 x2 := fun x1 x2 => h _ _ _ _ (by omega)
  have f29 : ∀ x1 x2 x3, (zu G 11 c 0 (2 + v) f) 29 x1 x2 x3 = G 29 x1 x2 x3 := fun x1 x2 x3 => h _ _ _ _ (by omega)
  have f30 : ∀ x1 x2 x3, (zu G 11 c 0 (2 + v) f) 30 x1 x2 x3 = G 30 x1 x2 x3 := fun x1 x2 x3 => h _ _ _ _ (by omega)
  have f21_0 : ∀ x1, (zu G 11 c 0 (2 + v) f) 21 x1 0 0 = G 21 x1 0 0 := fun x1 => h _ _ _ _ (by omega)
  have f21_8 : ∀ x1, (zu G 11 c 0 (2 + v) f) 21 x1 0 8 = G 21 x1 0 8 := fun x1 => h _ _ _ _ (by omega)
  have f21_9 : ∀ x1, (zu G 11 c 0 (2 + v) f) 21 x1 0 9 = G 21 x1 0 9 := fun x1 => h _ _ _ _ (by omega)
  have u0 : (zu S 44 0 0 (3 * c + v) f) 40 0 0 0 = S 40 0 0 0 := hS _ _ _ _ (by omega)
  have u4 : (zu S 44 0 0 (3 * c + v) f) 40 0 0 4 = S 40 0 0 4 := hS _ _ _ _ (by omega)
  have u5 : (zu S 44 0 0 (3 * c + v) f) 40 0 0 5 = S 40 0 0 5 := hS _ _ _ _ (by omega)
  have u10 : (zu S 44 0 0 (3 * c + v) f) 40 0 0 10 = S 40 0 0 10 := hS _ _ _ _ (by omega)
  have u19 : (zu S 44 0 0 (3 * c + v) f) 40 0 0 19 = S 40 0 0 19 := hS _ _ _ _ (by omega)
  have u20 : (zu S 44 0 0 (3 * c + v) f) 40 0 0 20 = S 40 0 0 20 := hS _ _ _ _ (by omega)
  have u21 : (zu S 44 0 0 (3 * c + v) f) 40 0 0 21 = S 40 0 0 21 := hS _ _ _ _ (by omega)
  have u22 : (zu S 44 0 0 (3 * c + v) f) 40 0 0 22 = S 40 0 0 22 := hS _ _ _ _ (by omega)
  have u41 : ∀ x1, (zu S 44 0 0 (3 * c + v) f) 41 0 0 x1 = S 41 0 0 x1 := fun x1 => hS _ _ _ _ (by omega)
  have u42 : ∀ x1, (zu S 44 0 0 (3 * c + v) f) 42 0 0 x1 = S 42 0 0 x1 := fun x1 => hS _ _ _ _ (by omega)
  have u43 : ∀ x1, (zu S 44 0 0 (3 * c + v) f) 43 0 0 x1 = S 43 0 0 x1 := fun x1 => hS _ _ _ _ (by omega)
  have u45 : ∀ x1, (zu S 44 0 0 (3 * c + v) f) 45 0 0 x1 = S 45 0 0 x1 := fun x1 => hS _ _ _ _ (by omega)
  have u46 : ∀ x1, (zu S 44 0 0 (3 * c + v) f) 46 0 0 x1 = S 46 0 0 x1 := fun x1 => hS _ _ _ _ (by omega)
  have u47 : ∀ x1, (zu S 44 0 0 (3 * c + v) f) 47 0 0 x1 = S 47 0 0 x1 := fun x1 => hS _ _ _ _ (by omega)
  have u48 : ∀ x1, (zu S 44 0 0 (3 * c + v) f) 48 0 0 x1 = S 48 0 0 x1 := fun x1 => hS _ _ _ _ (by omega)
  have u49 : ∀ x1, (zu S 44 0 0 (3 * c + v) f) 49 0 0 x1 = S 49 0 0 x1 := fun x1 => hS _ _ _ _ (by omega)
  have u50 : ∀ x1, (zu S 44 0 0 (3 * c + v) f) 50 0 0 x1 = S 50 0 0 x1 := fun x1 => hS _ _ _ _ (by omega)
  have u51 : ∀ x1, (zu S 44 0 0 (3 * c + v) f) 51 0 0 x1 = S 51 0 0 x1 := fun x1 => hS _ _ _ _ (by omega)
  have u52 : ∀ x1, (zu S 44 0 0 (3 * c + v) f) 52 0 0 x1 = S 52 0 0 x1 := fun x1 => hS _ _ _ _ (by omega)
  have u53 : ∀ x1, (zu S 44 0 0 (3 * c + v) f) 53 0 0 x1 = S 53 0 0 x1 := fun x1 => hS _ _ _ _ (by omega)
  have u54 : ∀ x1, (zu S 44 0 0 (3 * c + v) f) 54 0 0 x1 = S 54 0 0 x1 := fun x1 => hS _ _ _ _ (by omega)
  have u55 : ∀ x1, (zu S 44 0 0 (3 * c + v) f) 55 0 0 x1 = S 55 0 0 x1 := fun x1 => hS _ _ _ _ (by omega)
  have u56 : ∀ x1, (zu S 44 0 0 (3 * c + v) f) 56 0 0 x1 = S 56 0 0 x1 := fun x1 => hS _ _ _ _ (by omega)
  have u57 : ∀ x1, (zu S 44 0 0 (3 * c + v) f) 57 0 0 x1 = S 57 0 0 x1 := fun x1 => hS _ _ _ _ (by omega)
  have u58 : ∀ x1, (zu S 44 0 0 (3 * c + v) f) 58 0 0 x1 = S 58 0 0 x1 := fun x1 => hS _ _ _ _ (by omega)
  have u59 : ∀ x1, (zu S 44 0 0 (3 * c + v) f) 59 0 0 x1 = S 59 0 0 x1 := fun x1 => hS _ _ _ _ (by omega)
  obtain ⟨r1, r2, r3, r4, r5, r6, r7, r8, r9, r10, r11⟩ := hR
  refine ⟨?_, ?_, ?_, ?_, ?_, ?_, ?_, ?_, ?_, ?_, ?_⟩
  · simp only [f1_0, f1_1, f0_3, f0_6, f9, f31, f2, f3, f6, f15, f22, f23, f24, f33, f29, f30, f21_0, f21_8, f21_9, u0, u4, u5, u10, u19, u20, u21, u22, u41, u42, u43, u45, u46, u47, u48, u49, u50, u51, u52, u53, u54, u55, u56, u57, u58, u59]; exact r1
  · simp only [f1_0, f1_1, f0_3, f0_6, f9, f31, f2, f3, f6, f15, f22, f23, f24, f33, f29, f30, f21_0, f21_8, f21_9, u0, u4, u5, u10, u19, u20, u21, u22, u41, u42, u43, u45, u46, u47, u48, u49, u50, u51, u52, u53, u54, u55, u56, u57, u58, u59]; exact r2
  · simp only [f1_0, f1_1, f0_3, f0_6, f9, f31, f2, f3, f6, f15, f22, f23, f24, f33, f29, f30, f21_0, f21_8, f21_9, u0, u4, u5, u10, u19, u20, u21, u22, u41, u42, u43, u45, u46, u47, u48, u49, u50, u51, u52, u53, u54, u55, u56, u57, u58, u59]; exact r3
  · intro e he
    rw [f9] at he
    have r4 := r4 e he
    rw [u45, u46, s1, s1, s1, g2 e 0 (by omega), g2 e 1 (by omega), g2 e 2 (by omega), if_neg (by omega)]
    refine ⟨r4.1, ?_, ?_, r4.2.2.2⟩
    · by_cases q : e = c ∧ v = 1
      · obtain ⟨rfl, rfl⟩ := q
        rw [if_pos rfl]
        exact g1.symm
      · rw [if_neg (by omega), g2 e 3 (by omega)]; exact r4.2.1
    · by_cases q : e = c ∧ v = 2
      · obtain ⟨rfl, rfl⟩ := q
        rw [if_pos rfl]
        exact g1.symm
      · rw [if_neg (by omega), g2 e 4 (by omega)]; exact r4.2.2.1
  · simp only [f1_0, f1_1, f0_3, f0_6, f9, f31, f2, f3, f6, f15, f22, f23, f24, f33, f29, f30, f21_0, f21_8, f21_9, u0, u4, u5, u10, u19, u20, u21, u22, u41, u42, u43, u45, u46, u47, u48, u49, u50, u51, u52, u53, u54, u55, u56, u57, u58, u59]; exact r5
  · simp only [f1_0, f1_1, f0_3, f0_6, f9, f31, f2, f3, f6, f15, f22, f23, f24, f33, f29, f30, f21_0, f21_8, f21_9, u0, u4, u5, u10, u19, u20, u21, u22, u41, u42, u43, u45, u46, u47, u48, u49, u50, u51, u52, u53, u54, u55, u56, u57, u58, u59]; exact r6
  · simp only [f1_0, f1_1, f0_3, f0_6, f9, f31, f2, f3, f6, f15, f22, f23, f24, f33, f29, f30, f21_0, f21_8, f21_9, u0, u4, u5, u10, u19, u20, u21, u22, u41, u42, u43, u45, u46, u47, u48, u49, u50, u51, u52, u53, u54, u55, u56, u57, u58, u59]; exact r7
  · simp only [f1_0, f1_1, f0_3, f0_6, f9, f31, f2, f3, f6, f15, f22, f23, f24, f33, f29, f30, f21_0, f21_8, f21_9, u0, u4, u5, u10, u19, u20, u21, u22, u41, u42, u43, u45, u46, u47, u48, u49, u50, u51, u52, u53, u54, u55, u56, u57, u58, u59]; exact r8
  · simp only [f1_0, f1_1, f0_3, f0_6, f9, f31, f2, f3, f6, f15, f22, f23, f24, f33, f29, f30, f21_0, f21_8, f21_9, u0, u4, u5, u10, u19, u20, u21, u22, u41, u42, u43, u45, u46, u47, u48, u49, u50, u51, u52, u53, u54, u55, u56, u57, u58, u59]; exact r9
  · simp only [f1_0, f1_1, f0_3, f0_6, f9, f31, f2, f3, f6, f15, f22, f23, f24, f33, f29, f30, f21_0, f21_8, f21_9, u0, u4, u5, u10, u19, u20, u21, u22, u41, u42, u43, u45, u46, u47, u48, u49, u50, u51, u52, u53, u54, u55, u56, u57, u58, u59]; exact r10
  · simp only [f1_0, f1_1, f0_3, f0_6, f9, f31, f2, f3, f6, f15, f22, f23, f24, f33, f29, f30, f21_0, f21_8, f21_9, u0, u4, u5, u10, u19, u20, u21, u22, u41, u42, u43, u45, u46, u47, u48, u49, u50, u51, u52, u53, u54, u55, u56, u57, u58, u59]; exact r11
theorem RM_ss {G S : zS} (hR : RM G S) {c s : Nat} {f : Int} (hs : s < 3) : RM (zu G 15 c 0 s f) (zu S 47 0 0 (3 * c + s) f) := by
  have h : eqq (fun k i _ m => k = 15 ∧ i = c ∧ m = s) G (zu G 15 c 0 s f) := fun k i j m hk => if_neg (by omega)
  have hS : eqq (fun k _ _ m => k = 47) S (zu S 47 0 0 (3 * c + s) f) := fun k i j m hk => if_neg (by omega)
  have f1_0 : (zu G 15 c 0 s f) 1 0 0 0 = G 1 0 0 0 := h _ _ _ _ (by omega)
  have f1_1 : (zu G 15 c 0 s f) 1 0 0 1 = G 1 0 0 1 := h _ _ _ _ (by omega)
  have f0_3 : (zu G 15 c 0 s f) 0 0 0 3 = G 0 0 0 3 := h _ _ _ _ (by omega)
  have f0_6 : (zu G 15 c 0 s f) 0 0 0 6 = G 0 0 0 6 := h _ _ _ _ (by omega)
  have f9 : (zu G 15 c 0 s f) 9 0 0 0 = G 9 0 0 0 := h _ _ _ _ (by omega)
  have f31 : ∀ x1, (zu G 15 c 0 s f) 31 0 0 x1 = G 31 0 0 x1 := fun x1 => h _ _ _ _ (by omega)
  have f2 : ∀ x1, (zu G 15 c 0 s f) 2 0 0 x1 = G 2 0 0 x1 := fun x1 => h _ _ _ _ (by omega)
  have f3 : ∀ x1, (zu G 15 c 0 s f) 3 0 0 x1 = G 3 0 0 x1 := fun x1 => h _ _ _ _ (by omega)
  have f6 : ∀ x1 x2, (zu G 15 c 0 s f) 6 x1 0 x2 = G 6 x1 0 x2 := fun x1 x2 => h _ _ _ _ (by omega)
  have f11 : ∀ x1 x2, (zu G 15 c 0 s f) 11 x1 0 x2 = G 11 x1 0 x2 := fun x1 x2 => h _ _ _ _ (by omega)
  have f22 : ∀ x1 x2, (zu G 15 c 0 s f) 22 x1 0 x2 = G 22 x1 0 x2 := fun x1 x2 => h _ _ _ _ (by omega)
  have f23 : ∀ x1 x2, (zu G 15 c 0 s f) 23 x1 0 x2 = G 23 x1 0 x2 := fun x1 x2 => h _ _ _ _ (by omega)
  have f24 : ∀ x1 x2, (zu G 15 c 0 s f) 24 x1 0 x2 = G 24 x1 0 x2 := fun x1 x2 => h _ _ _ _ (by omega)
  have f33 : ∀ x1 x2, (zu G 15 c 0 s f) 33 0 x1 x2 = G 33 0 x1 x2 := fun x1 x2 => h _ _ _ _ (by omega)
  have f29 : ∀ x1 x2 x3, (zu G 15 c 0 s f) 29 x1 x2 x3 = G 29 x1 x2 x3 := fun x1 x2 x3 => h _ _ _ _ (by omega)
  have f30 : ∀ x1 x2 x3, (zu G 15 c 0 s f) 30 x1 x2 x3 = G 30 x1 x2 x3 := fun x1 x2 x3 => h _ _ _ _ (by omega)
  have f21_0 : ∀ x1, (zu G 15 c 0 s f) 21 x1 0 0 = G 21 x1 0 0 := fun x1 => h _ _ _ _ (by omega)
  have f21_8 : ∀ x1, (zu G 15 c 0 s f) 21 x1 0 8 = G 21 x1 0 8 := fun x1 => h _ _ _ _ (by omega)
  have f21_9 : ∀ x1, (zu G 15 c 0 s f) 21 x1 0 9 = G 21 x1 0 9 := fun x1 => h _ _ _ _ (by omega)
  have u0 : (zu S 47 0 0 (3 * c + s) f) 40 0 0 0 = S 40 0 0 0 := hS _ _ _ _ (by omega)
  have u4 : (zu S 47 0 0 (3 * c + s) f) 40 0 0 4 = S 40 0 0 4 := hS _ _ _ _ (by omega)
  have u5 : (zu S 47 0 0 (3 * c + s) f) 40 0 0 5 = S 40 0 0 5 := hS _ _ _ _ (by omega)
  have u10 : (zu S 47 0 0 (3 * c + s) f) 40 0 0 10 = S 40 0 0 10 := hS _ _ _ _ (by omega)
  have u19 : (zu S 47 0 0 (3 * c + s) f) 40 0 0 19 = S 40 0 0 19 := hS _ _ _ _ (by omega)
  have u20 : (zu S 47 0 0 (3 * c + s) f) 40 0 0 20 = S 40 0 0 20 := hS _ _ _ _ (by omega)
  have u21 : (zu S 47 0 0 (3 * c + s) f) 40 0 0 21 = S 40 0 0 21 := hS _ _ _ _ (by omega)
  have u22 : (zu S 47 0 0 (3 * c + s) f) 40 0 0 22 = S 40 0 0 22 := hS _ _ _ _ (by omega)
  have u41 : ∀ x1, (zu S 47 0 0 (3 * c + s) f) 41 0 0 x1 = S 41 0 0 x1 := fun x1 => hS _ _ _ _ (by omega)
  have u42 : ∀ x1, (zu S 47 0 0 (3 * c + s) f) 42 0 0 x1 = S 42 0 0 x1 := fun x1 => hS _ _ _ _ (by omega)
  have u43 : ∀ x1, (zu S 47 0 0 (3 * c + s) f) 43 0 0 x1 = S 43 0 0 x1 := fun x1 => hS _ _ _ _ (by omega)
  have u44 : ∀ x1, (zu S 47 0 0 (3 * c + s) f) 44 0 0 x1 = S 44 0 0 x1 := fun x1 => hS _ _ _ _ (by omega)
  have u45 : ∀ x1, (zu S 47 0 0 (3 * c + s) f) 45 0 0 x1 = S 45 0 0 x1 := fun x1 => hS _ _ _ _ (by omega)
  have u46 : ∀ x1, (zu S 47 0 0 (3 * c + s) f) 46 0 0 x1 = S 46 0 0 x1 := fun x1 => hS _ _ _ _ (by omega)
  have u48 : ∀ x1, (zu S 47 0 0 (3 * c + s) f) 48 0 0 x1 = S 48 0 0 x1 := fun x1 => hS _ _ _ _ (by omega)
  have u49 : ∀ x1, (zu S 47 0 0 (3 * c + s) f) 49 0 0 x1 = S 49 0 0 x1 := fun x1 => hS _ _ _ _ (by omega)
  have u50 : ∀ x1, (zu S 47 0 0 (3 * c + s) f) 50 0 0 x1 = S 50 0 0 x1 := fun x1 => hS _ _ _ _ (by omega)
  have u51 : ∀ x1, (zu S 47 0 0 (3 * c + s) f) 51 0 0 x1 = S 51 0 0 x1 := fun x1 => hS _ _ _ _ (by omega)
  have u52 : ∀ x1, (zu S 47 0 0 (3 * c + s) f) 52 0 0 x1 = S 52 0 0 x1 := fun x1 => hS _ _ _ _ (by omega)
  have u53 : ∀ x1, (zu S 47 0 0 (3 * c + s) f) 53 0 0 x1 = S 53 0 0 x1 := fun x1 => hS _ _ _ _ (by omega)
  have u54 : ∀ x1, (zu S 47 0 0 (3 * c + s) f) 54 0 0 x1 = S 54 0 0 x1 := fun x1 => hS _ _ _ _ (by omega)
  have u55 : ∀ x1, (zu S 47 0 0 (3 * c + s) f) 55 0 0 x1 = S 55 0 0 x1 := fun x1 => hS _ _ _ _ (by omega)
  have u56 : ∀ x1, (zu S 47 0 0 (3 * c + s) f) 56 0 0 x1 = S 56 0 0 x1 := fun x1 => hS _ _ _ _ (by omega)
  have u57 : ∀ x1, (zu S 47 0 0 (3 * c + s) f) 57 0 0 x1 = S 57 0 0 x1 := fun x1 => hS _ _ _ _ (by omega)
  have u58 : ∀ x1, (zu S 47 0 0 (3 * c + s) f) 58 0 0 x1 = S 58 0 0 x1 := fun x1 => hS _ _ _ _ (by omega)
  have u59 : ∀ x1, (zu S 47 0 0 (3 * c + s) f) 59 0 0 x1 = S 59 0 0 x1 := fun x1 => hS _ _ _ _ (by omega)
  obtain ⟨r1, r2, r3, r4, r5, r6, r7, r8, r9, r10, r11⟩ := hR
  refine ⟨?_, ?_, ?_, ?_, ?_, ?_, ?_, ?_, ?_, ?_, ?_⟩
  · simp only [f1_0, f1_1, f0_3, f0_6, f9, f31, f2, f3, f6, f11, f22, f23, f24, f33, f29, f30, f21_0, f21_8, f21_9, u0, u4, u5, u10, u19, u20, u21, u22, u41, u42, u43, u44, u45, u46, u48, u49, u50, u51, u52, u53, u54, u55, u56, u57, u58, u59]; exact r1
  · simp only [f1_0, f1_1, f0_3, f0_6, f9, f31, f2, f3, f6, f11, f22, f23, f24, f33, f29, f30, f21_0, f21_8, f21_9, u0, u4, u5, u10, u19, u20, u21, u22, u41, u42, u43, u44, u45, u46, u48, u49, u50, u51, u52, u53, u54, u55, u56, u57, u58, u59]; exact r2
  · simp only [f1_0, f1_1, f0_3, f0_6, f9, f31, f2, f3, f6, f11, f22, f23, f24, f33, f29, f30, f21_0, f21_8, f21_9, u0, u4, u5, u10, u19, u20, u21, u22, u41, u42, u43, u44, u45, u46, u48, u49, u50, u51, u52, u53, u54, u55, u56, u57, u58, u59]; exact r3
  · simp only [f1_0, f1_1, f0_3, f0_6, f9, f31, f2, f3, f6, f11, f22, f23, f24, f33, f29, f30, f21_0, f21_8, f21_9, u0, u4, u5, u10, u19, u20, u21, u22, u41, u42, u43, u44, u45, u46, u48, u49, u50, u51, u52, u53, u54, u55, u56, u57, u58, u59]; exact r4
  · intro e x he hx
    rw [f9] at he
    by_cases q : e = c ∧ x = s
    · obtain ⟨rfl, rfl⟩ := q
      rw [zu_s, zu_s]
    · rw [zu_n (by omega), show zu G 15 c 0 s f 15 e 0 x = G 15 e 0 x from if_neg (by omega)]
      exact r5 e x he hx
  · simp only [f1_0, f1_1, f0_3, f0_6, f9, f31, f2, f3, f6, f11, f22, f23, f24, f33, f29, f30, f21_0, f21_8, f21_9, u0, u4, u5, u10, u19, u20, u21, u22, u41, u42, u43, u44, u45, u46, u48, u49, u50, u51, u52, u53, u54, u55, u56, u57, u58, u59]; exact r6
  · simp only [f1_0, f1_1, f0_3, f0_6, f9, f31, f2, f3, f6, f11, f22, f23, f24, f33, f29, f30, f21_0, f21_8, f21_9, u0, u4, u5, u10, u19, u20, u21, u22, u41, u42, u43, u44, u45, u46, u48, u49, u50, u51, u52, u53, u54, u55, u56, u57, u58, u59]; exact r7
  · simp only [f1_0, f1_1, f0_3, f0_6, f9, f31, f2, f3, f6, f11, f22, f23, f24, f33, f29, f30, f21_0, f21_8, f21_9, u0, u4, u5, u10, u19, u20, u21, u22, u41, u42, u43, u44, u45, u46, u48, u49, u50, u51, u52, u53, u54, u55, u56, u57, u58, u59]; exact r8
  · simp only [f1_0, f1_1, f0_3, f0_6, f9, f31, f2, f3, f6, f11, f22, f23, f24, f33, f29, f30, f21_0, f21_8, f21_9, u0, u4, u5, u10, u19, u20, u21, u22, u41, u42, u43, u44, u45, u46, u48, u49, u50, u51, u52, u53, u54, u55, u56, u57, u58, u59]; exact r9
  · simp only [f1_0, f1_1, f0_3, f0_6, f9, f31, f2, f3, f6, f11, f22, f23, f24, f33, f29, f30, f21_0, f21_8, f21_9, u0, u4, u5, u10, u19, u20, u21, u22, u41, u42, u43, u44, u45, u46, u48, u49, u50, u51, u52, u53, u54, u55, u56, u57, u58, u59]; exact r10
  · simp only [f1_0, f1_1, f0_3, f0_6, f9, f31, f2, f3, f6, f11, f22, f23, f24, f33, f29, f30, f21_0, f21_8, f21_9, u0, u4, u5, u10, u19, u20, u21, u22, u41, u42, u43, u44, u45, u46, u48, u49, u50, u51, u52, u53, u54, u55, u56, u57, u58, u59]; exact r11
theorem RM_pg {G S S' : zS} (hR : RM G S) {n : Nat} (hS : eqq (fun k _ _ m => (k = 40 ∧ m = 10) ∨ k = 51) S S') (s10 : S' 40 0 0 10 = n + 1) (s51 : ∀ p t : Nat, p < 4 → (t : Int) < G 1 0 0 0 → S' 51 0 0 (12 * p + t) = G 24 p 0 t) : RM (zu G 0 0 0 3 (n + 1)) S' := by
  have h : eqq (fun k _ _ m => k = 0 ∧ m = 3) G (zu G 0 0 0 3 (n + 1)) := fun k i j m hk => if_neg (by omega)
  have f1_0 : (zu G 0 0 0 3 (n + 1)) 1 0 0 0 = G 1 0 0 0 := h _ _ _ _ (by omega)
  have f1_1 : (zu G 0 0 0 3 (n + 1)) 1 0 0 1 = G 1 0 0 1 := h _ _ _ _ (by omega)
  have f0_6 : (zu G 0 0 0 3 (n + 1)) 0 0 0 6 = G 0 0 0 6 := h _ _ _ _ (by omega)
  have f9 : (zu G 0 0 0 3 (n + 1)) 9 0 0 0 = G 9 0 0 0 := h _ _ _ _ (by omega)
  have f31 : ∀ x1, (zu G 0 0 0 3 (n + 1)) 31 0 0 x1 = G 31 0 0 x1 := fun x1 => h _ _ _ _ (by omega)
  have f2 : ∀ x1, (zu G 0 0 0 3 (n + 1)) 2 0 0 x1 = G 2 0 0 x1 := fun x1 => h _ _ _ _ (by omega)
  have f3 : ∀ x1, (zu G 0 0 0 3 (n + 1)) 3 0 0 x1 = G 3 0 0 x1 := fun x1 => h _ _ _ _ (by omega)
  have f6 : ∀ x1 x2, (zu G 0 0 0 3 (n + 1)) 6 x1 0 x2 = G 6 x1 0 x2 := fun x1 x2 => h _ _ _ _ (by omega)
  have f11 : ∀ x1 x2, (zu G 0 0 0 3 (n + 1)) 11 x1 0 x2 = G 11 x1 0 x2 := fun x1 x2 => h _ _ _ _ (by omega)
  have f15 : ∀ x1 x2, (zu G 0 0 0 3 (n + 1)) 15 x1 0 x2 = G 15 x1 0 x2 := fun x1 x2 => h _ _ _ _ (by omega)
  have f22 : ∀ x1 x2, (zu G 0 0 0 3 (n + 1)) 22 x1 0 x2 = G 22 x1 0 x2 := fun x1 x2 => h _ _ _ _ (by omega)
  have f23 : ∀ x1 x2, (zu G 0 0 0 3 (n + 1)) 23 x1 0 x2 = G 23 x1 0 x2 := fun x1 x2 => h _ _ _ _ (by omega)
  have f24 : ∀ x1 x2, (zu G 0 0 0 3 (n + 1)) 24 x1 0 x2 = G 24 x1 0 x2 := fun x1 x2 => h _ _ _ _ (by omega)
  have f33 : ∀ x1 x2, (zu G 0 0 0 3 (n + 1)) 33 0 x1 x2 = G 33 0 x1 x2 := fun x1 x2 => h _ _ _ _ (by omega)
  have f29 : ∀ x1 x2 x3, (zu G 0 0 0 3 (n + 1)) 29 x1 x2 x3 = G 29 x1 x2 x3 := fun x1 x2 x3 => h _ _ _ _ (by omega)
  have f30 : ∀ x1 x2 x3, (zu G 0 0 0 3 (n + 1)) 30 x1 x2 x3 = G 30 x1 x2 x3 := fun x1 x2 x3 => h _ _ _ _ (by omega)
  have f21_0 : ∀ x1, (zu G 0 0 0 3 (n + 1)) 21 x1 0 0 = G 21 x1 0 0 := fun x1 => h _ _ _ _ (by omega)
  have f21_8 : ∀ x1, (zu G 0 0 0 3 (n + 1)) 21 x1 0 8 = G 21 x1 0 8 := fun x1 => h _ _ _ _ (by omega)
  have f21_9 : ∀ x1, (zu G 0 0 0 3 (n + 1)) 21 x1 0 9 = G 21 x1 0 9 := fun x1 => h _ _ _ _ (by omega)
  have u0 : S' 40 0 0 0 = S 40 0 0 0 := hS _ _ _ _ (by omega)
  have u4 : S' 40 0 0 4 = S 40 0 0 4 := hS _ _ _ _ (by omega)
  have u5 : S' 40 0 0 5 = S 40 0 0 5 := hS _ _ _ _ (by omega)
  have u19 : S' 40 0 0 19 = S 40 0 0 19 := hS _ _ _ _ (by omega)
  have u20 : S' 40 0 0 20 = S 40 0 0 20 := hS _ _ _ _ (by omega)
  have u21 : S' 40 0 0 21 = S 40 0 0 21 := hS _ _ _ _ (by omega)
  have u22 : S' 40 0 0 22 = S 40 0 0 22 := hS _ _ _ _ (by omega)
  have u41 : ∀ x1, S' 41 0 0 x1 = S 41 0 0 x1 := fun x1 => hS _ _ _ _ (by omega)
  have u42 : ∀ x1, S' 42 0 0 x1 = S 42 0 0 x1 := fun x1 => hS _ _ _ _ (by omega)
  have u43 : ∀ x1, S' 43 0 0 x1 = S 43 0 0 x1 := fun x1 => hS _ _ _ _ (by omega)
  have u44 : ∀ x1, S' 44 0 0 x1 = S 44 0 0 x1 := fun x1 => hS _ _ _ _ (by omega)
  have u45 : ∀ x1, S' 45 0 0 x1 = S 45 0 0 x1 := fun x1 => hS _ _ _ _ (by omega)
  have u46 : ∀ x1, S' 46 0 0 x1 = S 46 0 0 x1 := fun x1 => hS _ _ _ _ (by omega)
  have u47 : ∀ x1, S' 47 0 0 x1 = S 47 0 0 x1 := fun x1 => hS _ _ _ _ (by omega)
  have u48 : ∀ x1, S' 48 0 0 x1 = S 48 0 0 x1 := fun x1 => hS _ _ _ _ (by omega)
  have u49 : ∀ x1, S' 49 0 0 x1 = S 49 0 0 x1 := fun x1 => hS _ _ _ _ (by omega)
  have u50 : ∀ x1, S' 50 0 0 x1 = S 50 0 0 x1 := fun x1 => hS _ _ _ _ (by omega)
  have u52 : ∀ x1, S' 52 0 0 x1 = S 52 0 0 x1 := fun x1 => hS _ _ _ _ (by omega)
  have u53 : ∀ x1, S' 53 0 0 x1 = S 53 0 0 x1 := fun x1 => hS _ _ _ _ (by omega)
  have u54 : ∀ x1, S' 54 0 0 x1 = S 54 0 0 x1 := fun x1 => hS _ _ _ _ (by omega)
  have u55 : ∀ x1, S' 55 0 0 x1 = S 55 0 0 x1 := fun x1 => hS _ _ _ _ (by omega)
  have u56 : ∀ x1, S' 56 0 0 x1 = S 56 0 0 x1 := fun x1 => hS _ _ _ _ (by omega)
  have u57 : ∀ x1, S' 57 0 0 x1 = S 57 0 0 x1 := fun x1 => hS _ _ _ _ (by omega)
  have u58 : ∀ x1, S' 58 0 0 x1 = S 58 0 0 x1 := fun x1 => hS _ _ _ _ (by omega)
  have u59 : ∀ x1, S' 59 0 0 x1 = S 59 0 0 x1 := fun x1 => hS _ _ _ _ (by omega)
  obtain ⟨r1, r2, r3, r4, r5, r6, r7, r8, r9, r10, r11⟩ := hR
  refine ⟨?_, ?_, ?_, ?_, ?_, ?_, ?_, ?_, ?_, ?_, ?_⟩
  · simp only [f1_0, f1_1, f0_6, f9, f31, f2, f3, f6, f11, f15, f22, f23, f24, f33, f29, f30, f21_0, f21_8, f21_9, u0, u4, u5, u19, u20, u21, u22, u41, u42, u43, u44, u45, u46, u47, u48, u49, u50, u52, u53, u54, u55, u56, u57, u58, u59]; rw [s10, zu_s]; exact ⟨r1.1, r1.2.1, r1.2.2.1, rfl, r1.2.2.2.2⟩
  · simp only [f1_0, f1_1, f0_6, f9, f31, f2, f3, f6, f11, f15, f22, f23, f24, f33, f29, f30, f21_0, f21_8, f21_9, u0, u4, u5, u19, u20, u21, u22, u41, u42, u43, u44, u45, u46, u47, u48, u49, u50, u52, u53, u54, u55, u56, u57, u58, u59]; exact r2
  · simp only [f1_0, f1_1, f0_6, f9, f31, f2, f3, f6, f11, f15, f22, f23, f24, f33, f29, f30, f21_0, f21_8, f21_9, u0, u4, u5, u19, u20, u21, u22, u41, u42, u43, u44, u45, u46, u47, u48, u49, u50, u52, u53, u54, u55, u56, u57, u58, u59]; exact r3
  · simp only [f1_0, f1_1, f0_6, f9, f31, f2, f3, f6, f11, f15, f22, f23, f24, f33, f29, f30, f21_0, f21_8, f21_9, u0, u4, u5, u19, u20, u21, u22, u41, u42, u43, u44, u45, u46, u47, u48, u49, u50, u52, u53, u54, u55, u56, u57, u58, u59]; exact r4
  · simp only [f1_0, f1_1, f0_6, f9, f31, f2, f3, f6, f11, f15, f22, f23, f24, f33, f29, f30, f21_0, f21_8, f21_9, u0, u4, u5, u19, u20, u21, u22, u41, u42, u43, u44, u45, u46, u47, u48, u49, u50, u52, u53, u54, u55, u56, u57, u58, u59]; exact r5
  · simp only [f1_0, f1_1, f0_6, f9, f31, f2, f3, f6, f11, f15, f22, f23, f24, f33, f29, f30, f21_0, f21_8, f21_9, u0, u4, u5, u19, u20, u21, u22, u41, u42, u43, u44, u45, u46, u47, u48, u49, u50, u52, u53, u54, u55, u56, u57, u58, u59]; exact r6
  · simp only [f1_0, f1_1, f0_6, f9, f31, f2, f3, f6, f11, f15, f22, f23, f24, f33, f29, f30, f21_0, f21_8, f21_9, u0, u4, u5, u19, u20, u21, u22, u41, u42, u43, u44, u45, u46, u47, u48, u49, u50, u52, u53, u54, u55, u56, u57, u58, u59]; exact r7
  · simp only [f1_0, f1_1, f0_6, f9, f31, f2, f3, f6, f11, f15, f22, f23, f24, f33, f29, f30, f21_0, f21_8, f21_9, u0, u4, u5, u19, u20, u21, u22, u41, u42, u43, u44, u45, u46, u47, u48, u49, u50, u52, u53, u54, u55, u56, u57, u58, u59]; exact s51
  · simp only [f1_0, f1_1, f0_6, f9, f31, f2, f3, f6, f11, f15, f22, f23, f24, f33, f29, f30, f21_0, f21_8, f21_9, u0, u4, u5, u19, u20, u21, u22, u41, u42, u43, u44, u45, u46, u47, u48, u49, u50, u52, u53, u54, u55, u56, u57, u58, u59]; exact r9
  · simp only [f1_0, f1_1, f0_6, f9, f31, f2, f3, f6, f11, f15, f22, f23, f24, f33, f29, f30, f21_0, f21_8, f21_9, u0, u4, u5, u19, u20, u21, u22, u41, u42, u43, u44, u45, u46, u47, u48, u49, u50, u52, u53, u54, u55, u56, u57, u58, u59]; exact r10
  · simp only [f1_0, f1_1, f0_6, f9, f31, f2, f3, f6, f11, f15, f22, f23, f24, f33, f29, f30, f21_0, f21_8, f21_9, u0, u4, u5, u19, u20, u21, u22, u41, u42, u43, u44, u45, u46, u47, u48, u49, u50, u52, u53, u54, u55, u56, u57, u58, u59]; exact r11
theorem RM_au {G S : zS} (hR : RM G S) {p n c v : Nat} (hp : p < 4) (hn : G 21 p 0 0 = n) (hn6 : n < 6) (hb : ∀ q, q < 4 → 0 ≤ G 21 q 0 0 ∧ G 21 q 0 0 ≤ 6) : RM (auS G p n c v) (zu (zu (zu S 49 0 0 (6 * p + n) c) 50 0 0 (6 * p + n) v) 48 0 0 p (n + 1)) := by
  have h : eqq (fun k i _ m => (k = 21 ∧ i = p ∧ m = 0) ∨ ((k = 22 ∨ k = 23) ∧ i = p ∧ m = n)) G (auS G p n c v) := fun k i j m hk => by
    unfold auS zu
    rw [if_neg (by omega), if_neg (by omega), if_neg (by omega)]
  have hS : eqq (fun k _ _ m => k = 48 ∨ k = 49 ∨ k = 50) S (zu (zu (zu S 49 0 0 (6 * p + n) c) 50 0 0 (6 * p + n) v) 48 0 0 p (n + 1)) := fun k i j m hk => by
    unfold zu
    rw [if_neg (by omega), if_neg (by omega), if_neg (by omega)]
  have g0 : auS G p n c v 21 p 0 0 = n + 1 := zu_s
  have g22 : auS G p n c v 22 p 0 n = c := by unfold auS; rw [zu_k (by decide), zu_k (by decide), zu_s]
  have g23 : auS G p n c v 23 p 0 n = v := by unfold auS; rw [zu_k (by decide), zu_s]
  have s48 : ∀ q, zu (zu (zu S 49 0 0 (6 * p + n) c) 50 0 0 (6 * p + n) v) 48 0 0 p (n + 1) 48 0 0 q = if q = p then (n : Int) + 1 else S 48 0 0 q := fun q => by
    by_cases e : q = p
    · subst e; rw [zu_s, if_pos rfl]
    · rw [zu_n e, if_neg e, zu_k (by decide), zu_k (by decide)]
  have s49 : ∀ q, zu (zu (zu S 49 0 0 (6 * p + n) c) 50 0 0 (6 * p + n) v) 48 0 0 p (n + 1) 49 0 0 q = if q = 6 * p + n then (c : Int) else S 49 0 0 q := fun q => by
    rw [zu_k (by decide), zu_k (by decide)]
    by_cases e : q = 6 * p + n
    · subst e; rw [zu_s, if_pos rfl]
    · rw [zu_n e, if_neg e]
  have s50 : ∀ q, zu (zu (zu S 49 0 0 (6 * p + n) c) 50 0 0 (6 * p + n) v) 48 0 0 p (n + 1) 50 0 0 q = if q = 6 * p + n then (v : Int) else S 50 0 0 q := fun q => by
    rw [zu_k (by decide)]
    by_cases e : q = 6 * p + n
    · subst e; rw [zu_s, if_pos rfl]
    · rw [zu_n e, if_neg e, zu_k (by decide)]
  have f1_0 : (auS G p n c v) 1 0 0 0 = G 1 0 0 0 := h _ _ _ _ (by omega)
  have f1_1 : (auS G p n c v) 1 0 0 1 = G 1 0 0 1 := h _ _ _ _ (by omega)
  have f0_3 : (auS G p n c v) 0 0 0 3 = G 0 0 0 3 := h _ _ _ _ (by omega)
  have f0_6 : (auS G p n c v) 0 0 0 6 = G 0 0 0 6 := h _ _ _ _ (by omega)
  have f9 : (auS G p n c v) 9 0 0 0 = G 9 0 0 0 := h _ _ _ _ (by omega)
  have f31 : ∀ x1, (auS G p n c v) 31 0 0 x1 = G 31 0 0 x1 := fun x1 => h _ _ _ _ (by omega)
  have f2 : ∀ x1, (auS G p n c v) 2 0 0 x1 = G 2 0 0 x1 := fun x1 => h _ _ _ _ (by omega)
  have f3 : ∀ x1, (auS G p n c v) 3 0 0 x1 = G 3 0 0 x1 := fun x1 => h _ _ _ _ (by omega)
  have f6 : ∀ x1 x2, (auS G p n c v) 6 x1 0 x2 = G 6 x1 0 x2 := fun x1 x2 => h _ _ _ _ (by omega)
  have f11 : ∀ x1 x2, (auS G p n c v) 11 x1 0 x2 = G 11 x1 0 x2 := fun x1 x2 => h _ _ _ _ (by omega)
  have f15 : ∀ x1 x2, (auS G p n c v) 15 x1 0 x2 = G 15 x1 0 x2 := fun x1 x2 => h _ _ _ _ (by omega)
  have f24 : ∀ x1 x2, (auS G p n c v) 24 x1 0 x2 = G 24 x1 0 x2 := fun x1 x2 => h _ _ _ _ (by omega)
  have f33 : ∀ x1 x2, (auS G p n c v) 33 0 x1 x2 = G 33 0 x1 x2 := fun x1 x2 => h _ _ _ _ (by omega)
  have f29 : ∀ x1 x2 x3, (auS G p n c v) 29 x1 x2 x3 = G 29 x1 x2 x3 := fun x1 x2 x3 => h _ _ _ _ (by omega)
  have f30 : ∀ x1 x2 x3, (auS G p n c v) 30 x1 x2 x3 = G 30 x1 x2 x3 := fun x1 x2 x3 => h _ _ _ _ (by omega)
  have f21_8 : ∀ x1, (auS G p n c v) 21 x1 0 8 = G 21 x1 0 8 := fun x1 => h _ _ _ _ (by omega)
  have f21_9 : ∀ x1, (auS G p n c v) 21 x1 0 9 = G 21 x1 0 9 := fun x1 => h _ _ _ _ (by omega)
  have u0 : (zu (zu (zu S 49 0 0 (6 * p + n) c) 50 0 0 (6 * p + n) v) 48 0 0 p (n + 1)) 40 0 0 0 = S 40 0 0 0 := hS _ _ _ _ (by omega)
  have u4 : (zu (zu (zu S 49 0 0 (6 * p + n) c) 50 0 0 (6 * p + n) v) 48 0 0 p (n + 1)) 40 0 0 4 = S 40 0 0 4 := hS _ _ _ _ (by omega)
  have u5 : (zu (zu (zu S 49 0 0 (6 * p + n) c) 50 0 0 (6 * p + n) v) 48 0 0 p (n + 1)) 40 0 0 5 = S 40 0 0 5 := hS _ _ _ _ (by omega)
  have u10 : (zu (zu (zu S 49 0 0 (6 * p + n) c) 50 0 0 (6 * p + n) v) 48 0 0 p (n + 1)) 40 0 0 10 = S 40 0 0 10 := hS _ _ _ _ (by omega)
  have u19 : (zu (zu (zu S 49 0 0 (6 * p + n) c) 50 0 0 (6 * p + n) v) 48 0 0 p (n + 1)) 40 0 0 19 = S 40 0 0 19 := hS _ _ _ _ (by omega)
  have u20 : (zu (zu (zu S 49 0 0 (6 * p + n) c) 50 0 0 (6 * p + n) v) 48 0 0 p (n + 1)) 40 0 0 20 = S 40 0 0 20 := hS _ _ _ _ (by omega)
  have u21 : (zu (zu (zu S 49 0 0 (6 * p + n) c) 50 0 0 (6 * p + n) v) 48 0 0 p (n + 1)) 40 0 0 21 = S 40 0 0 21 := hS _ _ _ _ (by omega)
  have u22 : (zu (zu (zu S 49 0 0 (6 * p + n) c) 50 0 0 (6 * p + n) v) 48 0 0 p (n + 1)) 40 0 0 22 = S 40 0 0 22 := hS _ _ _ _ (by omega)
  have u41 : ∀ x1, (zu (zu (zu S 49 0 0 (6 * p + n) c) 50 0 0 (6 * p + n) v) 48 0 0 p (n + 1)) 41 0 0 x1 = S 41 0 0 x1 := fun x1 => hS _ _ _ _ (by omega)
  have u42 : ∀ x1, (zu (zu (zu S 49 0 0 (6 * p + n) c) 50 0 0 (6 * p + n) v) 48 0 0 p (n + 1)) 42 0 0 x1 = S 42 0 0 x1 := fun x1 => hS _ _ _ _ (by omega)
  have u43 : ∀ x1, (zu (zu (zu S 49 0 0 (6 * p + n) c) 50 0 0 (6 * p + n) v) 48 0 0 p (n + 1)) 43 0 0 x1 = S 43 0 0 x1 := fun x1 => hS _ _ _ _ (by omega)
  have u44 : ∀ x1, (zu (zu (zu S 49 0 0 (6 * p + n) c) 50 0 0 (6 * p + n) v) 48 0 0 p (n + 1)) 44 0 0 x1 = S 44 0 0 x1 := fun x1 => hS _ _ _ _ (by omega)
  have u45 : ∀ x1, (zu (zu (zu S 49 0 0 (6 * p + n) c) 50 0 0 (6 * p + n) v) 48 0 0 p (n + 1)) 45 0 0 x1 = S 45 0 0 x1 := fun x1 => hS _ _ _ _ (by omega)
  have u46 : ∀ x1, (zu (zu (zu S 49 0 0 (6 * p + n) c) 50 0 0 (6 * p + n) v) 48 0 0 p (n + 1)) 46 0 0 x1 = S 46 0 0 x1 := fun x1 => hS _ _ _ _ (by omega)
  have u47 : ∀ x1, (zu (zu (zu S 49 0 0 (6 * p + n) c) 50 0 0 (6 * p + n) v) 48 0 0 p (n + 1)) 47 0 0 x1 = S 47 0 0 x1 := fun x1 => hS _ _ _ _ (by omega)
  have u51 : ∀ x1, (zu (zu (zu S 49 0 0 (6 * p + n) c) 50 0 0 (6 * p + n) v) 48 0 0 p (n + 1)) 51 0 0 x1 = S 51 0 0 x1 := fun x1 => hS _ _ _ _ (by omega)
  have u52 : ∀ x1, (zu (zu (zu S 49 0 0 (6 * p + n) c) 50 0 0 (6 * p + n) v) 48 0 0 p (n + 1)) 52 0 0 x1 = S 52 0 0 x1 := fun x1 => hS _ _ _ _ (by omega)
  have u53 : ∀ x1, (zu (zu (zu S 49 0 0 (6 * p + n) c) 50 0 0 (6 * p + n) v) 48 0 0 p (n + 1)) 53 0 0 x1 = S 53 0 0 x1 := fun x1 => hS _ _ _ _ (by omega)
  have u54 : ∀ x1, (zu (zu (zu S 49 0 0 (6 * p + n) c) 50 0 0 (6 * p + n) v) 48 0 0 p (n + 1)) 54 0 0 x1 = S 54 0 0 x1 := fun x1 => hS _ _ _ _ (by omega)
  have u55 : ∀ x1, (zu (zu (zu S 49 0 0 (6 * p + n) c) 50 0 0 (6 * p + n) v) 48 0 0 p (n + 1)) 55 0 0 x1 = S 55 0 0 x1 := fun x1 => hS _ _ _ _ (by omega)
  have u56 : ∀ x1, (zu (zu (zu S 49 0 0 (6 * p + n) c) 50 0 0 (6 * p + n) v) 48 0 0 p (n + 1)) 56 0 0 x1 = S 56 0 0 x1 := fun x1 => hS _ _ _ _ (by omega)
  have u57 : ∀ x1, (zu (zu (zu S 49 0 0 (6 * p + n) c) 50 0 0 (6 * p + n) v) 48 0 0 p (n + 1)) 57 0 0 x1 = S 57 0 0 x1 := fun x1 => hS _ _ _ _ (by omega)
  have u58 : ∀ x1, (zu (zu (zu S 49 0 0 (6 * p + n) c) 50 0 0 (6 * p + n) v) 48 0 0 p (n + 1)) 58 0 0 x1 = S 58 0 0 x1 := fun x1 => hS _ _ _ _ (by omega)
  have u59 : ∀ x1, (zu (zu (zu S 49 0 0 (6 * p + n) c) 50 0 0 (6 * p + n) v) 48 0 0 p (n + 1)) 59 0 0 x1 = S 59 0 0 x1 := fun x1 => hS _ _ _ _ (by omega)
  obtain ⟨r1, r2, r3, r4, r5, r6, r7, r8, r9, r10, r11⟩ := hR
  refine ⟨?_, ?_, ?_, ?_, ?_, ?_, ?_, ?_, ?_, ?_, ?_⟩
  · simp only [f1_0, f1_1, f0_3, f0_6, f9, f31, f2, f3, f6, f11, f15, f24, f33, f29, f30, f21_8, f21_9, u0, u4, u5, u10, u19, u20, u21, u22, u41, u42, u43, u44, u45, u46, u47, u51, u52, u53, u54, u55, u56, u57, u58, u59]; exact r1
  · simp only [f1_0, f1_1, f0_3, f0_6, f9, f31, f2, f3, f6, f11, f15, f24, f33, f29, f30, f21_8, f21_9, u0, u4, u5, u10, u19, u20, u21, u22, u41, u42, u43, u44, u45, u46, u47, u51, u52, u53, u54, u55, u56, u57, u58, u59]; exact r2
  · simp only [f1_0, f1_1, f0_3, f0_6, f9, f31, f2, f3, f6, f11, f15, f24, f33, f29, f30, f21_8, f21_9, u0, u4, u5, u10, u19, u20, u21, u22, u41, u42, u43, u44, u45, u46, u47, u51, u52, u53, u54, u55, u56, u57, u58, u59]; exact r3
  · simp only [f1_0, f1_1, f0_3, f0_6, f9, f31, f2, f3, f6, f11, f15, f24, f33, f29, f30, f21_8, f21_9, u0, u4, u5, u10, u19, u20, u21, u22, u41, u42, u43, u44, u45, u46, u47, u51, u52, u53, u54, u55, u56, u57, u58, u59]; exact r4
  · simp only [f1_0, f1_1, f0_3, f0_6, f9, f31, f2, f3, f6, f11, f15, f24, f33, f29, f30, f21_8, f21_9, u0, u4, u5, u10, u19, u20, u21, u22, u41, u42, u43, u44, u45, u46, u47, u51, u52, u53, u54, u55, u56, u57, u58, u59]; exact r5
  · intro q hq
    simp only [f1_0, f1_1, f0_3, f0_6, f9, f31, f2, f3, f6, f11, f15, f24, f33, f29, f30, f21_8, f21_9, u0, u4, u5, u10, u19, u20, u21, u22, u41, u42, u43, u44, u45, u46, u47, u51, u52, u53, u54, u55, u56, u57, u58, u59]
    rw [s48]
    by_cases e : q = p
    · subst e
      rw [if_pos rfl, g0]
      exact ⟨rfl, (r6 q hq).2⟩
    · rw [if_neg e, h 21 q 0 0 (by omega)]
      exact r6 q hq
  · intro q x hq hx
    rw [s49, s50]
    by_cases e : q = p
    · subst e
      rw [g0] at hx
      by_cases e2 : x = n
      · subst e2
        rw [if_pos rfl, if_pos rfl, g22, g23]
        exact ⟨rfl, rfl⟩
      · rw [if_neg (by omega), if_neg (by omega), h 22 q 0 x (by omega), h 23 q 0 x (by omega)]
        exact r7 q x hq (by omega)
    · rw [h 21 q 0 0 (by omega)] at hx
      have := hb q hq
      rw [if_neg (by omega), if_neg (by omega), h 22 q 0 x (by omega), h 23 q 0 x (by omega)]
      exact r7 q x hq hx
  · simp only [f1_0, f1_1, f0_3, f0_6, f9, f31, f2, f3, f6, f11, f15, f24, f33, f29, f30, f21_8, f21_9, u0, u4, u5, u10, u19, u20, u21, u22, u41, u42, u43, u44, u45, u46, u47, u51, u52, u53, u54, u55, u56, u57, u58, u59]; exact r8
  · simp only [f1_0, f1_1, f0_3, f0_6, f9, f31, f2, f3, f6, f11, f15, f24, f33, f29, f30, f21_8, f21_9, u0, u4, u5, u10, u19, u20, u21, u22, u41, u42, u43, u44, u45, u46, u47, u51, u52, u53, u54, u55, u56, u57, u58, u59]; exact r9
  · simp only [f1_0, f1_1, f0_3, f0_6, f9, f31, f2, f3, f6, f11, f15, f24, f33, f29, f30, f21_8, f21_9, u0, u4, u5, u10, u19, u20, u21, u22, u41, u42, u43, u44, u45, u46, u47, u51, u52, u53, u54, u55, u56, u57, u58, u59]; exact r10
  · simp only [f1_0, f1_1, f0_3, f0_6, f9, f31, f2, f3, f6, f11, f15, f24, f33, f29, f30, f21_8, f21_9, u0, u4, u5, u10, u19, u20, u21, u22, u41, u42, u43, u44, u45, u46, u47, u51, u52, u53, u54, u55, u56, u57, u58, u59]; exact r11
