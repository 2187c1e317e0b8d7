/-! ===== the relation kept: overrides, limits, publishing, successors, snapshots, moves ===== -/
theorem RM_ov {G S : zS} (hR : RM G S) {p t : Nat} {v : Int} (ht : t < 12) (hn12 : G 1 0 0 0 ≤ 12) : RM (ovS G p t v) (zu S 51 0 0 (12 * p + t) v) := by
  have h : eqq (fun k i _ m => (k = 21 ∧ m = 3) ∨ (k = 24 ∧ i = p ∧ m = t) ∨ k = 27) G (ovS G p t v) := fun k i j m hk => by
    unfold ovS zu
    rw [if_neg (by omega), if_neg (by omega), if_neg (by omega)]
  have hS : eqq (fun k _ _ _ => k = 51) S (zu S 51 0 0 (12 * p + t) v) := fun k i j m hk => if_neg (by omega)
  have g1 : ovS G p t v 24 p 0 t = v := by
    unfold ovS
    rw [if_neg (by omega), zu_s]
  have f1_0 : (ovS G p t v) 1 0 0 0 = G 1 0 0 0 := h _ _ _ _ (by omega)
  have f1_1 : (ovS G p t v) 1 0 0 1 = G 1 0 0 1 := h _ _ _ _ (by omega)
  have f0_3 : (ovS G p t v) 0 0 0 3 = G 0 0 0 3 := h _ _ _ _ (by omega)
  have f0_6 : (ovS G p t v) 0 0 0 6 = G 0 0 0 6 := h _ _ _ _ (by omega)
  have f9 : (ovS G p t v) 9 0 0 0 = G 9 0 0 0 := h _ _ _ _ (by omega)
  have f31 : ∀ x1, (ovS G p t v) 31 0 0 x1 = G 31 0 0 x1 := fun x1 => h _ _ _ _ (by omega)
  have f2 : ∀ x1, (ovS G p t v) 2 0 0 x1 = G 2 0 0 x1 := fun x1 => h _ _ _ _ (by omega)
  have f3 : ∀ x1, (ovS G p t v) 3 0 0 x1 = G 3 0 0 x1 := fun x1 => h _ _ _ _ (by omega)
  have f6 : ∀ x1 x2, (ovS G p t v) 6 x1 0 x2 = G 6 x1 0 x2 := fun x1 x2 => h _ _ _ _ (by omega)
  have f11 : ∀ x1 x2, (ovS G p t v) 11 x1 0 x2 = G 11 x1 0 x2 := fun x1 x2 => h _ _ _ _ (by omega)
  have f15 : ∀ x1 x2, (ovS G p t v) 15 x1 0 x2 = G 15 x1 0 x2 := fun x1 x2 => h _ _ _ _ (by omega)
  have f22 : ∀ x1 x2, (ovS G p t v) 22 x1 0 x2 = G 22 x1 0 x2 := fun x1 x2 => h _ _ _ _ (by omega)
  have f23 : ∀ x1 x2, (ovS G p t v) 23 x1 0 x2 = G 23 x1 0 x2 := fun x1 x2 => h _ _ _ _ (by omega)
  have f33 : ∀ x1 x2, (ovS G p t v) 33 0 x1 x2 = G 33 0 x1 x2 := fun x1 x2 => h _ _ _ _ (by omega)
  have f29 : ∀ x1 x2 x3, (ovS G p t v) 29 x1 x2 x3 = G 29 x1 x2 x3 := fun x1 x2 x3 => h _ _ _ _ (by omega)
  have f30 : ∀ x1 x2 x3, (ovS G p t v) 30 x1 x2 x3 = G 30 x1 x2 x3 := fun x1 x2 x3 => h _ _ _ _ (by omega)
  have f21_0 : ∀ x1, (ovS G p t v) 21 x1 0 0 = G 21 x1 0 0 := fun x1 => h _ _ _ _ (by omega)
  have f21_8 : ∀ x1, (ovS G p t v) 21 x1 0 8 = G 21 x1 0 8 := fun x1 => h _ _ _ _ (by omega)
  have f21_9 : ∀ x1, (ovS G p t v) 21 x1 0 9 = G 21 x1 0 9 := fun x1 => h _ _ _ _ (by omega)
  have u0 : (zu S 51 0 0 (12 * p + t) v) 40 0 0 0 = S 40 0 0 0 := hS _ _ _ _ (by omega)
  have u4 : (zu S 51 0 0 (12 * p + t) v) 40 0 0 4 = S 40 0 0 4 := hS _ _ _ _ (by omega)
  have u5 : (zu S 51 0 0 (12 * p + t) v) 40 0 0 5 = S 40 0 0 5 := hS _ _ _ _ (by omega)
  have u10 : (zu S 51 0 0 (12 * p + t) v) 40 0 0 10 = S 40 0 0 10 := hS _ _ _ _ (by omega)
  have u19 : (zu S 51 0 0 (12 * p + t) v) 40 0 0 19 = S 40 0 0 19 := hS _ _ _ _ (by omega)
  have u20 : (zu S 51 0 0 (12 * p + t) v) 40 0 0 20 = S 40 0 0 20 := hS _ _ _ _ (by omega)
  have u21 : (zu S 51 0 0 (12 * p + t) v) 40 0 0 21 = S 40 0 0 21 := hS _ _ _ _ (by omega)
  have u22 : (zu S 51 0 0 (12 * p + t) v) 40 0 0 22 = S 40 0 0 22 := hS _ _ _ _ (by omega)
  have u41 : ∀ x1, (zu S 51 0 0 (12 * p + t) v) 41 0 0 x1 = S 41 0 0 x1 := fun x1 => hS _ _ _ _ (by omega)
  have u42 : ∀ x1, (zu S 51 0 0 (12 * p + t) v) 42 0 0 x1 = S 42 0 0 x1 := fun x1 => hS _ _ _ _ (by omega)
  have u43 : ∀ x1, (zu S 51 0 0 (12 * p + t) v) 43 0 0 x1 = S 43 0 0 x1 := fun x1 => hS _ _ _ _ (by omega)
  have u44 : ∀ x1, (zu S 51 0 0 (12 * p + t) v) 44 0 0 x1 = S 44 0 0 x1 := fun x1 => hS _ _ _ _ (by omega)
  have u45 : ∀ x1, (zu S 51 0 0 (12 * p + t) v) 45 0 0 x1 = S 45 0 0 x1 := fun x1 => hS _ _ _ _ (by omega)
  have u46 : ∀ x1, (zu S 51 0 0 (12 * p + t) v) 46 0 0 x1 = S 46 0 0 x1 := fun x1 => hS _ _ _ _ (by omega)
  have u47 : ∀ x1, (zu S 51 0 0 (12 * p + t) v) 47 0 0 x1 = S 47 0 0 x1 := fun x1 => hS _ _ _ _ (by omega)
  have u48 : ∀ x1, (zu S 51 0 0 (12 * p + t) v) 48 0 0 x1 = S 48 0 0 x1 := fun x1 => hS _ _ _ _ (by omega)
  have u49 : ∀ x1, (zu S 51 0 0 (12 * p + t) v) 49 0 0 x1 = S 49 0 0 x1 := fun x1 => hS _ _ _ _ (by omega)
  have u50 : ∀ x1, (zu S 51 0 0 (12 * p + t) v) 50 0 0 x1 = S 50 0 0 x1 := fun x1 => hS _ _ _ _ (by omega)
  have u52 : ∀ x1, (zu S 51 0 0 (12 * p + t) v) 52 0 0 x1 = S 52 0 0 x1 := fun x1 => hS _ _ _ _ (by omega)
  have u53 : ∀ x1, (zu S 51 0 0 (12 * p + t) v) 53 0 0 x1 = S 53 0 0 x1 := fun x1 => hS _ _ _ _ (by omega)
  have u54 : ∀ x1, (zu S 51 0 0 (12 * p + t) v) 54 0 0 x1 = S 54 0 0 x1 := fun x1 => hS _ _ _ _ (by omega)
  have u55 : ∀ x1, (zu S 51 0 0 (12 * p + t) v) 55 0 0 x1 = S 55 0 0 x1 := fun x1 => hS _ _ _ _ (by omega)
  have u56 : ∀ x1, (zu S 51 0 0 (12 * p + t) v) 56 0 0 x1 = S 56 0 0 x1 := fun x1 => hS _ _ _ _ (by omega)
  have u57 : ∀ x1, (zu S 51 0 0 (12 * p + t) v) 57 0 0 x1 = S 57 0 0 x1 := fun x1 => hS _ _ _ _ (by omega)
  have u58 : ∀ x1, (zu S 51 0 0 (12 * p + t) v) 58 0 0 x1 = S 58 0 0 x1 := fun x1 => hS _ _ _ _ (by omega)
  have u59 : ∀ x1, (zu S 51 0 0 (12 * p + t) v) 59 0 0 x1 = S 59 0 0 x1 := fun x1 => hS _ _ _ _ (by omega)
  obtain ⟨r1, r2, r3, r4, r5, r6, r7, r8, r9, r10, r11⟩ := hR
  refine ⟨?_, ?_, ?_, ?_, ?_, ?_, ?_, ?_, ?_, ?_, ?_⟩
  · simp only [f1_0, f1_1, f0_3, f0_6, f9, f31, f2, f3, f6, f11, f15, f22, f23, f33, f29, f30, f21_0, f21_8, f21_9, u0, u4, u5, u10, u19, u20, u21, u22, u41, u42, u43, u44, u45, u46, u47, u48, u49, u50, u52, u53, u54, u55, u56, u57, u58, u59]; exact r1
  · simp only [f1_0, f1_1, f0_3, f0_6, f9, f31, f2, f3, f6, f11, f15, f22, f23, f33, f29, f30, f21_0, f21_8, f21_9, u0, u4, u5, u10, u19, u20, u21, u22, u41, u42, u43, u44, u45, u46, u47, u48, u49, u50, u52, u53, u54, u55, u56, u57, u58, u59]; exact r2
  · simp only [f1_0, f1_1, f0_3, f0_6, f9, f31, f2, f3, f6, f11, f15, f22, f23, f33, f29, f30, f21_0, f21_8, f21_9, u0, u4, u5, u10, u19, u20, u21, u22, u41, u42, u43, u44, u45, u46, u47, u48, u49, u50, u52, u53, u54, u55, u56, u57, u58, u59]; exact r3
  · simp only [f1_0, f1_1, f0_3, f0_6, f9, f31, f2, f3, f6, f11, f15, f22, f23, f33, f29, f30, f21_0, f21_8, f21_9, u0, u4, u5, u10, u19, u20, u21, u22, u41, u42, u43, u44, u45, u46, u47, u48, u49, u50, u52, u53, u54, u55, u56, u57, u58, u59]; exact r4
  · simp only [f1_0, f1_1, f0_3, f0_6, f9, f31, f2, f3, f6, f11, f15, f22, f23, f33, f29, f30, f21_0, f21_8, f21_9, u0, u4, u5, u10, u19, u20, u21, u22, u41, u42, u43, u44, u45, u46, u47, u48, u49, u50, u52, u53, u54, u55, u56, u57, u58, u59]; exact r5
  · simp only [f1_0, f1_1, f0_3, f0_6, f9, f31, f2, f3, f6, f11, f15, f22, f23, f33, f29, f30, f21_0, f21_8, f21_9, u0, u4, u5, u10, u19, u20, u21, u22, u41, u42, u43, u44, u45, u46, u47, u48, u49, u50, u52, u53, u54, u55, u56, u57, u58, u59]; exact r6
  · simp only [f1_0, f1_1, f0_3, f0_6, f9, f31, f2, f3, f6, f11, f15, f22, f23, f33, f29, f30, f21_0, f21_8, f21_9, u0, u4, u5, u10, u19, u20, u21, u22, u41, u42, u43, u44, u45, u46, u47, u48, u49, u50, u52, u53, u54, u55, u56, u57, u58, u59]; exact r7
  · intro q x hq hx
    rw [f1_0] at hx
    by_cases c : q = p ∧ x = t
    · obtain ⟨rfl, rfl⟩ := c
      rw [zu_s, g1]
    · rw [zu_n (by omega), h 24 q 0 x (by omega)]
      exact r8 q x hq hx
  · simp only [f1_0, f1_1, f0_3, f0_6, f9, f31, f2, f3, f6, f11, f15, f22, f23, f33, f29, f30, f21_0, f21_8, f21_9, u0, u4, u5, u10, u19, u20, u21, u22, u41, u42, u43, u44, u45, u46, u47, u48, u49, u50, u52, u53, u54, u55, u56, u57, u58, u59]; exact r9
  · simp only [f1_0, f1_1, f0_3, f0_6, f9, f31, f2, f3, f6, f11, f15, f22, f23, f33, f29, f30, f21_0, f21_8, f21_9, u0, u4, u5, u10, u19, u20, u21, u22, u41, u42, u43, u44, u45, u46, u47, u48, u49, u50, u52, u53, u54, u55, u56, u57, u58, u59]; exact r10
  · simp only [f1_0, f1_1, f0_3, f0_6, f9, f31, f2, f3, f6, f11, f15, f22, f23, f33, f29, f30, f21_0, f21_8, f21_9, u0, u4, u5, u10, u19, u20, u21, u22, u41, u42, u43, u44, u45, u46, u47, u48, u49, u50, u52, u53, u54, u55, u56, u57, u58, u59]; exact r11
theorem RM_li {G S : zS} (hR : RM G S) {a b c : Int} : RM (liS G a b c) (zu (zu (zu S 40 0 0 19 a) 40 0 0 20 b) 40 0 0 21 c) := by
  have h := liS_e G a b c
  have hS : eqq (fun k _ _ m => k = 40 ∧ (m = 19 ∨ m = 20 ∨ m = 21)) S (zu (zu (zu S 40 0 0 19 a) 40 0 0 20 b) 40 0 0 21 c) := fun k i j m hk => by
    unfold zu
    rw [if_neg (by omega), if_neg (by omega), if_neg (by omega)]
  have g0 : liS G a b c 31 0 0 0 = a := by unfold liS; rw [zu_n (by decide), zu_n (by decide), zu_s]
  have g1 : liS G a b c 31 0 0 1 = b := by unfold liS; rw [zu_n (by decide), zu_s]
  have g2 : liS G a b c 31 0 0 2 = c := by unfold liS; rw [zu_s]
  have s0 : zu (zu (zu S 40 0 0 19 a) 40 0 0 20 b) 40 0 0 21 c 40 0 0 19 = a := by rw [zu_n (by decide), zu_n (by decide), zu_s]
  have s1 : zu (zu (zu S 40 0 0 19 a) 40 0 0 20 b) 40 0 0 21 c 40 0 0 20 = b := by rw [zu_n (by decide), zu_s]
  have s2 : zu (zu (zu S 40 0 0 19 a) 40 0 0 20 b) 40 0 0 21 c 40 0 0 21 = c := by rw [zu_s]
  have f1_0 : (liS G a b c) 1 0 0 0 = G 1 0 0 0 := h _ _ _ _ (by omega)
  have f1_1 : (liS G a b c) 1 0 0 1 = G 1 0 0 1 := h _ _ _ _ (by omega)
  have f0_3 : (liS G a b c) 0 0 0 3 = G 0 0 0 3 := h _ _ _ _ (by omega)
  have f0_6 : (liS G a b c) 0 0 0 6 = G 0 0 0 6 := h _ _ _ _ (by omega)
  have f9 : (liS G a b c) 9 0 0 0 = G 9 0 0 0 := h _ _ _ _ (by omega)
  have f2 : ∀ x1, (liS G a b c) 2 0 0 x1 = G 2 0 0 x1 := fun x1 => h _ _ _ _ (by omega)
  have f3 : ∀ x1, (liS G a b c) 3 0 0 x1 = G 3 0 0 x1 := fun x1 => h _ _ _ _ (by omega)
  have f6 : ∀ x1 x2, (liS G a b c) 6 x1 0 x2 = G 6 x1 0 x2 := fun x1 x2 => h _ _ _ _ (by omega)
  have f11 : ∀ x1 x2, (liS G a b c) 11 x1 0 x2 = G 11 x1 0 x2 := fun x1 x2 => h _ _ _ _ (by omega)
  have f15 : ∀ x1 x2, (liS G a b c) 15 x1 0 x2 = G 15 x1 0 x2 := fun x1 x2 => h _ _ _ _ (by omega)
  have f22 : ∀ x1 x2, (liS G a b c) 22 x1 0 x2 = G 22 x1 0 x2 := fun x1 x2 => h _ _ _ _ (by omega)
  have f23 : ∀ x1 x2, (liS G a b c) 23 x1 0 x2 = G 23 x1 0 x2 := fun x1 x2 => h _ _ _ _ (by omega)
  have f24 : ∀ x1 x2, (liS G a b c) 24 x1 0 x2 = G 24 x1 0 x2 := fun x1 x2 => h _ _ _ _ (by omega)
  have f33 : ∀ x1 x2, (liS G a b c) 33 0 x1 x2 = G 33 0 x1 x2 := fun x1 x2 => h _ _ _ _ (by omega)
  have f29 : ∀ x1 x2 x3, (liS G a b c) 29 x1 x2 x3 = G 29 x1 x2 x3 := fun x1 x2 x3 => h _ _ _ _ (by omega)
  have f30 : ∀ x1 x2 x3, (liS G a b c) 30 x1 x2 x3 = G 30 x1 x2 x3 := fun x1 x2 x3 => h _ _ _ _ (by omega)
  have f21_0 : ∀ x1, (liS G a b c) 21 x1 0 0 = G 21 x1 0 0 := fun x1 => h _ _ _ _ (by omega)
  have f21_8 : ∀ x1, (liS G a b c) 21 x1 0 8 = G 21 x1 0 8 := fun x1 => h _ _ _ _ (by omega)
  have f21_9 : ∀ x1, (liS G a b c) 21 x1 0 9 = G 21 x1 0 9 := fun x1 => h _ _ _ _ (by omega)
  have u0 : (zu (zu (zu S 40 0 0 19 a) 40 0 0 20 b) 40 0 0 21 c) 40 0 0 0 = S 40 0 0 0 := hS _ _ _ _ (by omega)
  have u4 : (zu (zu (zu S 40 0 0 19 a) 40 0 0 20 b) 40 0 0 21 c) 40 0 0 4 = S 40 0 0 4 := hS _ _ _ _ (by omega)
  have u5 : (zu (zu (zu S 40 0 0 19 a) 40 0 0 20 b) 40 0 0 21 c) 40 0 0 5 = S 40 0 0 5 := hS _ _ _ _ (by omega)
  have u10 : (zu (zu (zu S 40 0 0 19 a) 40 0 0 20 b) 40 0 0 21 c) 40 0 0 10 = S 40 0 0 10 := hS _ _ _ _ (by omega)
  have u22 : (zu (zu (zu S 40 0 0 19 a) 40 0 0 20 b) 40 0 0 21 c) 40 0 0 22 = S 40 0 0 22 := hS _ _ _ _ (by omega)
  have u41 : ∀ x1, (zu (zu (zu S 40 0 0 19 a) 40 0 0 20 b) 40 0 0 21 c) 41 0 0 x1 = S 41 0 0 x1 := fun x1 => hS _ _ _ _ (by omega)
  have u42 : ∀ x1, (zu (zu (zu S 40 0 0 19 a) 40 0 0 20 b) 40 0 0 21 c) 42 0 0 x1 = S 42 0 0 x1 := fun x1 => hS _ _ _ _ (by omega)
  have u43 : ∀ x1, (zu (zu (zu S 40 0 0 19 a) 40 0 0 20 b) 40 0 0 21 c) 43 0 0 x1 = S 43 0 0 x1 := fun x1 => hS _ _ _ _ (by omega)
  have u44 : ∀ x1, (zu (zu (zu S 40 0 0 19 a) 40 0 0 20 b) 40 0 0 21 c) 44 0 0 x1 = S 44 0 0 x1 := fun x1 => hS _ _ _ _ (by omega)
  have u45 : ∀ x1, (zu (zu (zu S 40 0 0 19 a) 40 0 0 20 b) 40 0 0 21 c) 45 0 0 x1 = S 45 0 0 x1 := fun x1 => hS _ _ _ _ (by omega)
  have u46 : ∀ x1, (zu (zu (zu S 40 0 0 19 a) 40 0 0 20 b) 40 0 0 21 c) 46 0 0 x1 = S 46 0 0 x1 := fun x1 => hS _ _ _ _ (by omega)
  have u47 : ∀ x1, (zu (zu (zu S 40 0 0 19 a) 40 0 0 20 b) 40 0 0 21 c) 47 0 0 x1 = S 47 0 0 x1 := fun x1 => hS _ _ _ _ (by omega)
  have u48 : ∀ x1, (zu (zu (zu S 40 0 0 19 a) 40 0 0 20 b) 40 0 0 21 c) 48 0 0 x1 = S 48 0 0 x1 := fun x1 => hS _ _ _ _ (by omega)
  have u49 : ∀ x1, (zu (zu (zu S 40 0 0 19 a) 40 0 0 20 b) 40 0 0 21 c) 49 0 0 x1 = S 49 0 0 x1 := fun x1 => hS _ _ _ _ (by omega)
  have u50 : ∀ x1, (zu (zu (zu S 40 0 0 19 a) 40 0 0 20 b) 40 0 0 21 c) 50 0 0 x1 = S 50 0 0 x1 := fun x1 => hS _ _ _ _ (by omega)
  have u51 : ∀ x1, (zu (zu (zu S 40 0 0 19 a) 40 0 0 20 b) 40 0 0 21 c) 51 0 0 x1 = S 51 0 0 x1 := fun x1 => hS _ _ _ _ (by omega)
  have u52 : ∀ x1, (zu (zu (zu S 40 0 0 19 a) 40 0 0 20 b) 40 0 0 21 c) 52 0 0 x1 = S 52 0 0 x1 := fun x1 => hS _ _ _ _ (by omega)
  have u53 : ∀ x1, (zu (zu (zu S 40 0 0 19 a) 40 0 0 20 b) 40 0 0 21 c) 53 0 0 x1 = S 53 0 0 x1 := fun x1 => hS _ _ _ _ (by omega)
  have u54 : ∀ x1, (zu (zu (zu S 40 0 0 19 a) 40 0 0 20 b) 40 0 0 21 c) 54 0 0 x1 = S 54 0 0 x1 := fun x1 => hS _ _ _ _ (by omega)
  have u55 : ∀ x1, (zu (zu (zu S 40 0 0 19 a) 40 0 0 20 b) 40 0 0 21 c) 55 0 0 x1 = S 55 0 0 x1 := fun x1 => hS _ _ _ _ (by omega)
  have u56 : ∀ x1, (zu (zu (zu S 40 0 0 19 a) 40 0 0 20 b) 40 0 0 21 c) 56 0 0 x1 = S 56 0 0 x1 := fun x1 => hS _ _ _ _ (by omega)
  have u57 : ∀ x1, (zu (zu (zu S 40 0 0 19 a) 40 0 0 20 b) 40 0 0 21 c) 57 0 0 x1 = S 57 0 0 x1 := fun x1 => hS _ _ _ _ (by omega)
  have u58 : ∀ x1, (zu (zu (zu S 40 0 0 19 a) 40 0 0 20 b) 40 0 0 21 c) 58 0 0 x1 = S 58 0 0 x1 := fun x1 => hS _ _ _ _ (by omega)
  have u59 : ∀ x1, (zu (zu (zu S 40 0 0 19 a) 40 0 0 20 b) 40 0 0 21 c) 59 0 0 x1 = S 59 0 0 x1 := fun x1 => hS _ _ _ _ (by omega)
  obtain ⟨r1, r2, r3, r4, r5, r6, r7, r8, r9, r10, r11⟩ := hR
  refine ⟨?_, ?_, ?_, ?_, ?_, ?_, ?_, ?_, ?_, ?_, ?_⟩
  · simp only [f1_0, f1_1, f0_3, f0_6, f9, f2, f3, f6, f11, f15, f22, f23, f24, f33, f29, f30, f21_0, f21_8, f21_9, u0, u4, u5, u10, u22, u41, u42, u43, u44, u45, u46, u47, u48, u49, u50, u51, u52, u53, u54, u55, u56, u57, u58, u59]; rw [g0, g1, g2, s0, s1, s2]; exact ⟨r1.1, r1.2.1, r1.2.2.1, r1.2.2.2.1, rfl, rfl, rfl, r1.2.2.2.2.2.2.2⟩
  · simp only [f1_0, f1_1, f0_3, f0_6, f9, f2, f3, f6, f11, f15, f22, f23, f24, f33, f29, f30, f21_0, f21_8, f21_9, u0, u4, u5, u10, u22, u41, u42, u43, u44, u45, u46, u47, u48, u49, u50, u51, u52, u53, u54, u55, u56, u57, u58, u59]; exact r2
  · simp only [f1_0, f1_1, f0_3, f0_6, f9, f2, f3, f6, f11, f15, f22, f23, f24, f33, f29, f30, f21_0, f21_8, f21_9, u0, u4, u5, u10, u22, u41, u42, u43, u44, u45, u46, u47, u48, u49, u50, u51, u52, u53, u54, u55, u56, u57, u58, u59]; exact r3
  · simp only [f1_0, f1_1, f0_3, f0_6, f9, f2, f3, f6, f11, f15, f22, f23, f24, f33, f29, f30, f21_0, f21_8, f21_9, u0, u4, u5, u10, u22, u41, u42, u43, u44, u45, u46, u47, u48, u49, u50, u51, u52, u53, u54, u55, u56, u57, u58, u59]; exact r4
  · simp only [f1_0, f1_1, f0_3, f0_6, f9, f2, f3, f6, f11, f15, f22, f23, f24, f33, f29, f30, f21_0, f21_8, f21_9, u0, u4, u5, u10, u22, u41, u42, u43, u44, u45, u46, u47, u48, u49, u50, u51, u52, u53, u54, u55, u56, u57, u58, u59]; exact r5
  · simp only [f1_0, f1_1, f0_3, f0_6, f9, f2, f3, f6, f11, f15, f22, f23, f24, f33, f29, f30, f21_0, f21_8, f21_9, u0, u4, u5, u10, u22, u41, u42, u43, u44, u45, u46, u47, u48, u49, u50, u51, u52, u53, u54, u55, u56, u57, u58, u59]; exact r6
  · simp only [f1_0, f1_1, f0_3, f0_6, f9, f2, f3, f6, f11, f15, f22, f23, f24, f33, f29, f30, f21_0, f21_8, f21_9, u0, u4, u5, u10, u22, u41, u42, u43, u44, u45, u46, u47, u48, u49, u50, u51, u52, u53, u54, u55, u56, u57, u58, u59]; exact r7
  · simp only [f1_0, f1_1, f0_3, f0_6, f9, f2, f3, f6, f11, f15, f22, f23, f24, f33, f29, f30, f21_0, f21_8, f21_9, u0, u4, u5, u10, u22, u41, u42, u43, u44, u45, u46, u47, u48, u49, u50, u51, u52, u53, u54, u55, u56, u57, u58, u59]; exact r8
  · simp only [f1_0, f1_1, f0_3, f0_6, f9, f2, f3, f6, f11, f15, f22, f23, f24, f33, f29, f30, f21_0, f21_8, f21_9, u0, u4, u5, u10, u22, u41, u42, u43, u44, u45, u46, u47, u48, u49, u50, u51, u52, u53, u54, u55, u56, u57, u58, u59]; exact r9
  · simp only [f1_0, f1_1, f0_3, f0_6, f9, f2, f3, f6, f11, f15, f22, f23, f24, f33, f29, f30, f21_0, f21_8, f21_9, u0, u4, u5, u10, u22, u41, u42, u43, u44, u45, u46, u47, u48, u49, u50, u51, u52, u53, u54, u55, u56, u57, u58, u59]; exact r10
  · simp only [f1_0, f1_1, f0_3, f0_6, f9, f2, f3, f6, f11, f15, f22, f23, f24, f33, f29, f30, f21_0, f21_8, f21_9, u0, u4, u5, u10, u22, u41, u42, u43, u44, u45, u46, u47, u48, u49, u50, u51, u52, u53, u54, u55, u56, u57, u58, u59]; exact r11
theorem RM_pu {G S : zS} (hR : RM G S) {p : Nat} : RM (zu G 21 p 0 8 1) (zu S 52 0 0 p 1) := by
  have h : eqq (fun k i _ m => k = 21 ∧ i = p ∧ m = 8) G (zu G 21 p 0 8 1) := fun k i j m hk => if_neg (by omega)
  have hS : eqq (fun k _ _ m => k = 52 ∧ m = p) S (zu S 52 0 0 p 1) := fun k i j m hk => if_neg (by omega)
  have f1_0 : (zu G 21 p 0 8 1) 1 0 0 0 = G 1 0 0 0 := h _ _ _ _ (by omega)
  have f1_1 : (zu G 21 p 0 8 1) 1 0 0 1 = G 1 0 0 1 := h _ _ _ _ (by omega)
  have f0_3 : (zu G 21 p 0 8 1) 0 0 0 3 = G 0 0 0 3 := h _ _ _ _ (by omega)
  have f0_6 : (zu G 21 p 0 8 1) 0 0 0 6 = G 0 0 0 6 := h _ _ _ _ (by omega)
  have f9 : (zu G 21 p 0 8 1) 9 0 0 0 = G 9 0 0 0 := h _ _ _ _ (by omega)
  have f31 : ∀ x1, (zu G 21 p 0 8 1) 31 0 0 x1 = G 31 0 0 x1 := fun x1 => h _ _ _ _ (by omega)
  have f2 : ∀ x1, (zu G 21 p 0 8 1) 2 0 0 x1 = G 2 0 0 x1 := fun x1 => h _ _ _ _ (by omega)
  have f3 : ∀ x1, (zu G 21 p 0 8 1) 3 0 0 x1 = G 3 0 0 x1 := fun x1 => h _ _ _ _ (by omega)
  have f6 : ∀ x1 x2, (zu G 21 p 0 8 1) 6 x1 0 x2 = G 6 x1 0 x2 := fun x1 x2 => h _ _ _ _ (by omega)
  have f11 : ∀ x1 x2, (zu G 21 p 0 8 1) 11 x1 0 x2 = G 11 x1 0 x2 := fun x1 x2 => h _ _ _ _ (by omega)
  have f15 : ∀ x1 x2, (zu G 21 p 0 8 1) 15 x1 0 x2 = G 15 x1 0 x2 := fun x1 x2 => h _ _ _ _ (by omega)
  have f22 : ∀ x1 x2, (zu G 21 p 0 8 1) 22 x1 0 x2 = G 22 x1 0 x2 := fun x1 x2 => h _ _ _ _ (by omega)
  have f23 : ∀ x1 x2, (zu G 21 p 0 8 1) 23 x1 0 x2 = G 23 x1 0 x2 := fun x1 x2 => h _ _ _ _ (by omega)
  have f24 : ∀ x1 x2, (zu G 21 p 0 8 1) 24 x1 0 x2 = G 24 x1 0 x2 := fun x1 x2 => h _ _ _ _ (by omega)
  have f33 : ∀ x1 x2, (zu G 21 p 0 8 1) 33 0 x1 x2 = G 33 0 x1 x2 := fun x1 x2 => h _ _ _ _ (by omega)
  have f29 : ∀ x1 x2 x3, (zu G 21 p 0 8 1) 29 x1 x2 x3 = G 29 x1 x2 x3 := fun x1 x2 x3 => h _ _ _ _ (by omega)
  have f30 : ∀ x1 x2 x3, (zu G 21 p 0 8 1) 30 x1 x2 x3 = G 30 x1 x2 x3 := fun x1 x2 x3 => h _ _ _ _ (by omega)
  have f21_0 : ∀ x1, (zu G 21 p 0 8 1) 21 x1 0 0 = G 21 x1 0 0 := fun x1 => h _ _ _ _ (by omega)
  have f21_9 : ∀ x1, (zu G 21 p 0 8 1) 21 x1 0 9 = G 21 x1 0 9 := fun x1 => h _ _ _ _ (by omega)
  have u0 : (zu S 52 0 0 p 1) 40 0 0 0 = S 40 0 0 0 := hS _ _ _ _ (by omega)
  have u4 : (zu S 52 0 0 p 1) 40 0 0 4 = S 40 0 0 4 := hS _ _ _ _ (by omega)
  have u5 : (zu S 52 0 0 p 1) 40 0 0 5 = S 40 0 0 5 := hS _ _ _ _ (by omega)
  have u10 : (zu S 52 0 0 p 1) 40 0 0 10 = S 40 0 0 10 := hS _ _ _ _ (by omega)
  have u19 : (zu S 52 0 0 p 1) 40 0 0 19 = S 40 0 0 19 := hS _ _ _ _ (by omega)
  have u20 : (zu S 52 0 0 p 1) 40 0 0 20 = S 40 0 0 20 := hS _ _ _ _ (by omega)
  have u21 : (zu S 52 0 0 p 1) 40 0 0 21 = S 40 0 0 21 := hS _ _ _ _ (by omega)
  have u22 : (zu S 52 0 0 p 1) 40 0 0 22 = S 40 0 0 22 := hS _ _ _ _ (by omega)
  have u41 : ∀ x1, (zu S 52 0 0 p 1) 41 0 0 x1 = S 41 0 0 x1 := fun x1 => hS _ _ _ _ (by omega)
  have u42 : ∀ x1, (zu S 52 0 0 p 1) 42 0 0 x1 = S 42 0 0 x1 := fun x1 => hS _ _ _ _ (by omega)
  have u43 : ∀ x1, (zu S 52 0 0 p 1) 43 0 0 x1 = S 43 0 0 x1 := fun x1 => hS _ _ _ _ (by omega)
  have u44 : ∀ x1, (zu S 52 0 0 p 1) 44 0 0 x1 = S 44 0 0 x1 := fun x1 => hS _ _ _ _ (by omega)
  have u45 : ∀ x1, (zu S 52 0 0 p 1) 45 0 0 x1 = S 45 0 0 x1 := fun x1 => hS _ _ _ _ (by omega)
  have u46 : ∀ x1, (zu S 52 0 0 p 1) 46 0 0 x1 = S 46 0 0 x1 := fun x1 => hS _ _ _ _ (by omega)
  have u47 : ∀ x1, (zu S 52 0 0 p 1) 47 0 0 x1 = S 47 0 0 x1 := fun x1 => hS _ _ _ _ (by omega)
  have u48 : ∀ x1, (zu S 52 0 0 p 1) 48 0 0 x1 = S 48 0 0 x1 := fun x1 => hS _ _ _ _ (by omega)
  have u49 : ∀ x1, (zu S 52 0 0 p 1) 49 0 0 x1 = S 49 0 0 x1 := fun x1 => hS _ _ _ _ (by omega)
  have u50 : ∀ x1, (zu S 52 0 0 p 1) 50 0 0 x1 = S 50 0 0 x1 := fun x1 => hS _ _ _ _ (by omega)
  have u51 : ∀ x1, (zu S 52 0 0 p 1) 51 0 0 x1 = S 51 0 0 x1 := fun x1 => hS _ _ _ _ (by omega)
  have u53 : ∀ x1, (zu S 52 0 0 p 1) 53 0 0 x1 = S 53 0 0 x1 := fun x1 => hS _ _ _ _ (by omega)
  have u54 : ∀ x1, (zu S 52 0 0 p 1) 54 0 0 x1 = S 54 0 0 x1 := fun x1 => hS _ _ _ _ (by omega)
  have u55 : ∀ x1, (zu S 52 0 0 p 1) 55 0 0 x1 = S 55 0 0 x1 := fun x1 => hS _ _ _ _ (by omega)
  have u56 : ∀ x1, (zu S 52 0 0 p 1) 56 0 0 x1 = S 56 0 0 x1 := fun x1 => hS _ _ _ _ (by omega)
  have u57 : ∀ x1, (zu S 52 0 0 p 1) 57 0 0 x1 = S 57 0 0 x1 := fun x1 => hS _ _ _ _ (by omega)
  have u58 : ∀ x1, (zu S 52 0 0 p 1) 58 0 0 x1 = S 58 0 0 x1 := fun x1 => hS _ _ _ _ (by omega)
  have u59 : ∀ x1, (zu S 52 0 0 p 1) 59 0 0 x1 = S 59 0 0 x1 := fun x1 => hS _ _ _ _ (by omega)
  obtain ⟨r1, r2, r3, r4, r5, r6, r7, r8, r9, r10, r11⟩ := hR
  refine ⟨?_, ?_, ?_, ?_, ?_, ?_, ?_, ?_, ?_, ?_, ?_⟩
  · simp only [f1_0, f1_1, f0_3, f0_6, f9, f31, f2, f3, f6, f11, f15, f22, f23, f24, f33, f29, f30, f21_0, f21_9, u0, u4, u5, u10, u19, u20, u21, u22, u41, u42, u43, u44, u45, u46, u47, u48, u49, u50, u51, u53, u54, u55, u56, u57, u58, u59]; exact r1
  · simp only [f1_0, f1_1, f0_3, f0_6, f9, f31, f2, f3, f6, f11, f15, f22, f23, f24, f33, f29, f30, f21_0, f21_9, u0, u4, u5, u10, u19, u20, u21, u22, u41, u42, u43, u44, u45, u46, u47, u48, u49, u50, u51, u53, u54, u55, u56, u57, u58, u59]; exact r2
  · simp only [f1_0, f1_1, f0_3, f0_6, f9, f31, f2, f3, f6, f11, f15, f22, f23, f24, f33, f29, f30, f21_0, f21_9, u0, u4, u5, u10, u19, u20, u21, u22, u41, u42, u43, u44, u45, u46, u47, u48, u49, u50, u51, u53, u54, u55, u56, u57, u58, u59]; exact r3
  · simp only [f1_0, f1_1, f0_3, f0_6, f9, f31, f2, f3, f6, f11, f15, f22, f23, f24, f33, f29, f30, f21_0, f21_9, u0, u4, u5, u10, u19, u20, u21, u22, u41, u42, u43, u44, u45, u46, u47, u48, u49, u50, u51, u53, u54, u55, u56, u57, u58, u59]; exact r4
  · simp only [f1_0, f1_1, f0_3, f0_6, f9, f31, f2, f3, f6, f11, f15, f22, f23, f24, f33, f29, f30, f21_0, f21_9, u0, u4, u5, u10, u19, u20, u21, u22, u41, u42, u43, u44, u45, u46, u47, u48, u49, u50, u51, u53, u54, u55, u56, u57, u58, u59]; exact r5
  · intro q hq
    simp only [f1_0, f1_1, f0_3, f0_6, f9, f31, f2, f3, f6, f11, f15, f22, f23, f24, f33, f29, f30, f21_0, f21_9, u0, u4, u5, u10, u19, u20, u21, u22, u41, u42, u43, u44, u45, u46, u47, u48, u49, u50, u51, u53, u54, u55, u56, u57, u58, u59]
    refine ⟨(r6 q hq).1, ?_, (r6 q hq).2.2⟩
    by_cases e : q = p
    · subst e
      rw [zu_s, zu_s]
    · rw [zu_n e, zu_i e]
      exact (r6 q hq).2.1
  · simp only [f1_0, f1_1, f0_3, f0_6, f9, f31, f2, f3, f6, f11, f15, f22, f23, f24, f33, f29, f30, f21_0, f21_9, u0, u4, u5, u10, u19, u20, u21, u22, u41, u42, u43, u44, u45, u46, u47, u48, u49, u50, u51, u53, u54, u55, u56, u57, u58, u59]; exact r7
  · simp only [f1_0, f1_1, f0_3, f0_6, f9, f31, f2, f3, f6, f11, f15, f22, f23, f24, f33, f29, f30, f21_0, f21_9, u0, u4, u5, u10, u19, u20, u21, u22, u41, u42, u43, u44, u45, u46, u47, u48, u49, u50, u51, u53, u54, u55, u56, u57, u58, u59]; exact r8
  · simp only [f1_0, f1_1, f0_3, f0_6, f9, f31, f2, f3, f6, f11, f15, f22, f23, f24, f33, f29, f30, f21_0, f21_9, u0, u4, u5, u10, u19, u20, u21, u22, u41, u42, u43, u44, u45, u46, u47, u48, u49, u50, u51, u53, u54, u55, u56, u57, u58, u59]; exact r9
  · simp only [f1_0, f1_1, f0_3, f0_6, f9, f31, f2, f3, f6, f11, f15, f22, f23, f24, f33, f29, f30, f21_0, f21_9, u0, u4, u5, u10, u19, u20, u21, u22, u41, u42, u43, u44, u45, u46, u47, u48, u49, u50, u51, u53, u54, u55, u56, u57, u58, u59]; exact r10
  · simp only [f1_0, f1_1, f0_3, f0_6, f9, f31, f2, f3, f6, f11, f15, f22, f23, f24, f33, f29, f30, f21_0, f21_9, u0, u4, u5, u10, u19, u20, u21, u22, u41, u42, u43, u44, u45, u46, u47, u48, u49, u50, u51, u53, u54, u55, u56, u57, u58, u59]; exact r11
theorem RM_de {G S : zS} (hR : RM G S) {a : Nat} {b : Int} : RM (zu G 3 0 0 a b) (zu S 43 0 0 a b) := by
  have h : eqq (fun k _ _ _ => k = 3) G (zu G 3 0 0 a b) := fun k i j m hk => if_neg (by omega)
  have hS : eqq (fun k _ _ m => k = 43) S (zu S 43 0 0 a b) := fun k i j m hk => if_neg (by omega)
  have f1_0 : (zu G 3 0 0 a b) 1 0 0 0 = G 1 0 0 0 := h _ _ _ _ (by omega)
  have f1_1 : (zu G 3 0 0 a b) 1 0 0 1 = G 1 0 0 1 := h _ _ _ _ (by omega)
  have f0_3 : (zu G 3 0 0 a b) 0 0 0 3 = G 0 0 0 3 := h _ _ _ _ (by omega)
  have f0_6 : (zu G 3 0 0 a b) 0 0 0 6 = G 0 0 0 6 := h _ _ _ _ (by omega)
  have f9 : (zu G 3 0 0 a b) 9 0 0 0 = G 9 0 0 0 := h _ _ _ _ (by omega)
  have f31 : ∀ x1, (zu G 3 0 0 a b) 31 0 0 x1 = G 31 0 0 x1 := fun x1 => h _ _ _ _ (by omega)
  have f2 : ∀ x1, (zu G 3 0 0 a b) 2 0 0 x1 = G 2 0 0 x1 := fun x1 => h _ _ _ _ (by omega)
  have f6 : ∀ x1 x2, (zu G 3 0 0 a b) 6 x1 0 x2 = G 6 x1 0 x2 := fun x1 x2 => h _ _ _ _ (by omega)
  have f11 : ∀ x1 x2, (zu G 3 0 0 a b) 11 x1 0 x2 = G 11 x1 0 x2 := fun x1 x2 => h _ _ _ _ (by omega)
  have f15 : ∀ x1 x2, (zu G 3 0 0 a b) 15 x1 0 x2 = G 15 x1 0 x2 := fun x1 x2 => h _ _ _ _ (by omega)
  have f22 : ∀ x1 x2, (zu G 3 0 0 a b) 22 x1 0 x2 = G 22 x1 0 x2 := fun x1 x2 => h _ _ _ _ (by omega)
  have f23 : ∀ x1 x2, (zu G 3 0 0 a b) 23 x1 0 x2 = G 23 x1 0 x2 := fun x1 x2 => h _ _ _ _ (by omega)
  have f24 : ∀ x1 x2, (zu G 3 0 0 a b) 24 x1 0 x2 = G 24 x1 0 x2 := fun x1 x2 => h _ _ _ _ (by omega)
  have f33 : ∀ x1 x2, (zu G 3 0 0 a b) 33 0 x1 x2 = G 33 0 x1 x2 := fun x1 x2 => h _ _ _ _ (by omega)
  have f29 : ∀ x1 x2 x3, (zu G 3 0 0 a b) 29 x1 x2 x3 = G 29 x1 x2 x3 := fun x1 x2 x3 => h _ _ _ _ (by omega)
  have f30 : ∀ x1 x2 x3, (zu G 3 0 0 a b) 30 x1 x2 x3 = G 30 x1 x2 x3 := fun x1 x2 x3 => h _ _ _ _ (by omega)
  have f21_0 : ∀ x1, (zu G 3 0 0 a b) 21 x1 0 0 = G 21 x1 0 0 := fun x1 => h _ _ _ _ (by omega)
  have f21_8 : ∀ x1, (zu G 3 0 0 a b) 21 x1 0 8 = G 21 x1 0 8 := fun x1 => h _ _ _ _ (by omega)
  have f21_9 : ∀ x1, (zu G 3 0 0 a b) 21 x1 0 9 = G 21 x1 0 9 := fun x1 => h _ _ _ _ (by omega)
  have u0 : (zu S 43 0 0 a b) 40 0 0 0 = S 40 0 0 0 := hS _ _ _ _ (by omega)
  have u4 : (zu S 43 0 0 a b) 40 0 0 4 = S 40 0 0 4 := hS _ _ _ _ (by omega)
  have u5 : (zu S 43 0 0 a b) 40 0 0 5 = S 40 0 0 5 := hS _ _ _ _ (by omega)
  have u10 : (zu S 43 0 0 a b) 40 0 0 10 = S 40 0 0 10 := hS _ _ _ _ (by omega)
  have u19 : (zu S 43 0 0 a b) 40 0 0 19 = S 40 0 0 19 := hS _ _ _ _ (by omega)
  have u20 : (zu S 43 0 0 a b) 40 0 0 20 = S 40 0 0 20 := hS _ _ _ _ (by omega)
  have u21 : (zu S 43 0 0 a b) 40 0 0 21 = S 40 0 0 21 := hS _ _ _ _ (by omega)
  have u22 : (zu S 43 0 0 a b) 40 0 0 22 = S 40 0 0 22 := hS _ _ _ _ (by omega)
  have u41 : ∀ x1, (zu S 43 0 0 a b) 41 0 0 x1 = S 41 0 0 x1 := fun x1 => hS _ _ _ _ (by omega)
  have u42 : ∀ x1, (zu S 43 0 0 a b) 42 0 0 x1 = S 42 0 0 x1 := fun x1 => hS _ _ _ _ (by omega)
  have u44 : ∀ x1, (zu S 43 0 0 a b) 44 0 0 x1 = S 44 0 0 x1 := fun x1 => hS _ _ _ _ (by omega)
  have u45 : ∀ x1, (zu S 43 0 0 a b) 45 0 0 x1 = S 45 0 0 x1 := fun x1 => hS _ _ _ _ (by omega)
  have u46 : ∀ x1, (zu S 43 0 0 a b) 46 0 0 x1 = S 46 0 0 x1 := fun x1 => hS _ _ _ _ (by omega)
  have u47 : ∀ x1, (zu S 43 0 0 a b) 47 0 0 x1 = S 47 0 0 x1 := fun x1 => hS _ _ _ _ (by omega)
  have u48 : ∀ x1, (zu S 43 0 0 a b) 48 0 0 x1 = S 48 0 0 x1 := fun x1 => hS _ _ _ _ (by omega)
  have u49 : ∀ x1, (zu S 43 0 0 a b) 49 0 0 x1 = S 49 0 0 x1 := fun x1 => hS _ _ _ _ (by omega)
  have u50 : ∀ x1, (zu S 43 0 0 a b) 50 0 0 x1 = S 50 0 0 x1 := fun x1 => hS _ _ _ _ (by omega)
  have u51 : ∀ x1, (zu S 43 0 0 a b) 51 0 0 x1 = S 51 0 0 x1 := fun x1 => hS _ _ _ _ (by omega)
  have u52 : ∀ x1, (zu S 43 0 0 a b) 52 0 0 x1 = S 52 0 0 x1 := fun x1 => hS _ _ _ _ (by omega)
  have u53 : ∀ x1, (zu S 43 0 0 a b) 53 0 0 x1 = S 53 0 0 x1 := fun x1 => hS _ _ _ _ (by omega)
  have u54 : ∀ x1, (zu S 43 0 0 a b) 54 0 0 x1 = S 54 0 0 x1 := fun x1 => hS _ _ _ _ (by omega)
  have u55 : ∀ x1, (zu S 43 0 0 a b) 55 0 0 x1 = S 55 0 0 x1 := fun x1 => hS _ _ _ _ (by omega)
  have u56 : ∀ x1, (zu S 43 0 0 a b) 56 0 0 x1 = S 56 0 0 x1 := fun x1 => hS _ _ _ _ (by omega)
  have u57 : ∀ x1, (zu S 43 0 0 a b) 57 0 0 x1 = S 57 0 0 x1 := fun x1 => hS _ _ _ _ (by omega)
  have u58 : ∀ x1, (zu S 43 0 0 a b) 58 0 0 x1 = S 58 0 0 x1 := fun x1 => hS _ _ _ _ (by omega)
  have u59 : ∀ x1, (zu S 43 0 0 a b) 59 0 0 x1 = S 59 0 0 x1 := fun x1 => hS _ _ _ _ (by omega)
  obtain ⟨r1, r2, r3, r4, r5, r6, r7, r8, r9, r10, r11⟩ := hR
  refine ⟨?_, ?_, ?_, ?_, ?_, ?_, ?_, ?_, ?_, ?_, ?_⟩
  · simp only [f1_0, f1_1, f0_3, f0_6, f9, f31, f2, f6, f11, f15, f22, f23, f24, f33, f29, f30, f21_0, f21_8, f21_9, u0, u4, u5, u10, u19, u20, u21, u22, u41, u42, u44, u45, u46, u47, u48, u49, u50, u51, u52, u53, u54, u55, u56, u57, u58, u59]; exact r1
  · simp only [f1_0, f1_1, f0_3, f0_6, f9, f31, f2, f6, f11, f15, f22, f23, f24, f33, f29, f30, f21_0, f21_8, f21_9, u0, u4, u5, u10, u19, u20, u21, u22, u41, u42, u44, u45, u46, u47, u48, u49, u50, u51, u52, u53, u54, u55, u56, u57, u58, u59]
    refine ⟨r2.1, fun t ht => ?_⟩
    by_cases e : t = a
    · subst e
      rw [zu_s, zu_s]
    · rw [zu_n e, zu_n e]
      exact r2.2 t ht
  · simp only [f1_0, f1_1, f0_3, f0_6, f9, f31, f2, f6, f11, f15, f22, f23, f24, f33, f29, f30, f21_0, f21_8, f21_9, u0, u4, u5, u10, u19, u20, u21, u22, u41, u42, u44, u45, u46, u47, u48, u49, u50, u51, u52, u53, u54, u55, u56, u57, u58, u59]; exact r3
  · simp only [f1_0, f1_1, f0_3, f0_6, f9, f31, f2, f6, f11, f15, f22, f23, f24, f33, f29, f30, f21_0, f21_8, f21_9, u0, u4, u5, u10, u19, u20, u21, u22, u41, u42, u44, u45, u46, u47, u48, u49, u50, u51, u52, u53, u54, u55, u56, u57, u58, u59]; exact r4
  · simp only [f1_0, f1_1, f0_3, f0_6, f9, f31, f2, f6, f11, f15, f22, f23, f24, f33, f29, f30, f21_0, f21_8, f21_9, u0, u4, u5, u10, u19, u20, u21, u22, u41, u42, u44, u45, u46, u47, u48, u49, u50, u51, u52, u53, u54, u55, u56, u57, u58, u59]; exact r5
  · simp only [f1_0, f1_1, f0_3, f0_6, f9, f31, f2, f6, f11, f15, f22, f23, f24, f33, f29, f30, f21_0, f21_8, f21_9, u0, u4, u5, u10, u19, u20, u21, u22, u41, u42, u44, u45, u46, u47, u48, u49, u50, u51, u52, u53, u54, u55, u56, u57, u58, u59]; exact r6
  · simp only [f1_0, f1_1, f0_3, f0_6, f9, f31, f2, f6, f11, f15, f22, f23, f24, f33, f29, f30, f21_0, f21_8, f21_9, u0, u4, u5, u10, u19, u20, u21, u22, u41, u42, u44, u45, u46, u47, u48, u49, u50, u51, u52, u53, u54, u55, u56, u57, u58, u59]; exact r7
  · simp only [f1_0, f1_1, f0_3, f0_6, f9, f31, f2, f6, f11, f15, f22, f23, f24, f33, f29, f30, f21_0, f21_8, f21_9, u0, u4, u5, u10, u19, u20, u21, u22, u41, u42, u44, u45, u46, u47, u48, u49, u50, u51, u52, u53, u54, u55, u56, u57, u58, u59]; exact r8
  · simp only [f1_0, f1_1, f0_3, f0_6, f9, f31, f2, f6, f11, f15, f22, f23, f24, f33, f29, f30, f21_0, f21_8, f21_9, u0, u4, u5, u10, u19, u20, u21, u22, u41, u42, u44, u45, u46, u47, u48, u49, u50, u51, u52, u53, u54, u55, u56, u57, u58, u59]; exact r9
  · simp only [f1_0, f1_1, f0_3, f0_6, f9, f31, f2, f6, f11, f15, f22, f23, f24, f33, f29, f30, f21_0, f21_8, f21_9, u0, u4, u5, u10, u19, u20, u21, u22, u41, u42, u44, u45, u46, u47, u48, u49, u50, u51, u52, u53, u54, u55, u56, u57, u58, u59]; exact r10
  · simp only [f1_0, f1_1, f0_3, f0_6, f9, f31, f2, f6, f11, f15, f22, f23, f24, f33, f29, f30, f21_0, f21_8, f21_9, u0, u4, u5, u10, u19, u20, u21, u22, u41, u42, u44, u45, u46, u47, u48, u49, u50, u51, u52, u53, u54, u55, u56, u57, u58, u59]; exact r11
/-- a snapshot more -/
def snF (G : zS) (s th p : Nat) : zS := fun k i j m => if k = 0 ∧ i = 0 ∧ j = 0 ∧ m = 6 then s + 1 else if k = 33 ∧ i = 0 ∧ j = s ∧ m = 0 then th else if k = 33 ∧ i = 0 ∧ j = s ∧ m = 1 then p else if k = 29 ∧ i = 4 ∧ j = s ∧ m = 0 then G 21 p 0 5 else if k = 30 ∧ i = 4 ∧ j = s ∧ (m : Int) < 3 * G 21 p 0 5 then vaI G p th m else G k i j m
theorem snF_e (G : zS) (s th p : Nat) : eqq (fun k i j m => (k = 0 ∧ m = 6) ∨ (k = 33 ∧ j = s) ∨ ((k = 29 ∨ k = 30) ∧ i = 4 ∧ j = s)) G (snF G s th p) := fun k i j m h => by
  unfold snF
  rw [if_neg (by omega), if_neg (by omega), if_neg (by omega), if_neg (by omega), if_neg (by omega)]
theorem snF_S {S S2 S' : zS} (hS : inv0 S) {s th p : Nat} (hth : (th : Int) < S 1 0 0 1) (hp : (p : Int) < S 0 0 0 3) (hc : cqI (zu (zu S 33 0 s 0 th) 33 0 s 1 p) S2) (hv : vwI S2 p th 5 0) (hS' : S' = zu (cvI S2 4 s 5 0 (S 21 p 0 5).toNat) 0 0 0 6 (s + 1)) : eqq drP (snF S s th p) S' := by
  have hnp := hS.1.2.2.2.2.1
  have hnh := hS.1.1.2.1
  have hrg := (rg_tok hS.1 (p := p) (by omega)).1
  have hb : ∀ k i j n, ¬ caP k i j n → ¬ (k = 33 ∧ j = s) → S2 k i j n = S k i j n := fun k i j n h1 h2 => by
    rw [hc.1 k i j n h1]
    unfold zu
    rw [if_neg (by omega), if_neg (by omega)]
  have e5 : S2 21 p 0 5 = S 21 p 0 5 := hb _ _ _ _ (by omega) (by omega)
  have hv2 := hv (S 21 p 0 5).toNat (by omega)
  intro k i j m hk
  subst hS'
  unfold snF
  by_cases c0 : k = 0 ∧ i = 0 ∧ j = 0 ∧ m = 6
  · obtain ⟨rfl, rfl, rfl, rfl⟩ := c0
    rw [zu_s, if_pos ⟨rfl, rfl, rfl, rfl⟩]
  · rw [if_neg c0, show zu (cvI S2 4 s 5 0 (S 21 p 0 5).toNat) 0 0 0 6 (s + 1) k i j m = cvI S2 4 s 5 0 (S 21 p 0 5).toNat k i j m from if_neg c0]
    unfold cvI cpI
    dsimp only
    by_cases c1 : k = 30 ∧ i = 4 ∧ j = s ∧ (m : Int) < 3 * S 21 p 0 5
    · obtain ⟨rfl, rfl, rfl, c1⟩ := c1
      rw [if_pos ⟨rfl, rfl, rfl, by omega, by omega⟩, if_neg (by omega), if_neg (by omega), if_neg (by omega), if_pos ⟨rfl, rfl, rfl, c1⟩, zu_k (by decide), Nat.zero_add, Nat.sub_zero, hv2.2 m (by omega)]
      unfold vaI
      rw [vlS_congr (S := S) (ov := S 24 p 0) (fun r t => hb _ _ _ _ (by omega) (by omega)) (fun t => hb _ _ _ _ (by omega) (by omega)) 3, hb 25 p 0 m (by omega) (by omega)]
    · rw [if_neg (by omega)]
      by_cases c2 : k = 29 ∧ i = 4 ∧ j = s ∧ m = 0
      · obtain ⟨rfl, rfl, rfl, rfl⟩ := c2
        rw [zu_s, if_neg (by omega), if_neg (by omega), if_pos ⟨rfl, rfl, rfl, rfl⟩]
        omega
      · rw [show zu S2 29 4 s 0 ((S 21 p 0 5).toNat : Int) k i j m = S2 k i j m from if_neg c2]
        by_cases c3 : k = 33 ∧ i = 0 ∧ j = s ∧ m = 0
        · obtain ⟨rfl, rfl, rfl, rfl⟩ := c3
          rw [if_pos ⟨rfl, rfl, rfl, rfl⟩, hc.1 _ _ _ _ (by omega), zu_n (by decide), zu_s]
        · rw [if_neg c3]
          by_cases c4 : k = 33 ∧ i = 0 ∧ j = s ∧ m = 1
          · obtain ⟨rfl, rfl, rfl, rfl⟩ := c4
            rw [if_pos ⟨rfl, rfl, rfl, rfl⟩, hc.1 _ _ _ _ (by omega), zu_s]
          · rw [if_neg c4, if_neg c2, if_neg c1, hc.1 k i j m (by omega)]
            unfold zu
            rw [if_neg c4, if_neg c3]
theorem RM_sn {G S S' : zS} (hR : RM G S) {s th p n : Nat} (hs : G 0 0 0 6 = s) (hn : G 21 p 0 5 = n) (hn24 : n ≤ 24) (hb : ∀ s' : Nat, s' < 8 → 0 ≤ G 29 4 s' 0 ∧ G 29 4 s' 0 ≤ 24) (hs8 : s < 8) (hS : eqq (fun k _ _ m => (k = 40 ∧ m = 22) ∨ k = 56 ∨ k = 57 ∨ k = 58 ∨ k = 59) S S') (s22 : S' 40 0 0 22 = s + 1) (s56 : ∀ x, S' 56 0 0 x = if x = s then (p : Int) else S 56 0 0 x) (s57 : ∀ x, S' 57 0 0 x = if x = s then (th : Int) else S 57 0 0 x) (s58 : ∀ x, S' 58 0 0 x = if x = s then (n : Int) else S 58 0 0 x) (s59 : ∀ k, k < 3 * n → S' 59 0 0 (72 * s + k) = vaI G p th k) (s59' : ∀ x, x < 72 * s → S' 59 0 0 x = S 59 0 0 x) : RM (snF G s th p) S' := by
  have h := snF_e G s th p
  have g6 : snF G s th p 0 0 0 6 = s + 1 := by unfold snF; rw [if_pos ⟨rfl, rfl, rfl, rfl⟩]
  have g330 : snF G s th p 33 0 s 0 = th := by unfold snF; rw [if_neg (by omega), if_pos ⟨rfl, rfl, rfl, rfl⟩]
  have g331 : snF G s th p 33 0 s 1 = p := by unfold snF; rw [if_neg (by omega), if_neg (by omega), if_pos ⟨rfl, rfl, rfl, rfl⟩]
  have g29 : snF G s th p 29 4 s 0 = n := by unfold snF; rw [if_neg (by omega), if_neg (by omega), if_neg (by omega), if_pos ⟨rfl, rfl, rfl, rfl⟩, hn]
  have g30 : ∀ k, k < 3 * n → snF G s th p 30 4 s k = vaI G p th k := fun k hk => by unfold snF; rw [if_neg (by omega), if_neg (by omega), if_neg (by omega), if_neg (by omega), if_pos ⟨rfl, rfl, rfl, by omega⟩]
  have f1_0 : (snF G s th p) 1 0 0 0 = G 1 0 0 0 := h _ _ _ _ (by omega)
  have f1_1 : (snF G s th p) 1 0 0 1 = G 1 0 0 1 := h _ _ _ _ (by omega)
  have f0_3 : (snF G s th p) 0 0 0 3 = G 0 0 0 3 := h _ _ _ _ (by omega)
  have f9 : (snF G s th p) 9 0 0 0 = G 9 0 0 0 := h _ _ _ _ (by omega)
  have f31 : ∀ x1, (snF G s th p) 31 0 0 x1 = G 31 0 0 x1 := fun x1 => h _ _ _ _ (by omega)
  have f2 : ∀ x1, (snF G s th p) 2 0 0 x1 = G 2 0 0 x1 := fun x1 => h _ _ _ _ (by omega)
  have f3 : ∀ x1, (snF G s th p) 3 0 0 x1 = G 3 0 0 x1 := fun x1 => h _ _ _ _ (by omega)
  have f6 : ∀ x1 x2, (snF G s th p) 6 x1 0 x2 = G 6 x1 0 x2 := fun x1 x2 => h _ _ _ _ (by omega)
  have f11 : ∀ x1 x2, (snF G s th p) 11 x1 0 x2 = G 11 x1 0 x2 := fun x1 x2 => h _ _ _ _ (by omega)
  have f15 : ∀ x1 x2, (snF G s th p) 15 x1 0 x2 = G 15 x1 0 x2 := fun x1 x2 => h _ _ _ _ (by omega)
  have f22 : ∀ x1 x2, (snF G s th p) 22 x1 0 x2 = G 22 x1 0 x2 := fun x1 x2 => h _ _ _ _ (by omega)
  have f23 : ∀ x1 x2, (snF G s th p) 23 x1 0 x2 = G 23 x1 0 x2 := fun x1 x2 => h _ _ _ _ (by omega)
  have f24 : ∀ x1 x2, (snF G s th p) 24 x1 0 x2 = G 24 x1 0 x2 := fun x1 x2 => h _ _ _ _ (by omega)
  have f21_0 : ∀ x1, (snF G s th p) 21 x1 0 0 = G 21 x1 0 0 := fun x1 => h _ _ _ _ (by omega)
  have f21_8 : ∀ x1, (snF G s th p) 21 x1 0 8 = G 21 x1 0 8 := fun x1 => h _ _ _ _ (by omega)
  have f21_9 : ∀ x1, (snF G s th p) 21 x1 0 9 = G 21 x1 0 9 := fun x1 => h _ _ _ _ (by omega)
  have u0 : S' 40 0 0 0 = S 40 0 0 0 := hS _ _ _ _ (by omega)
  have u4 : S' 40 0 0 4 = S 40 0 0 4 := hS _ _ _ _ (by omega)
  have u5 : S' 40 0 0 5 = S 40 0 0 5 := hS _ _ _ _ (by omega)
  have u10 : S' 40 0 0 10 = S 40 0 0 10 := hS _ _ _ _ (by omega)
  have u19 : S' 40 0 0 19 = S 40 0 0 19 := hS _ _ _ _ (by omega)
  have u20 : S' 40 0 0 20 = S 40 0 0 20 := hS _ _ _ _ (by omega)
  have u21 : S' 40 0 0 21 = S 40 0 0 21 := hS _ _ _ _ (by omega)
  have u41 : ∀ x1, S' 41 0 0 x1 = S 41 0 0 x1 := fun x1 => hS _ _ _ _ (by omega)
  have u42 : ∀ x1, S' 42 0 0 x1 = S 42 0 0 x1 := fun x1 => hS _ _ _ _ (by omega)
  have u43 : ∀ x1, S' 43 0 0 x1 = S 43 0 0 x1 := fun x1 => hS _ _ _ _ (by omega)
  have u44 : ∀ x1, S' 44 0 0 x1 = S 44 0 0 x1 := fun x1 => hS _ _ _ _ (by omega)
  have u45 : ∀ x1, S' 45 0 0 x1 = S 45 0 0 x1 := fun x1 => hS _ _ _ _ (by omega)
  have u46 : ∀ x1, S' 46 0 0 x1 = S 46 0 0 x1 := fun x1 => hS _ _ _ _ (by omega)
  have u47 : ∀ x1, S' 47 0 0 x1 = S 47 0 0 x1 := fun x1 => hS _ _ _ _ (by omega)
  have u48 : ∀ x1, S' 48 0 0 x1 = S 48 0 0 x1 := fun x1 => hS _ _ _ _ (by omega)
  have u49 : ∀ x1, S' 49 0 0 x1 = S 49 0 0 x1 := fun x1 => hS _ _ _ _ (by omega)
  have u50 : ∀ x1, S' 50 0 0 x1 = S 50 0 0 x1 := fun x1 => hS _ _ _ _ (by omega)
  have u51 : ∀ x1, S' 51 0 0 x1 = S 51 0 0 x1 := fun x1 => hS _ _ _ _ (by omega)
  have u52 : ∀ x1, S' 52 0 0 x1 = S 52 0 0 x1 := fun x1 => hS _ _ _ _ (by omega)
  have u53 : ∀ x1, S' 53 0 0 x1 = S 53 0 0 x1 := fun x1 => hS _ _ _ _ (by omega)
  have u54 : ∀ x1, S' 54 0 0 x1 = S 54 0 0 x1 := fun x1 => hS _ _ _ _ (by omega)
  have u55 : ∀ x1, S' 55 0 0 x1 = S 55 0 0 x1 := fun x1 => hS _ _ _ _ (by omega)
  obtain ⟨r1, r2, r3, r4, r5, r6, r7, r8, r9, r10, r11⟩ := hR
  refine ⟨?_, ?_, ?_, ?_, ?_, ?_, ?_, ?_, ?_, ?_, ?_⟩
  · simp only [f1_0, f1_1, f0_3, f9, f31, f2, f3, f6, f11, f15, f22, f23, f24, f21_0, f21_8, f21_9, u0, u4, u5, u10, u19, u20, u21, u41, u42, u43, u44, u45, u46, u47, u48, u49, u50, u51, u52, u53, u54, u55]; rw [s22, g6]; exact ⟨r1.1, r1.2.1, r1.2.2.1, r1.2.2.2.1, r1.2.2.2.2.1, r1.2.2.2.2.2.1, r1.2.2.2.2.2.2.1, rfl⟩
  · simp only [f1_0, f1_1, f0_3, f9, f31, f2, f3, f6, f11, f15, f22, f23, f24, f21_0, f21_8, f21_9, u0, u4, u5, u10, u19, u20, u21, u41, u42, u43, u44, u45, u46, u47, u48, u49, u50, u51, u52, u53, u54, u55]; exact r2
  · simp only [f1_0, f1_1, f0_3, f9, f31, f2, f3, f6, f11, f15, f22, f23, f24, f21_0, f21_8, f21_9, u0, u4, u5, u10, u19, u20, u21, u41, u42, u43, u44, u45, u46, u47, u48, u49, u50, u51, u52, u53, u54, u55]; exact r3
  · simp only [f1_0, f1_1, f0_3, f9, f31, f2, f3, f6, f11, f15, f22, f23, f24, f21_0, f21_8, f21_9, u0, u4, u5, u10, u19, u20, u21, u41, u42, u43, u44, u45, u46, u47, u48, u49, u50, u51, u52, u53, u54, u55]; exact r4
  · simp only [f1_0, f1_1, f0_3, f9, f31, f2, f3, f6, f11, f15, f22, f23, f24, f21_0, f21_8, f21_9, u0, u4, u5, u10, u19, u20, u21, u41, u42, u43, u44, u45, u46, u47, u48, u49, u50, u51, u52, u53, u54, u55]; exact r5
  · intro q hq
    simp only [f1_0, f1_1, f0_3, f9, f31, f2, f3, f6, f11, f15, f22, f23, f24, f21_0, f21_8, f21_9, u0, u4, u5, u10, u19, u20, u21, u41, u42, u43, u44, u45, u46, u47, u48, u49, u50, u51, u52, u53, u54, u55]
    rw [h 29 q 0 0 (by omega)]
    exact r6 q hq
  · simp only [f1_0, f1_1, f0_3, f9, f31, f2, f3, f6, f11, f15, f22, f23, f24, f21_0, f21_8, f21_9, u0, u4, u5, u10, u19, u20, u21, u41, u42, u43, u44, u45, u46, u47, u48, u49, u50, u51, u52, u53, u54, u55]; exact r7
  · simp only [f1_0, f1_1, f0_3, f9, f31, f2, f3, f6, f11, f15, f22, f23, f24, f21_0, f21_8, f21_9, u0, u4, u5, u10, u19, u20, u21, u41, u42, u43, u44, u45, u46, u47, u48, u49, u50, u51, u52, u53, u54, u55]; exact r8
  · intro q t k hq ht hk
    rw [h 29 q 0 0 (by omega)] at hk
    rw [f21_9] at ht
    rw [u55, h 30 q t k (by omega)]
    exact r9 q t k hq ht hk
  · intro x hx
    rw [g6] at hx
    rw [s56, s57, s58]
    by_cases e : x = s
    · subst e
      rw [if_pos rfl, if_pos rfl, if_pos rfl, g330, g331, g29]
      exact ⟨rfl, rfl, rfl⟩
    · rw [if_neg e, if_neg e, if_neg e, h 33 0 x 0 (by omega), h 33 0 x 1 (by omega), h 29 4 x 0 (by omega)]
      exact r10 x (by omega)
  · intro x k hx hk
    rw [g6] at hx
    by_cases e : x = s
    · subst e
      rw [g29] at hk
      rw [s59 k (by omega), g30 k (by omega)]
    · rw [h 29 4 x 0 (by omega)] at hk
      have := hb x (by omega)
      rw [s59' (72 * x + k) (by omega), h 30 4 x k (by omega)]
      exact r11 x k (by omega) hk
theorem RM_mv {G S : zS} (hR : RM G S) {nt nc : Nat} (hnt : G 1 0 0 0 = nt) (hnt2 : nt ≤ 12) (hnc : G 9 0 0 0 = nc) {t u : Nat} : RM (mvS G t u) (ptI S nt t u (3 * nc) nc 48) := by
  have h := mvS_e G t u
  have hS : eqq (fun k _ _ m => k = 42 ∨ k = 44 ∨ k = 45 ∨ k = 46) S (ptI S nt t u (3 * nc) nc 48) := fun k i j m hk => by
    unfold ptI
    rw [if_neg (by omega), if_neg (by omega)]
  have g6 : ∀ r x : Nat, r < 4 → x < nt → mvS G t u 6 r 0 x = if G 6 r 0 x = 100 + t then 100 + (u : Int) else G 6 r 0 x := fun r x hr hx => by
    unfold mvS
    by_cases c : G 6 r 0 x = 100 + t
    · rw [if_pos ⟨rfl, hr, rfl, by omega, c⟩, if_pos c]
    · rw [if_neg (fun g => c g.2.2.2.2), if_neg (by omega), if_neg c]
  have g11 : ∀ c x : Nat, c < nc → x < 5 → mvS G t u 11 c 0 x = if G 11 c 0 x = t then (u : Int) else G 11 c 0 x := fun c x hc hx => by
    unfold mvS
    by_cases q : G 11 c 0 x = t
    · rw [if_neg (by omega), if_pos ⟨rfl, by omega, rfl, hx, q⟩, if_pos q]
    · rw [if_neg (by omega), if_neg (fun g => q g.2.2.2.2), if_neg q]
  have s44 : ∀ x, x < 3 * nc → ptI S nt t u (3 * nc) nc 48 44 0 0 x = if S 44 0 0 x = t then (u : Int) else S 44 0 0 x := fun x hx => by
    unfold ptI
    by_cases q : S 44 0 0 x = t
    · rw [if_pos ⟨rfl, rfl, by omega, q⟩, if_pos q]
    · rw [if_neg (fun g => q g.2.2.2), if_neg (by omega), if_neg q]
  have s45 : ∀ x, x < nc → ptI S nt t u (3 * nc) nc 48 45 0 0 x = if S 45 0 0 x = t then (u : Int) else S 45 0 0 x := fun x hx => by
    unfold ptI
    by_cases q : S 45 0 0 x = t
    · rw [if_pos ⟨rfl, rfl, by omega, q⟩, if_pos q]
    · rw [if_neg (fun g => q g.2.2.2), if_neg (by omega), if_neg q]
  have s46 : ∀ x, x < nc → ptI S nt t u (3 * nc) nc 48 46 0 0 x = if S 46 0 0 x = t then (u : Int) else S 46 0 0 x := fun x hx => by
    unfold ptI
    by_cases q : S 46 0 0 x = t
    · rw [if_pos ⟨rfl, rfl, by omega, q⟩, if_pos q]
    · rw [if_neg (fun g => q g.2.2.2), if_neg (by omega), if_neg q]
  have s42 : ∀ x, x < 48 → x % 12 < nt → ptI S nt t u (3 * nc) nc 48 42 0 0 x = if S 42 0 0 x = 100 + t then 100 + (u : Int) else S 42 0 0 x := fun x hx hm => by
    unfold ptI
    by_cases q : S 42 0 0 x = 100 + t
    · rw [if_neg (by omega), if_pos ⟨rfl, rfl, rfl, hx, hm, q⟩, if_pos q]
    · rw [if_neg (by omega), if_neg (fun g => q g.2.2.2.2.2), if_neg q]
  have f1_0 : (mvS G t u) 1 0 0 0 = G 1 0 0 0 := h _ _ _ _ (by omega)
  have f1_1 : (mvS G t u) 1 0 0 1 = G 1 0 0 1 := h _ _ _ _ (by omega)
  have f0_3 : (mvS G t u) 0 0 0 3 = G 0 0 0 3 := h _ _ _ _ (by omega)
  have f0_6 : (mvS G t u) 0 0 0 6 = G 0 0 0 6 := h _ _ _ _ (by omega)
  have f9 : (mvS G t u) 9 0 0 0 = G 9 0 0 0 := h _ _ _ _ (by omega)
  have f31 : ∀ x1, (mvS G t u) 31 0 0 x1 = G 31 0 0 x1 := fun x1 => h _ _ _ _ (by omega)
  have f2 : ∀ x1, (mvS G t u) 2 0 0 x1 = G 2 0 0 x1 := fun x1 => h _ _ _ _ (by omega)
  have f3 : ∀ x1, (mvS G t u) 3 0 0 x1 = G 3 0 0 x1 := fun x1 => h _ _ _ _ (by omega)
  have f15 : ∀ x1 x2, (mvS G t u) 15 x1 0 x2 = G 15 x1 0 x2 := fun x1 x2 => h _ _ _ _ (by omega)
  have f22 : ∀ x1 x2, (mvS G t u) 22 x1 0 x2 = G 22 x1 0 x2 := fun x1 x2 => h _ _ _ _ (by omega)
  have f23 : ∀ x1 x2, (mvS G t u) 23 x1 0 x2 = G 23 x1 0 x2 := fun x1 x2 => h _ _ _ _ (by omega)
  have f24 : ∀ x1 x2, (mvS G t u) 24 x1 0 x2 = G 24 x1 0 x2 := fun x1 x2 => h _ _ _ _ (by omega)
  have f33 : ∀ x1 x2, (mvS G t u) 33 0 x1 x2 = G 33 0 x1 x2 := fun x1 x2 => h _ _ _ _ (by omega)
  have f29 : ∀ x1 x2 x3, (mvS G t u) 29 x1 x2 x3 = G 29 x1 x2 x3 := fun x1 x2 x3 => h _ _ _ _ (by omega)
  have f30 : ∀ x1 x2 x3, (mvS G t u) 30 x1 x2 x3 = G 30 x1 x2 x3 := fun x1 x2 x3 => h _ _ _ _ (by omega)
  have f21_0 : ∀ x1, (mvS G t u) 21 x1 0 0 = G 21 x1 0 0 := fun x1 => h _ _ _ _ (by omega)
  have f21_8 : ∀ x1, (mvS G t u) 21 x1 0 8 = G 21 x1 0 8 := fun x1 => h _ _ _ _ (by omega)
  have f21_9 : ∀ x1, (mvS G t u) 21 x1 0 9 = G 21 x1 0 9 := fun x1 => h _ _ _ _ (by omega)
  have u0 : (ptI S nt t u (3 * nc) nc 48) 40 0 0 0 = S 40 0 0 0 := hS _ _ _ _ (by omega)
  have u4 : (ptI S nt t u (3 * nc) nc 48) 40 0 0 4 = S 40 0 0 4 := hS _ _ _ _ (by omega)
  have u5 : (ptI S nt t u (3 * nc) nc 48) 40 0 0 5 = S 40 0 0 5 := hS _ _ _ _ (by omega)
  have u10 : (ptI S nt t u (3 * nc) nc 48) 40 0 0 10 = S 40 0 0 10 := hS _ _ _ _ (by omega)
  have u19 : (ptI S nt t u (3 * nc) nc 48) 40 0 0 19 = S 40 0 0 19 := hS _ _ _ _ (by omega)
  have u20 : (ptI S nt t u (3 * nc) nc 48) 40 0 0 20 = S 40 0 0 20 := hS _ _ _ _ (by omega)
  have u21 : (ptI S nt t u (3 * nc) nc 48) 40 0 0 21 = S 40 0 0 21 := hS _ _ _ _ (by omega)
  have u22 : (ptI S nt t u (3 * nc) nc 48) 40 0 0 22 = S 40 0 0 22 := hS _ _ _ _ (by omega)
  have u41 : ∀ x1, (ptI S nt t u (3 * nc) nc 48) 41 0 0 x1 = S 41 0 0 x1 := fun x1 => hS _ _ _ _ (by omega)
  have u43 : ∀ x1, (ptI S nt t u (3 * nc) nc 48) 43 0 0 x1 = S 43 0 0 x1 := fun x1 => hS _ _ _ _ (by omega)
  have u47 : ∀ x1, (ptI S nt t u (3 * nc) nc 48) 47 0 0 x1 = S 47 0 0 x1 := fun x1 => hS _ _ _ _ (by omega)
  have u48 : ∀ x1, (ptI S nt t u (3 * nc) nc 48) 48 0 0 x1 = S 48 0 0 x1 := fun x1 => hS _ _ _ _ (by omega)
  have u49 : ∀ x1, (ptI S nt t u (3 * nc) nc 48) 49 0 0 x1 = S 49 0 0 x1 := fun x1 => hS _ _ _ _ (by omega)
  have u50 : ∀ x1, (ptI S nt t u (3 * nc) nc 48) 50 0 0 x1 = S 50 0 0 x1 := fun x1 => hS _ _ _ _ (by omega)
  have u51 : ∀ x1, (ptI S nt t u (3 * nc) nc 48) 51 0 0 x1 = S 51 0 0 x1 := fun x1 => hS _ _ _ _ (by omega)
  have u52 : ∀ x1, (ptI S nt t u (3 * nc) nc 48) 52 0 0 x1 = S 52 0 0 x1 := fun x1 => hS _ _ _ _ (by omega)
  have u53 : ∀ x1, (ptI S nt t u (3 * nc) nc 48) 53 0 0 x1 = S 53 0 0 x1 := fun x1 => hS _ _ _ _ (by omega)
  have u54 : ∀ x1, (ptI S nt t u (3 * nc) nc 48) 54 0 0 x1 = S 54 0 0 x1 := fun x1 => hS _ _ _ _ (by omega)
  have u55 : ∀ x1, (ptI S nt t u (3 * nc) nc 48) 55 0 0 x1 = S 55 0 0 x1 := fun x1 => hS _ _ _ _ (by omega)
  have u56 : ∀ x1, (ptI S nt t u (3 * nc) nc 48) 56 0 0 x1 = S 56 0 0 x1 := fun x1 => hS _ _ _ _ (by omega)
  have u57 : ∀ x1, (ptI S nt t u (3 * nc) nc 48) 57 0 0 x1 = S 57 0 0 x1 := fun x1 => hS _ _ _ _ (by omega)
  have u58 : ∀ x1, (ptI S nt t u (3 * nc) nc 48) 58 0 0 x1 = S 58 0 0 x1 := fun x1 => hS _ _ _ _ (by omega)
  have u59 : ∀ x1, (ptI S nt t u (3 * nc) nc 48) 59 0 0 x1 = S 59 0 0 x1 := fun x1 => hS _ _ _ _ (by omega)
  obtain ⟨r1, r2, r3, r4, r5, r6, r7, r8, r9, r10, r11⟩ := hR
  refine ⟨?_, ?_, ?_, ?_, ?_, ?_, ?_, ?_, ?_, ?_, ?_⟩
  · simp only [f1_0, f1_1, f0_3, f0_6, f9, f31, f2, f3, f15, f22, f23, f24, f33, f29, f30, f21_0, f21_8, f21_9, u0, u4, u5, u10, u19, u20, u21, u22, u41, u43, u47, u48, u49, u50, u51, u52, u53, u54, u55, u56, u57, u58, u59]; exact r1
  · simp only [f1_0, f1_1, f0_3, f0_6, f9, f31, f2, f3, f15, f22, f23, f24, f33, f29, f30, f21_0, f21_8, f21_9, u0, u4, u5, u10, u19, u20, u21, u22, u41, u43, u47, u48, u49, u50, u51, u52, u53, u54, u55, u56, u57, u58, u59]; exact r2
  · intro r x hr hx
    rw [f1_0] at hx
    rw [s42 (12 * r + x) (by omega) (by omega), g6 r x hr (by omega), r3 r x hr hx]
  · intro c hc
    rw [f9] at hc
    have r4 := r4 c hc
    rw [s44 (3 * c) (by omega), s44 (3 * c + 1) (by omega), s44 (3 * c + 2) (by omega), s45 c (by omega), s46 c (by omega), g11 c 0 (by omega) (by omega), g11 c 1 (by omega) (by omega), g11 c 2 (by omega) (by omega), g11 c 3 (by omega) (by omega), g11 c 4 (by omega) (by omega), r4.1, r4.2.1, r4.2.2.1, r4.2.2.2.1, r4.2.2.2.2]
    exact ⟨rfl, rfl, rfl, rfl, rfl⟩
  · simp only [f1_0, f1_1, f0_3, f0_6, f9, f31, f2, f3, f15, f22, f23, f24, f33, f29, f30, f21_0, f21_8, f21_9, u0, u4, u5, u10, u19, u20, u21, u22, u41, u43, u47, u48, u49, u50, u51, u52, u53, u54, u55, u56, u57, u58, u59]; exact r5
  · simp only [f1_0, f1_1, f0_3, f0_6, f9, f31, f2, f3, f15, f22, f23, f24, f33, f29, f30, f21_0, f21_8, f21_9, u0, u4, u5, u10, u19, u20, u21, u22, u41, u43, u47, u48, u49, u50, u51, u52, u53, u54, u55, u56, u57, u58, u59]; exact r6
  · simp only [f1_0, f1_1, f0_3, f0_6, f9, f31, f2, f3, f15, f22, f23, f24, f33, f29, f30, f21_0, f21_8, f21_9, u0, u4, u5, u10, u19, u20, u21, u22, u41, u43, u47, u48, u49, u50, u51, u52, u53, u54, u55, u56, u57, u58, u59]; exact r7
  · simp only [f1_0, f1_1, f0_3, f0_6, f9, f31, f2, f3, f15, f22, f23, f24, f33, f29, f30, f21_0, f21_8, f21_9, u0, u4, u5, u10, u19, u20, u21, u22, u41, u43, u47, u48, u49, u50, u51, u52, u53, u54, u55, u56, u57, u58, u59]; exact r8
  · simp only [f1_0, f1_1, f0_3, f0_6, f9, f31, f2, f3, f15, f22, f23, f24, f33, f29, f30, f21_0, f21_8, f21_9, u0, u4, u5, u10, u19, u20, u21, u22, u41, u43, u47, u48, u49, u50, u51, u52, u53, u54, u55, u56, u57, u58, u59]; exact r9
  · simp only [f1_0, f1_1, f0_3, f0_6, f9, f31, f2, f3, f15, f22, f23, f24, f33, f29, f30, f21_0, f21_8, f21_9, u0, u4, u5, u10, u19, u20, u21, u22, u41, u43, u47, u48, u49, u50, u51, u52, u53, u54, u55, u56, u57, u58, u59]; exact r10
  · simp only [f1_0, f1_1, f0_3, f0_6, f9, f31, f2, f3, f15, f22, f23, f24, f33, f29, f30, f21_0, f21_8, f21_9, u0, u4, u5, u10, u19, u20, u21, u22, u41, u43, u47, u48, u49, u50, u51, u52, u53, u54, u55, u56, u57, u58, u59]; exact r11
