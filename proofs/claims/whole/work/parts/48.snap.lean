/-! ===== a snapshot keeps the invariant ===== -/
theorem sn_ok {S S2 S' : zS} (hS : inv0 S) (hV : KV S) {s th p : Nat} (hs : S 0 0 0 6 = s) (hs8 : s < 8) (hth : (th : Int) < S 1 0 0 1) (hp : (p : Int) < S 0 0 0 3) (hc : cqI (zu (zu S 33 0 s 0 th) 33 0 s 1 p) S2) (hv : vwI S2 p th 5 0) (hS' : S' = zu (cvI S2 4 s 5 0 (S 21 p 0 5).toNat) 0 0 0 6 (s + 1)) : inv0 S' ∧ KV S' := by
  have hnp := hS.1.2.2.2.2.1
  have hnh := hS.1.1.2.1
  have hrg := (rg_tok hS.1 (p := p) (by omega)).1
  have hb : ∀ k i j n, ¬ caP k i j n → ¬ (k = 33 ∧ j = s) → S2 k i j n = S k i j n := fun k i j n h1 h2 => by
    rw [hc.1 k i j n h1]
    unfold zu
    rw [if_neg (by omega), if_neg (by omega)]
  have hx : ∀ k i j n, ¬ caP k i j n → ¬ (k = 33 ∧ j = s) → ¬ ((k = 29 ∨ k = 30) ∧ i = 4 ∧ j = s) → ¬ (k = 0 ∧ n = 6) → S' k i j n = S k i j n := fun k i j n h1 h2 h3 h4 => by
    rw [hS']
    unfold cvI cpI zu
    rw [if_neg (by omega)]
    dsimp only
    rw [if_neg (by omega), if_neg (by omega)]
    exact hb k i j n h1 h2
  have e6 : S' 0 0 0 6 = s + 1 := by rw [hS', zu_s]
  have e33 : S' 33 0 s 0 = th ∧ S' 33 0 s 1 = p := by
    have k1 : ∀ n, S' 33 0 s n = S2 33 0 s n := fun n => by
      rw [hS', zu_k (by decide)]
      unfold cvI cpI
      rw [if_neg (by dsimp only; omega), zu_k (by decide)]
    rw [k1, k1, hc.1 33 0 s 0 (by omega), hc.1 33 0 s 1 (by omega)]
    exact ⟨by rw [zu_n (by decide), zu_s], zu_s⟩
  have f0 : S' 0 0 0 3 = S 0 0 0 3 := hx _ _ _ _ (by omega) (by omega) (by omega) (by omega)
  have f1 : S' 1 0 0 1 = S 1 0 0 1 := hx _ _ _ _ (by omega) (by omega) (by omega) (by omega)
  have f10 : S' 1 0 0 0 = S 1 0 0 0 := hx _ _ _ _ (by omega) (by omega) (by omega) (by omega)
  refine ⟨⟨inv1_g (S := S) (fun k i j n h => hx k i j n (by omega) (by omega) (by omega) (by omega)) hS.1 ?_, fun q hq => ?_, fun i j hij => ?_⟩, fun q t' x hq ht hx' => ?_⟩
  · have hN := hS.1.2.2.2.2
    unfold invN at hN ⊢
    rw [e6, f0, f1]
    refine ⟨hN.1, by omega, fun s' hs' => ?_⟩
    by_cases c : s' = s
    · subst c
      rw [e33.1, e33.2]
      omega
    · rw [hx 33 0 s' 0 (by omega) (by omega) (by omega) (by omega), hx 33 0 s' 1 (by omega) (by omega) (by omega) (by omega)]
      exact hN.2.2 s' (by omega)
  · have h2 := hS.2.1 q hq
    have g1 : ∀ n, S' 21 q 0 n = S 21 q 0 n := fun n => hx _ _ _ _ (by omega) (by omega) (by omega) (by omega)
    have g2 : ∀ t, S' 29 q t 0 = S 29 q t 0 := fun t => hx _ _ _ _ (by omega) (by omega) (by omega) (by omega)
    unfold invP2 at h2 ⊢
    simp only [g1, g2, f1]
    exact h2
  · by_cases c : i = 4 ∧ j = s
    · obtain ⟨rfl, rfl⟩ := c
      have e5 : S2 21 p 0 5 = S 21 p 0 5 := hb _ _ _ _ (by omega) (by omega)
      have hv2 := hv (S 21 p 0 5).toNat (by omega)
      have n1 : S' 29 4 j 0 = S 21 p 0 5 := by
        rw [hS', zu_k (by decide)]
        unfold cvI cpI
        rw [if_neg (by dsimp only; omega), zu_s]
        omega
      rw [n1]
      refine ⟨hrg, fun k hk => ?_⟩
      have n2 : S' 30 4 j k = S2 30 5 0 k := by
        rw [hS', zu_k (by decide)]
        unfold cvI cpI
        rw [if_pos ⟨rfl, rfl, rfl, by omega, by omega⟩]
        dsimp only
        rw [zu_k (by decide), Nat.zero_add, Nat.sub_zero]
      rw [n2, hv2.2 k (by omega)]
      have q1 : ∀ r t, S2 6 r 0 t = S 6 r 0 t := fun r t => hb _ _ _ _ (by omega) (by omega)
      have q2 : ∀ t, S2 24 p 0 t = S 24 p 0 t := fun t => hb _ _ _ _ (by omega) (by omega)
      rw [vlS_congr q1 q2, hb 25 p 0 k (by omega) (by omega)]
      exact vaI_b hS.1 (by omega) (by omega) hk
    · have h5 := hS.2.2 i j hij
      have g1 : S' 29 i j 0 = S 29 i j 0 := hx _ _ _ _ (by omega) (by omega) (by omega) (by omega)
      have g2 : ∀ k, S' 30 i j k = S 30 i j k := fun k => hx _ _ _ _ (by omega) (by omega) (by omega) (by omega)
      simp only [g1, g2]
      exact h5
  · have k27 : S' 27 q t' x = S2 27 q t' x := by
      rw [hS', zu_k (by decide)]
      unfold cvI cpI
      rw [if_neg (by dsimp only; omega), zu_k (by decide)]
    have g := hc.2 q t' x hq ht hx'
    have b1 : zu (zu S 33 0 s 0 (th : Int)) 33 0 s 1 (p : Int) = zu (zu S 33 0 s 0 (th : Int)) 33 0 s 1 (p : Int) := rfl
    rw [k27, f0, f1, f10, vlS_congr (S := S2) (ov := S2 24 q 0) (fun r t => ?_) (fun t => ?_) 3 x]
    · rw [hb 1 0 0 0 (by omega) (by omega), hb 1 0 0 1 (by omega) (by omega), hb 0 0 0 3 (by omega) (by omega)] at g
      exact g
    · rw [hx 6 r 0 t (by omega) (by omega) (by omega) (by omega), hb 6 r 0 t (by omega) (by omega)]
    · rw [hx 24 q 0 t (by omega) (by omega) (by omega) (by omega), hb 24 q 0 t (by omega) (by omega)]
