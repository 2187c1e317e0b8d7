/-! ===== how states may be told otherwise; places that are made ===== -/
def zag (ls : zLs) : zLs → Prop
  | [] => True
  | q :: r => zlk ls q.1 = some q.2 ∧ zag ls r
theorem zag_has {E : zEn} {lsA : Array Slot} {n : Nat} {ls : zLs} (h : lv_has lsA n (zcL E ls)) : ∀ ls' : zLs, zag ls ls' → lv_has lsA n (zcL E ls') := by
  intro ls' h'
  refine ⟨h.1, h.2.1, ?_⟩
  induction ls' with
  | nil => intro q hq; cases hq
  | cons x r ih =>
    intro q hq
    rcases List.mem_cons.mp hq with rfl | hq
    · exact zlk_at h h'.1
    · exact ih h'.2 q hq
theorem zJ_to {E : zEn} {m : zMeth} {d mc ms : Nat} {kr : Option zV → zM → Prop} {kx : String → zM → Prop} {pc : Nat} {ls ls' : zLs} {st st' : List zV} {M M' : zM} {a : Nat × Nat} (hl : zag ls ls') (hs : st = st') (hM : M = M') (h : zJ E m d mc ms kr kx pc ls' st' M' a) : zJ E m d mc ms kr kx pc ls st M a := by
  subst hs
  subst hM
  unfold zJ at h ⊢
  intro p e R s mm args below meth c Q F H locs lsA hS hl1 ha1 ha2
  exact h p e R s mm args below meth c Q F H locs lsA hS (zag_has hl1 ls' hl) ha1 ha2
/-- a stretch from here to a cut -/
theorem zJ_cut {E : zEn} (h0 : zOk E) {m : zMeth} {d mc ms : Nat} {kr : Option zV → zM → Prop} {kx : String → zM → Prop} {ls : zLs} {st : List zV} {M : zM} {a : Nat × Nat} (n : Nat) (cut : Nat) {l : List zIn} (hl : l.all (zrb m) = true) {pc : Nat} {q : zIn} {l' : List zIn} (hq : (l.dropWhile (fun r => r.1 != pc)).takeWhile (fun r => r.1 != cut) = q :: l') (h : ∀ K : zKt, (∀ pc ls st M a, zJ E m d mc ms kr kx pc ls st M a → K pc ls st M a) → zwp E m d mc ms K kr kx n (q :: l') ls st M a) : zJ E m d mc ms kr kx pc ls st M a := by
  cases e : l.dropWhile (fun r => r.1 != pc) with
  | nil => rw [e] at hq; cases hq
  | cons q2 l2 =>
    obtain ⟨h1, h2⟩ := zdw_head e
    rw [e] at hq
    have hsub : ∀ x ∈ q :: l', x ∈ q2 :: l2 := fun x hx => by rw [← hq] at hx; exact (List.takeWhile_sublist _).subset hx
    have hhd : q = q2 := by
      rw [List.takeWhile_cons] at hq
      split at hq
      · exact (List.cons.inj hq).1.symm
      · cases hq
    refine zJ_blk h0 n (q :: l') (List.all_eq_true.mpr fun x hx => List.all_eq_true.mp hl x (h2 x (hsub x hx))) ?_ (h _ fun _ _ _ _ _ h => h)
    rw [← h1, hhd]
    rfl
theorem zu_s {α : Type} {f : Nat → Nat → Nat → Nat → α} {k i j n : Nat} {v : α} : zu f k i j n v k i j n = v := if_pos ⟨rfl, rfl, rfl, rfl⟩
theorem zu_k {α : Type} {f : Nat → Nat → Nat → Nat → α} {k i j n k' i' j' n' : Nat} {v : α} (h : ¬ k' = k) : zu f k i j n v k' i' j' n' = f k' i' j' n' := if_neg fun g => h g.1
theorem zu_i {α : Type} {f : Nat → Nat → Nat → Nat → α} {k i j n k' i' j' n' : Nat} {v : α} (h : ¬ i' = i) : zu f k i j n v k' i' j' n' = f k' i' j' n' := if_neg fun g => h g.2.1
theorem zu_j {α : Type} {f : Nat → Nat → Nat → Nat → α} {k i j n k' i' j' n' : Nat} {v : α} (h : ¬ j' = j) : zu f k i j n v k' i' j' n' = f k' i' j' n' := if_neg fun g => h g.2.2.1
theorem zu_n {α : Type} {f : Nat → Nat → Nat → Nat → α} {k i j n k' i' j' n' : Nat} {v : α} (h : ¬ n' = n) : zu f k i j n v k' i' j' n' = f k' i' j' n' := if_neg fun g => h g.2.2.2
/-- arguments, told otherwise -/
def zae : List zV → List zV → Prop
  | [], [] => True
  | a :: as, b :: bs => a = b ∧ zae as bs
  | _, _ => False
theorem zae_eq : ∀ {as bs : List zV}, zae as bs → as = bs
  | [], [], _ => rfl
  | a :: as, b :: bs, h => by rw [h.1, zae_eq h.2]
  | [], _ :: _, h => h.elim
  | _ :: _, [], h => h.elim
theorem zC_to {E : zEn} {m : zMeth} {d mc ms : Nat} {as as' : List zV} {M M' : zM} {kr : Option zV → zM → Prop} {kx : String → zM → Prop} (h : zC E m d mc ms as' M' kr kx) (ha : zae as as') (hM : M = M') : zC E m d mc ms as M kr kx := by
  rw [zae_eq ha, hM]
  exact h
theorem zvi {x y : Int32} (h : x = y) : (Sum.inl (Value.int x) : zV) = .inl (.int y) := by rw [h]
theorem zlk_i {ls : zLs} {n : Nat} {x y : Int32} (h : zlk ls n = some (.inl (.int x))) (e : x = y) : zlk ls n = some (.inl (.int y)) := by rw [h, e]
theorem zt0 : Int.toNat 0 = 0 := rfl
theorem zt1 (n : Nat) : ((n : Int) + 1).toNat = n + 1 := by omega
theorem zif70 {k : Nat} {A : ¬ k = 70 → Prop} {B : k = 70 → Prop} {i : Decidable (k = 70)} (h : ¬ k = 70) (q : A h) : @Decidable.rec (k = 70) (fun _ => Prop) A B i := by
  cases i with
  | isFalse h' => exact q
  | isTrue h' => exact absurd h' h
theorem zin6 : ∀ i, i < 4 → (6, i, 0) ∈ zNm.take 176 := by decide +kernel
theorem zin8 : ∀ i, i < 4 → (8, i, 0) ∈ zNm.take 176 := by decide +kernel
theorem zin11 : ∀ i, i < 8 → (11, i, 0) ∈ zNm.take 176 := by decide +kernel
theorem zin13 : ∀ i, i < 8 → (13, i, 0) ∈ zNm.take 176 := by decide +kernel
theorem zin15 : ∀ i, i < 8 → (15, i, 0) ∈ zNm.take 176 := by decide +kernel
theorem zin19 : ∀ i, i < 8 → (19, i, 0) ∈ zNm.take 176 := by decide +kernel
theorem zin21 : ∀ i, i < 4 → (21, i, 0) ∈ zNm.take 176 := by decide +kernel
theorem zin22 : ∀ i, i < 4 → (22, i, 0) ∈ zNm.take 176 := by decide +kernel
theorem zin23 : ∀ i, i < 4 → (23, i, 0) ∈ zNm.take 176 := by decide +kernel
theorem zin24 : ∀ i, i < 4 → (24, i, 0) ∈ zNm.take 176 := by decide +kernel
theorem zin25 : ∀ i, i < 4 → (25, i, 0) ∈ zNm.take 176 := by decide +kernel
theorem zin26 : ∀ i, i < 4 → (26, i, 0) ∈ zNm.take 176 := by decide +kernel
theorem zin27 : ∀ i, i < 4 → ∀ j, j < 3 → (27, i, j) ∈ zNm.take 176 := by decide +kernel
theorem zin28 : ∀ i, i < 4 → (28, i, 0) ∈ zNm.take 176 := by decide +kernel
theorem zin29 : ∀ i, i < 4 → ∀ j, j < 3 → (29, i, j) ∈ zNm.take 176 := by decide +kernel
theorem zin30 : ∀ i, i < 4 → ∀ j, j < 3 → (30, i, j) ∈ zNm.take 176 := by decide +kernel
theorem zin29s : ∀ j, j < 8 → (29, 4, j) ∈ zNm.take 176 := by decide +kernel
theorem zin30s : ∀ j, j < 8 → (30, 4, j) ∈ zNm.take 176 := by decide +kernel
theorem zin33 : ∀ j, j < 8 → (33, 0, j) ∈ zNm.take 176 := by decide +kernel
theorem zin0 : ([0, 1, 2, 3, 4, 5, 7, 9, 10, 12, 14, 16, 17, 18, 20, 31, 32, 40, 41, 42, 43, 44, 45, 46, 47, 48, 49, 50, 51, 52, 53, 54, 55, 56, 57, 58, 59, 60, 61, 62, 63, 64, 65, 66, 71, 72].all fun k => decide ((k, 0, 0) ∈ zNm.take 176)) = true := by decide +kernel
theorem zin5 : (29, 5, 0) ∈ zNm.take 176 ∧ (30, 5, 0) ∈ zNm.take 176 := by decide +kernel
theorem zin1 {k : Nat} (h : [0, 1, 2, 3, 4, 5, 7, 9, 10, 12, 14, 16, 17, 18, 20, 31, 32, 40, 41, 42, 43, 44, 45, 46, 47, 48, 49, 50, 51, 52, 53, 54, 55, 56, 57, 58, 59, 60, 61, 62, 63, 64, 65, 66, 71, 72].contains k = true) : (k, 0, 0) ∈ zNm.take 176 := by
  rw [List.contains_iff_mem] at h
  exact of_decide_eq_true (List.all_eq_true.mp zin0 k h)
/-! ===== the specification: a memory of integers by the places of the class ===== -/
abbrev zS : Type := Nat → Nat → Nat → Nat → Int
/-- the value of a token under a theme, the overrides in front -/
def vlS (S : zS) (ov : Nat → Int) (th : Nat) : Nat → Nat → Int
  | 0, _ => -1
  | n + 1, t => if ov t ≠ -1 then ov t else
    if (if S 6 (th + 1) 0 t = -1 then S 6 0 0 t else S 6 (th + 1) 0 t) < 100 then (if S 6 (th + 1) 0 t = -1 then S 6 0 0 t else S 6 (th + 1) 0 t) else vlS S ov th n ((if S 6 (th + 1) 0 t = -1 then S 6 0 0 t else S 6 (th + 1) 0 t) - 100).toNat
/-- the tokens and their definitions are well -/
def wfT (S : zS) : Prop := (0 ≤ S 1 0 0 0 ∧ S 1 0 0 0 ≤ 12) ∧ (1 ≤ S 1 0 0 1 ∧ S 1 0 0 1 ≤ 3) ∧ (∀ t : Nat, t < 12 → 0 ≤ S 2 0 0 t ∧ S 2 0 0 t ≤ 2) ∧
  (∀ r t : Nat, r < 4 → (t : Int) < S 1 0 0 0 → (S 6 r 0 t = -1 ∧ r ≠ 0) ∨ (0 ≤ S 6 r 0 t ∧ S 6 r 0 t ≤ 99) ∨ ∃ o : Nat, S 6 r 0 t = 100 + o ∧ (o : Int) < S 1 0 0 0 ∧ S 2 0 0 o < S 2 0 0 t) ∧
  (∀ r t : Nat, r < 4 → t < 12 → S 1 0 0 0 ≤ t → S 6 r 0 t = -1) ∧
  (∀ t : Nat, t < 12 → S 3 0 0 t = -1 ∨ (0 ≤ S 3 0 0 t ∧ S 3 0 0 t < S 1 0 0 0 ∧ S 2 0 0 (S 3 0 0 t).toNat ≤ S 2 0 0 t))
/-- the memory of ints that holds these integers -/
def zI (S : zS) : Nat → Nat → Nat → Nat → Int32 := fun k i j n => I (S k i j n)
theorem zI_at {S : zS} {k i j n : Nat} : zI S k i j n = I (S k i j n) := rfl
theorem zI_zu {S : zS} {k i j n : Nat} {v : Int} : zu (zI S) k i j n (I v) = zI (zu S k i j n v) := by
  funext k' i' j' n'
  unfold zu zI
  by_cases h : k' = k ∧ i' = i ∧ j' = j ∧ n' = n
  · rw [if_pos h]
    dsimp only
    rw [if_pos h]
  · rw [if_neg h]
    dsimp only
    rw [if_neg h]
abbrev zMI (S : zS) (l : Nat → Nat → Nat → Nat → Int64) (δ : Nat → Nat → Nat → Nat → UInt64) : zM := (zI S, l, δ, zR0, 176)
theorem zpi_I {S : zS} {l : Nat → Nat → Nat → Nat → Int64} {δ : Nat → Nat → Nat → Nat → UInt64} {q : zL} {n : Nat} {v : Int} : zpi (zI S, l, δ, zR0, 176) q n (I v) = (zI (zu S q.1 q.2.1 q.2.2 n v), l, δ, zR0, 176) := by
  unfold zpi
  rw [zI_zu]
theorem zpl_I {S : zS} {l : Nat → Nat → Nat → Nat → Int64} {δ : Nat → Nat → Nat → Nat → UInt64} {q : zL} {n : Nat} {v : Int64} : zpl (zI S, l, δ, zR0, 176) q n v = (zI S, zu l q.1 q.2.1 q.2.2 n v, δ, zR0, 176) := rfl
theorem zpd_I {S : zS} {l : Nat → Nat → Nat → Nat → Int64} {δ : Nat → Nat → Nat → Nat → UInt64} {q : zL} {n : Nat} {v : UInt64} : zpd (zI S, l, δ, zR0, 176) q n v = (zI S, l, zu δ q.1 q.2.1 q.2.2 n v, zR0, 176) := rfl
/-- part of a row copied -/
def cpI (S : zS) (q r : zL) (sp dp n : Nat) : zS := fun k i j x => if k = r.1 ∧ i = r.2.1 ∧ j = r.2.2 ∧ dp ≤ x ∧ x < dp + n then S q.1 q.2.1 q.2.2 (sp + (x - dp)) else S k i j x
theorem zcp_I {S : zS} {l : Nat → Nat → Nat → Nat → Int64} {δ : Nat → Nat → Nat → Nat → UInt64} {q r : zL} {sp dp n : Nat} : zcp (zI S, l, δ, zR0, 176) q r sp dp n = (zI (cpI S q r sp dp n), l, δ, zR0, 176) := by
  unfold zcp
  congr 1
  funext k i j x
  unfold zI cpI
  by_cases h : k = r.1 ∧ i = r.2.1 ∧ j = r.2.2 ∧ dp ≤ x ∧ x < dp + n
  · rw [if_pos h, if_pos h]
  · rw [if_neg h, if_neg h]
theorem cpI_k {S : zS} {q r : zL} {sp dp n k i j x : Nat} (h : ¬ k = r.1) : cpI S q r sp dp n k i j x = S k i j x := if_neg fun g => h g.1
theorem zI_of (σ : Nat → Nat → Nat → Nat → Int32) : σ = zI (fun k i j n => (σ k i j n).toInt) := by
  funext k i j n
  exact I_of _
theorem wfT_df {S : zS} (h : wfT S) {r t : Nat} (hr : r < 4) (ht : t < 12) : -1 ≤ S 6 r 0 t ∧ S 6 r 0 t ≤ 111 := by
  obtain ⟨h1, -, -, h2, h3, -⟩ := h
  by_cases hn : (t : Int) < S 1 0 0 0
  · rcases h2 r t hr hn with h | h | ⟨o, h, h', -⟩ <;> omega
  · have := h3 r t hr ht (by omega)
    omega
/-- an int of the script or anything: every Int32 is I of something in range -/
theorem I_ex (x : Int32) : ∃ a : Int, x = I a ∧ -2147483648 ≤ a ∧ a < 2147483648 := ⟨x.toInt, I_of x, Int32.le_toInt x, Int32.toInt_lt x⟩
