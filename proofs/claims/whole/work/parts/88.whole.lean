/-! ===== the law from its entry to its end ===== -/
theorem whole_start {p : Program} {e : Env} {s : State} {m : MethodId} {below : List Frame} {meth : Method} {c : Code} (l : Launch) (hflags : l.flags = flags0) {b L : Nat} {xs : Nat → Int32} (hL : L ≤ 2560) (C0 : lw_At p s m meth c b L xs) (hex : c.exceptionTable.toList = []) (hnm : meth.name = x.name) : W p l e room_1 s m #[Value.ref b] below meth c s.heap [] 0 0 (lw_Z below #[Value.ref b] s) (entryFrame m ([Value.ref b] : List Value).toArray 9) := by
  obtain ⟨hx, hb, hret, hml, hown, hts, hX, hbl, hlocks, hgv⟩ := C0
  obtain ⟨D, cy, h0⟩ := k_start l hflags hts hX hbl hgv
  generalize hE : ((l, s, #[Value.ref b], b, L, xs, D, cy) : zEn) = E at h0
  have hsE : zs E = s := by rw [← hE]
  have hlE : zl E = l := by rw [← hE]
  have hbE : zb E = b := by rw [← hE]
  have hLE : zLn E = L := by rw [← hE]
  have hW : s.WarmedH s.vm := State.WarmedH.refl s
  have F : zFr E zm_L_law 40 603072 7198826 (fun v _ => v = some (.inl (.int (I 1)))) (fun _ _ => False) p e room_1 s m #[Value.ref b] below meth c (lw_Z below #[Value.ref b] s) := by
    refine ⟨hx, hb, hml, hown, by rw [hsE]; exact hW, hex, hnm, ⟨by decide +kernel, by decide +kernel⟩, ⟨Nat.le_of_ble_eq_true rfl, Nat.le_of_ble_eq_true rfl, Nat.le_of_ble_eq_true rfl, Nat.le_of_ble_eq_true rfl⟩, ?_, ?_, ?_⟩
    · intro H locs lsA M1 a v pc ins hS hv hok ha1 ha2 hd hi
      subst hv
      rw [hlE]
      refine W.widen ha1 ha2 (va_forget (fun q hq => ?_) (W.base ?_))
      · have h1 := hS.2.1.2.2 q hq
        unfold zA zsz at h1
        rw [hsE] at h1
        exact h1
      · rcases hi with ⟨rfl, hv⟩ | ⟨rfl, y, hv⟩ | ⟨rfl, y, hv⟩ | ⟨rfl, y, hv⟩ | ⟨rfl, y, hv⟩ | ⟨rfl, y, hv⟩
        · cases hv
        · exact lw_ret (Drawn.sameBut.refl s.drawn lw_cs) hx hb hret hlocks hd
        · cases hv
        · cases hv
        · cases hv
        · cases hv
    · intro H locs lsA M1 a pc n i j t cc tx rest hS h176 hkx
      exact hkx.elim
    · intro X H locs lsA M1 a pc w ce rest hS hkx
      exact hkx.elim
  have hJ := law_head (d := 40) (mc := 603072) (ms := 7198826) (kr := fun v _ => v = some (.inl (.int (I 1)))) (kx := fun _ _ => False) h0 (by rw [hLE]; exact hL) (Nat.le_of_ble_eq_true rfl) (fun _ _ h => h) (fun _ => rfl) (Nat.le_of_ble_eq_true rfl) (Nat.le_of_ble_eq_true rfl)
  unfold zJ at hJ
  have h1 := hJ p e room_1 s m #[Value.ref b] below meth c _ F
  rw [lg_entry_eq]
  have hl := lv_entry ([Value.ref b]) (n := 9) (Nat.le_of_ble_eq_true rfl)
  have hl2 : lv_args 0 [Value.ref b] = zcL E [(0, .inr (70, 0, 0))] := by
    show [(0, Value.ref b)] = [(0, zcv E (.inr (70, 0, 0)))]
    show [(0, Value.ref b)] = [(0, Value.ref (if (70 : Nat) = 70 then zb E else _))]
    rw [if_pos rfl, hbE]
  rw [hl2] at hl
  have hS : zSt E M00 s.heap [] := by
    refine ⟨fun k q hq => ?_, ?_, fun _ => ?_⟩
    · cases k <;> cases hq
    · rw [hsE]
      exact va_S.rf
    · unfold zsz
      rw [hsE]
      rfl
  have h2 := h1 s.heap [] _ hS hl (Nat.zero_le _) (Nat.zero_le _)
  rw [hlE] at h2
  exact h2
