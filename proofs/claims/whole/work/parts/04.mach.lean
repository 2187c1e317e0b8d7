/-! ===== an abstract machine over the cells of this claim: places are (kind, i, j), never addresses ===== -/
abbrev zL : Type := Nat × Nat × Nat
abbrev zV : Type := Value ⊕ zL
/-- memory: ints, longs and doubles by place, references, how many cells are made -/
abbrev zM : Type := (Nat → Nat → Nat → Nat → Int32) × (Nat → Nat → Nat → Nat → Int64) × (Nat → Nat → Nat → Nat → UInt64) × (Nat → Nat → Nat → Nat → Option zL) × Nat
abbrev zEn : Type := Launch × State × Array Value × Nat × Nat × (Nat → Int32) × va_G × (Nat → ClassId)
abbrev zl (E : zEn) : Launch := E.1
abbrev zs (E : zEn) : State := E.2.1
abbrev za (E : zEn) : Array Value := E.2.2.1
abbrev zb (E : zEn) : Nat := E.2.2.2.1
abbrev zLn (E : zEn) : Nat := E.2.2.2.2.1
abbrev zxs (E : zEn) : Nat → Int32 := E.2.2.2.2.2.1
abbrev zD (E : zEn) : va_G := E.2.2.2.2.2.2.1
abbrev zcy (E : zEn) : Nat → ClassId := E.2.2.2.2.2.2.2
def zcat (v : zV) : Nat := match v with
  | .inl w => w.category
  | .inr _ => 1
def zu {α : Type} (f : Nat → Nat → Nat → Nat → α) (k i j n : Nat) (v : α) : Nat → Nat → Nat → Nat → α := fun k' i' j' n' => if k' = k ∧ i' = i ∧ j' = j ∧ n' = n then v else f k' i' j' n'
def zpi (M : zM) (q : zL) (n : Nat) (v : Int32) : zM := (zu M.1 q.1 q.2.1 q.2.2 n v, M.2)
def zpl (M : zM) (q : zL) (n : Nat) (v : Int64) : zM := (M.1, zu M.2.1 q.1 q.2.1 q.2.2 n v, M.2.2)
def zpd (M : zM) (q : zL) (n : Nat) (v : UInt64) : zM := (M.1, M.2.1, zu M.2.2.1 q.1 q.2.1 q.2.2 n v, M.2.2.2)
def zpr (M : zM) (q : zL) (n : Nat) (v : Option zL) : zM := (M.1, M.2.1, M.2.2.1, zu M.2.2.2.1 q.1 q.2.1 q.2.2 n v, M.2.2.2.2)
/-- part of a row copied into another row -/
def zcp (M : zM) (q r : zL) (sp dp n : Nat) : zM := (fun k i j x => if k = r.1 ∧ i = r.2.1 ∧ j = r.2.2 ∧ dp ≤ x ∧ x < dp + n then M.1 q.1 q.2.1 q.2.2 (sp + (x - dp)) else M.1 k i j x, M.2)
/-- a cell made anew: all nothing -/
def zal (M : zM) (q : zL) : zM := (fun k i j n => if k = q.1 ∧ i = q.2.1 ∧ j = q.2.2 then 0 else M.1 k i j n, fun k i j n => if k = q.1 ∧ i = q.2.1 ∧ j = q.2.2 then 0 else M.2.1 k i j n, fun k i j n => if k = q.1 ∧ i = q.2.1 ∧ j = q.2.2 then 0 else M.2.2.1 k i j n, fun k i j n => if k = q.1 ∧ i = q.2.1 ∧ j = q.2.2 then none else M.2.2.2.1 k i j n, M.2.2.2.2 + 1)
def zsz (E : zEn) : Nat := (zs E).heap.size
def zad (E : zEn) (q : zL) : Nat := if q.1 = 70 then zb E else zsz E + zNm.idxOf q
def zcv (E : zEn) (v : zV) : Value := match v with
  | .inl w => w
  | .inr q => .ref (zad E q)
def zfv (E : zEn) (M : zM) (q : zL) (n t : Nat) : Value := match t with
  | 1 => va_rf ((M.2.2.2.1 q.1 q.2.1 q.2.2 n).map (zad E))
  | 2 => .long (M.2.1 q.1 q.2.1 q.2.2 n)
  | _ => .int (M.1 q.1 q.2.1 q.2.2 n)
def zfs (E : zEn) (M : zM) (q : zL) (c : Nat) : List Value := (List.range (zft c).length).map (fun n => zfv E M q n ((zft c).getD n 0))
def zac (E : zEn) (M : zM) (q : zL) (t : Nat) : (Nat → Int32) ⊕ (Nat → Int64) ⊕ (Nat → UInt32) ⊕ (Nat → UInt64) ⊕ (Nat → Option Nat) := match t with
  | 0 => .inl (M.1 q.1 q.2.1 q.2.2)
  | 1 => .inl (M.1 q.1 q.2.1 q.2.2)
  | 2 => .inr (.inl (M.2.1 q.1 q.2.1 q.2.2))
  | 3 => .inr (.inr (.inr (.inl (M.2.2.1 q.1 q.2.1 q.2.2))))
  | _ => .inr (.inr (.inr (.inr (fun n => (M.2.2.2.1 q.1 q.2.1 q.2.2 n).map (zad E)))))
/-- what a cell is -/
def zco (E : zEn) (M : zM) (q : zL) : va_E := if zcls q.1 < 8 then .inr (zcls q.1, zfs E M q (zcls q.1)) else .inl (zcy E (zarr q.1).1, (zarr q.1).2, zac E M q (zarr q.1).1)
def zws (E : zEn) (M : zM) : va_W := (zNm.take M.2.2.2.2).map (fun q => (zad E q, zco E M q))
def zA (E : zEn) : Nat → Prop := fun q => zsz E ≤ q
def ztys (E : zEn) : List (ClassId × FieldType) := [(zcy E 0, .int), (zcy E 1, .boolean), (zcy E 2, .long), (zcy E 3, .double), (zcy E 4, .array .int), (zcy E 5, .object "Patternroom$Page"), (zcy E 6, .object "Patternroom$Snapshot"), (zcy E 7, .object "Patternroom$View")]
/-- the heap holds the memory -/
def zSt (E : zEn) (M : zM) (H : Heap) (locs : List Loc) : Prop := va_P (zD E) zCl (zws E M) H ∧ va_S (zA E) (zs E).heap H locs ∧ (M.2.2.2.2 < zNm.length → H.size = zsz E + M.2.2.2.2)
/-- of the start: the tables' words, the classes, the script, what the exceptions need -/
def zOk (E : zEn) : Prop := (∀ w ∈ lw_tbl, w.before (za E) (zs E) = true) ∧ va_K (zD E) zCl (ztys E) (zs E) ∧ va_X (zb E) (zLn E) (zxs E) (zs E) (zs E).heap ∧ zb E < zsz E ∧ (zl E).stackTraces = false ∧ (Jvm.Cond.and given_1 narrow_1).before (za E) (zs E) = true
def zrm (d mc ms : Nat) : Room := { frames := d + 8, cells := mc, slots := ms, locals := 40 * d + 400 }
def zpc (E : zEn) (as : List zV) (M : zM) : Array Value → State → Prop := fun v U => v = (as.map (zcv E)).toArray ∧ (zs E).WarmedH U.vm ∧ zSt E M U.heap []
def zqc (E : zEn) (kr : Option zV → zM → Prop) : Array Value → State → Outcome → State → Prop := fun _ _ o t => ∃ (v : Option zV) (M : zM), o = .returned (v.map (zcv E)) ∧ kr v M ∧ zSt E M t.heap []
def zxc (E : zEn) (kx : String → zM → Prop) : String → State → State → Prop := fun X _ t => ∃ M : zM, kx X M ∧ zSt E M t.heap []
def zcw (m : zMeth) : Cond := if m.2.2.2.2.2 = [] then .code m.1 m.2.1 m.2.2.1 m.2.2.2.1 else .codeWith m.1 m.2.1 m.2.2.1 m.2.2.2.1 m.2.2.2.2.2
/-- the contract: from this memory, with these arguments, the method returns as kr says, or throws as kx says -/
def zC (E : zEn) (m : zMeth) (d mc ms : Nat) (as : List zV) (M : zM) (kr : Option zV → zM → Prop) (kx : String → zM → Prop) : Prop :=
  vx_Met (zl E) m.1 [zcw m] (zrm d mc ms) (zpc E as M) (zqc E kr) (zxc E kx) mc ms (zA E)
/-- an instruction: its place, itself, its length, what its entry is (numbers), its constant, its text -/
abbrev zIn : Type := Nat × Instr × Nat × (Nat × Nat × Nat) × Int32 × String
abbrev zLs : Type := List (Nat × zV)
def zstore (ls : zLs) (i : Nat) (v : zV) : zLs := (i, v) :: ls.filter (fun q => !(q.1 == i) && !(q.1 + 1 == i && zcat q.2 == 2))
def zstore2 (ls : zLs) (i : Nat) (v : zV) : zLs := (i, v) :: ls.filter (fun q => !(q.1 == i) && (!(q.1 == i + 1) && !(q.1 + 1 == i && zcat q.2 == 2)))
def zlk (ls : zLs) (i : Nat) : Option zV := (ls.find? (fun q => q.1 == i)).map (fun q => q.2)
/-- which handler of a method takes an exception thrown at a place -/
def zhand (m : zMeth) (pc : Nat) (X : String) : Option Nat := (m.2.2.2.2.2.find? (fun h => decide (h.1 ≤ pc) && decide (pc < h.2.1) && (zCll m.2.2.2.2.1).any (fun e => e.1 == h.2.2.2 && e.2.2 == X))).map (fun h => h.2.2.1)
abbrev zKt : Type := Nat → zLs → List zV → zM → Nat × Nat → Prop
def zI1 (st : List zV) (k : Int32 → List zV → Prop) : Prop := match st with
  | .inl (.int x) :: rest => k x rest
  | _ => False
def zI2 (st : List zV) (k : Int32 → Int32 → List zV → Prop) : Prop := match st with
  | .inl (.int y) :: .inl (.int x) :: rest => k x y rest
  | _ => False
def zR1 (st : List zV) (k : zL → List zV → Prop) : Prop := match st with
  | .inr q :: rest => k q rest
  | _ => False
/-- a value may go into a field of this kind -/
def zfit (t : Nat) (v : zV) : Prop := match t, v with
  | 0, .inl (.int _) => True
  | 3, .inl (.int x) => x = 0 ∨ x = 1
  | _, _ => False
def zcond (c : ClassFile.Cond) (x : Int32) (t f : Prop) : Prop := match c with
  | .eq => (x = 0 → t) ∧ (¬ x = 0 → f)
  | .ne => (x ≠ 0 → t) ∧ (x = 0 → f)
  | .lt => (x < 0 → t) ∧ (¬ x < 0 → f)
  | .ge => (0 ≤ x → t) ∧ (¬ 0 ≤ x → f)
  | .gt => (0 < x → t) ∧ (¬ 0 < x → f)
  | .le => (x ≤ 0 → t) ∧ (¬ x ≤ 0 → f)
def zicmp (c : ClassFile.Cond) (x y : Int32) (t f : Prop) : Prop := match c with
  | .eq => (x = y → t) ∧ (¬ x = y → f)
  | .ne => (x ≠ y → t) ∧ (x = y → f)
  | .lt => (x < y → t) ∧ (¬ x < y → f)
  | .ge => (y ≤ x → t) ∧ (¬ y ≤ x → f)
  | .gt => (y < x → t) ∧ (¬ y < x → f)
  | .le => (x ≤ y → t) ∧ (¬ x ≤ y → f)
/-- what comes back from a call, by the method's kind -/
def zback (ret : Option FieldType) (k : List zV → zM → Prop) : Option zV → zM → Prop := fun v M => match ret with
  | none => v = none ∧ k [] M
  | some .long => ∃ r : Int64, v = some (.inl (.long r)) ∧ k [.inl (.long r)] M
  | some .float => ∃ r : UInt32, v = some (.inl (.float r)) ∧ k [.inl (.float r)] M
  | some .double => ∃ r : UInt64, v = some (.inl (.double r)) ∧ k [.inl (.double r)] M
  | some (.object _) => ∃ r : zL, v = some (.inr r) ∧ k [.inr r] M
  | some _ => ∃ r : Int32, v = some (.inl (.int r)) ∧ k [.inl (.int r)] M
/-- a call: way 0, 1: of an object (of a nest mate), 2, 3: static, 4, 5: a constructor, 6: static, with handlers -/
def zcall (E : zEn) (m : zMeth) (d mc ms : Nat) (pc : Nat) (way : Nat) (n : Nat) (y : zMeth) (ls : zLs) (st : List zV) (M : zM) (a : Nat × Nat) (k : zKt) (kx : String → zM → Prop) : Prop :=
  let As := (st.take n).reverse
  let go : List zV → List zV → Prop := fun args rest => (rest.map zcat).sum ≤ 8 ∧ 1 ≤ d ∧ ∃ mc' ms' : Nat, (a.1 + mc' ≤ mc ∧ a.2 + ms' ≤ ms) ∧
    zC E y (d - 1) mc' ms' args M (zback y.2.2.2.1 (fun v M' => k (pc + 3) ls (v ++ rest) M' (a.1 + mc', a.2 + ms')))
      (fun X M' => match zhand m pc X with
        | some h => ∀ w : Nat, k h ls [.inl (.ref w)] M' (a.1 + mc', a.2 + ms')
        | none => kx X M')
  n ≤ st.length ∧ (match way with
    | 0 => zR1 (st.drop n) fun q rest => zcls q.1 = y.2.2.2.2.1 ∧ q ∈ zNm.take M.2.2.2.2 ∧ go (.inr q :: As) rest
    | 1 => zR1 (st.drop n) fun q rest => zcls q.1 = y.2.2.2.2.1 ∧ q ∈ zNm.take M.2.2.2.2 ∧ go (.inr q :: As) rest
    | 4 => zR1 (st.drop n) fun q rest => go (.inr q :: As) rest
    | 5 => zR1 (st.drop n) fun q rest => go (.inr q :: As) rest
    | _ => go As (st.drop n))
def zretok (ret : Option FieldType) (v : Option zV) : Prop := match ret, v with
  | none, none => True
  | some ty, some (.inl (.int x)) => narrow ty (.int x) = .int x ∧ (ty = .int ∨ ty = .boolean ∨ ty = .char)
  | some .long, some (.inl (.long _)) => True
  | some .float, some (.inl (.float _)) => True
  | some .double, some (.inl (.double _)) => True
  | some (.object _), some (.inr _) => True
  | _, _ => False
