/-! ===== what is checked of each instruction and each entry, by program ===== -/
/-- an instruction is what its entry says -/
def zrb (m : zMeth) (q : zIn) : Bool := match q with
  | (pc, ins, len, (i, j, t), c, tx) => decide (decode m.2.1 pc = .ok (ins, len)) && match ins with
  | .aload w => w == i && len == 2
  | .aload_n w => (w : Nat) == i && len == 1
  | .iload w => w == i && len == 2
  | .iload_n w => (w : Nat) == i && len == 1
  | .fload w => w == i && len == 2
  | .fload_n w => (w : Nat) == i && len == 1
  | .dload w => w == i && len == 2
  | .dload_n w => (w : Nat) == i && len == 1
  | .istore w => w == i && len == 2
  | .istore_n w => (w : Nat) == i && len == 1
  | .astore w => w == i && len == 2
  | .astore_n w => (w : Nat) == i && len == 1
  | .fstore w => w == i && len == 2
  | .fstore_n w => (w : Nat) == i && len == 1
  | .dstore w => w == i && len == 2
  | .iinc w n => w == i && decide (Int32.ofInt n = c) && len == 3
  | .iconst n => decide (Int32.ofInt n = c) && len == 1
  | .bipush n => decide ((Int8.ofInt n).toInt32 = c) && len == 2
  | .sipush n => decide ((Int16.ofInt n).toInt32 = c) && len == 3
  | .ldc_w n => len == 3 && (i != 1 || (zCon m.2.2.2.2.1).any (fun e => e.1 == n && decide (e.2.2 = c)))
  | .ifCond _ off => decide ((pc : Int) + off = (i : Int)) && len == 3
  | .if_icmp _ off => decide ((pc : Int) + off = (i : Int)) && len == 3
  | .goto off => decide ((pc : Int) + off = (i : Int)) && len == 3
  | .tableswitch .. => true
  | .getfield n => len == 3 && (zFld m.2.2.2.2.1).any (fun e => e.1 == n && e.2.2.1 == i && e.2.2.2.1 == j && e.2.2.2.2.1 == t)
  | .putfield n => len == 3 && (zFld m.2.2.2.2.1).any (fun e => e.1 == n && e.2.2.1 == i && e.2.2.2.1 == j && e.2.2.2.2.1 == t) && (t != 1 || (zFld m.2.2.2.2.1).any (fun e => e.1 == n && e.2.2.1 == i && e.2.2.2.1 == j && e.2.2.2.2.2 == ""))
  | .newarray ty => len == 2 && (match ty with
    | .int => i == 0
    | .boolean => i == 1
    | .long => i == 2
    | .double => i == 3
    | _ => false)
  | .anewarray n => len == 3 && (zCll m.2.2.2.2.1).any (fun e => e.1 == n && ((i == 5 && e.2.2 == "Patternroom$Page") || (i == 6 && e.2.2 == "Patternroom$Snapshot") || (i == 7 && e.2.2 == "Patternroom$View")))
  | .multianewarray n k => len == 4 && k == 2 && (zCll m.2.2.2.2.1).any (fun e => e.1 == n && e.2.2 == "[[I")
  | .new n => len == 3 && (if i < 8 then (zNew m.2.2.2.2.1).any (fun e => e.1 == n && e.2.2.1 == i) else m.2.2.2.2.2 == [] && (zThr m.2.2.2.2.1).any (fun e => e.1 == n && e.2.2.2.2.1 == tx && (if e.2.2.2.1
      then decide (decode m.2.1 (pc + 3) = .ok (.dup, 1)) && decide (decode m.2.1 (pc + 4) = .ok (.ldc_w e.2.1, 3)) && decide (decode m.2.1 (pc + 7) = .ok (.invokespecial e.2.2.1, 3)) && decide (decode m.2.1 (pc + 10) = .ok (.athrow, 1))
      else decide (decode m.2.1 (pc + 3) = .ok (.dup, 1)) && decide (decode m.2.1 (pc + 4) = .ok (.ldc e.2.1, 2)) && decide (decode m.2.1 (pc + 6) = .ok (.invokespecial e.2.2.1, 3)) && decide (decode m.2.1 (pc + 9) = .ok (.athrow, 1)))))
  | .invokestatic n => len == 3 && (match t with
    | 1 => (match (zCal m.2.2.2.2.1)[j]? with
      | some e => e.1 == n && (e.2.1 == 2 || e.2.1 == 3 || e.2.1 == 6)
      | none => false)
    | _ => (i < 4) && (zInt m.2.2.2.2.1).any (fun e => e.1 == n && e.2.1 == i))
  | .invokevirtual n => len == 3 && (match (zCal m.2.2.2.2.1)[j]? with
      | some e => e.1 == n && (e.2.1 == 0 || e.2.1 == 1)
      | none => false)
  | .invokespecial n => len == 3 && (match t with
    | 1 => (match (zCal m.2.2.2.2.1)[j]? with
      | some e => e.1 == n && (e.2.1 == 4 || e.2.1 == 5)
      | none => false)
    | _ => (zInt m.2.2.2.2.1).any (fun e => e.1 == n && e.2.1 == 4))
  | _ => len == 1
def zFldB (c : Nat) (e : Nat × Nat × Nat × Nat × Nat × String) : Bool := decide (lw_tbl[e.2.1]? = some (if e.2.2.2.2.2 = "" then .fieldLink (zcn c) e.1 (zcn e.2.2.1) (zTn e.2.2.1 e.2.2.2.1).2.1 (zTn e.2.2.1 e.2.2.2.1).2.2.1 else .fieldLinkNest (zcn c) e.1 (zcn e.2.2.1) (zTn e.2.2.1 e.2.2.2.1).2.1 (zTn e.2.2.1 e.2.2.2.1).2.2.1 e.2.2.2.2.2)) &&
  (e.2.2.1 < 8) && (e.2.2.2.1 < (zft e.2.2.1).length) && ((zft e.2.2.1).getD e.2.2.2.1 0 == e.2.2.2.2.1) && ((zTn e.2.2.1 e.2.2.2.1).2.2.2 == (e.2.2.2.2.1 == 1))
def zCalB (c : Nat) (e : Nat × Nat × (Nat × Nat × Nat × Nat × Nat) × Nat × zMeth × String) : Bool := match e with
  | (idx, way, (w1, w2, w3, w4, w5), n, y, host) => decide (lw_tbl[w1]? = some (if host = "" then .methodLink (zcn c) idx y.1 else .methodLinkNest (zcn c) idx y.1 host)) &&
    decide (lw_tbl[w2]? = some (if way = 2 ∨ way = 3 ∨ way = 6 then .static y.1 else .instanceMethod y.1)) &&
    (!(way == 0 || way == 1) || decide (lw_tbl[w3]? = some (.selects y.1.cls y.1 y.1))) &&
    decide (lw_tbl[w4]? = some (.initialized y.1.cls)) && (host == "") == (way == 0 || way == 2 || way == 4 || way == 6) && (way == 6) == (y.2.2.2.2.2 != []) &&
    decide ((parseMethodDescriptor y.1.desc).map (fun d => d.parameters.length) = some n) && y.2.2.1 ≤ 21 && (y.1.cls != "java/lang/invoke/MethodHandle" && y.1.cls != "java/lang/invoke/VarHandle") &&
    ((!(way == 4 || way == 5)) || (y.1.name == "<init>" && decide (y.2.2.2.1 = none))) && (y.1.cls == zcn y.2.2.2.2.1) && (!(way == 0 || way == 1) || decide (y.2.2.2.2.1 < 8))
def zIntN (i : Nat) : MethodName := match i with
  | 0 => ⟨"java/lang/Math", "abs", "(I)I"⟩
  | 1 => ⟨"java/lang/Math", "min", "(II)I"⟩
  | 2 => ⟨"java/lang/Math", "max", "(II)I"⟩
  | 3 => ⟨"java/lang/System", "arraycopy", "(Ljava/lang/Object;ILjava/lang/Object;II)V"⟩
  | _ => ⟨"java/lang/Object", "<init>", "()V"⟩
def zIntB (c : Nat) (e : Nat × Nat × Nat) : Bool := decide (lw_tbl[e.2.2]? = some (.methodLink (zcn c) e.1 (zIntN e.2.1)))
def zNewB (c : Nat) (e : Nat × Nat × Nat × Nat × Nat) : Bool := decide (lw_tbl[e.2.1]? = some (.classLink (zcn c) e.1 (zcn e.2.2.1))) && decide (lw_tbl[e.2.2.2.1]? = some (.instantiable (zcn e.2.2.1) (zft e.2.2.1).length)) && decide (lw_tbl[e.2.2.2.2]? = some (.initialized (zcn e.2.2.1))) && e.2.2.1 < 8
def zCllB (c : Nat) (e : Nat × Nat × String) : Bool := decide (lw_tbl[e.2.1]? = some (.classLink (zcn c) e.1 e.2.2))
def zConB (c : Nat) (e : Nat × Nat × Int32) : Bool := decide (lw_tbl[e.2.1]? = some (.constant (zcn c) e.1 e.2.2))
def zLaysB (c : Nat) : Bool := (u_ws (zcn c) (zTn c) (zft c).length).all (fun w => decide (w ∈ lw_tbl) && goodWord w)
set_option maxRecDepth 100000 in
theorem zFld_ok : (List.range 11).all (fun c => (zFld c).all (zFldB c)) = true := by decide +kernel
set_option maxRecDepth 100000 in
theorem zCal_ok : (List.range 11).all (fun c => (zCal c).all (zCalB c)) = true := by decide +kernel
set_option maxRecDepth 100000 in
theorem zcw_0 : (zCal 0).map (fun e => lw_tbl[e.2.2.1.2.2.2.2]?) = (zCal 0).map (fun e => some (zcw e.2.2.2.2.1)) := rfl
set_option maxRecDepth 100000 in
theorem zcw_1 : (zCal 1).map (fun e => lw_tbl[e.2.2.1.2.2.2.2]?) = (zCal 1).map (fun e => some (zcw e.2.2.2.2.1)) := rfl
set_option maxRecDepth 100000 in
theorem zcw_2 : (zCal 2).map (fun e => lw_tbl[e.2.2.1.2.2.2.2]?) = (zCal 2).map (fun e => some (zcw e.2.2.2.2.1)) := rfl
set_option maxRecDepth 100000 in
theorem zcw_3 : (zCal 3).map (fun e => lw_tbl[e.2.2.1.2.2.2.2]?) = (zCal 3).map (fun e => some (zcw e.2.2.2.2.1)) := rfl
set_option maxRecDepth 100000 in
theorem zcw_4 : (zCal 4).map (fun e => lw_tbl[e.2.2.1.2.2.2.2]?) = (zCal 4).map (fun e => some (zcw e.2.2.2.2.1)) := rfl
set_option maxRecDepth 100000 in
theorem zcw_5 : (zCal 5).map (fun e => lw_tbl[e.2.2.1.2.2.2.2]?) = (zCal 5).map (fun e => some (zcw e.2.2.2.2.1)) := rfl
set_option maxRecDepth 100000 in
theorem zcw_6 : (zCal 6).map (fun e => lw_tbl[e.2.2.1.2.2.2.2]?) = (zCal 6).map (fun e => some (zcw e.2.2.2.2.1)) := rfl
set_option maxRecDepth 100000 in
theorem zcw_7 : (zCal 7).map (fun e => lw_tbl[e.2.2.1.2.2.2.2]?) = (zCal 7).map (fun e => some (zcw e.2.2.2.2.1)) := rfl
set_option maxRecDepth 100000 in
theorem zcw_8 : (zCal 8).map (fun e => lw_tbl[e.2.2.1.2.2.2.2]?) = (zCal 8).map (fun e => some (zcw e.2.2.2.2.1)) := rfl
set_option maxRecDepth 100000 in
theorem zInt_ok : (List.range 11).all (fun c => (zInt c).all (zIntB c)) = true := by decide +kernel
set_option maxRecDepth 100000 in
theorem zNew_ok : (List.range 11).all (fun c => (zNew c).all (zNewB c)) = true := by decide +kernel
set_option maxRecDepth 100000 in
theorem zCll_ok : (List.range 11).all (fun c => (zCll c).all (zCllB c)) = true := by decide +kernel
set_option maxRecDepth 100000 in
theorem zCon_ok : (List.range 11).all (fun c => (zCon c).all (zConB c)) = true := by decide +kernel
set_option maxRecDepth 100000 in
theorem zLays_ok : (List.range 8).all zLaysB = true := by decide +kernel
set_option maxRecDepth 100000 in
theorem zTn_c : (List.range 8).all (fun i => (List.range (zft i).length).all (fun j => (zTn i j).1 == zcn i && decide (parseFieldDescriptor (zTn i j).2.2.1 = some (ztn i j)) && (List.range (zft i).length).all (fun k => k == j || (zTn i j).2.1 != (zTn i k).2.1))) = true := by decide +kernel
def zExs : List String := ["java/lang/IllegalArgumentException", "java/lang/IllegalStateException", "java/lang/IndexOutOfBoundsException", "java/util/NoSuchElementException", "java/lang/UnsupportedOperationException", "java/lang/ArithmeticException"]
/-- a handler's class is one of the six, and no other -/
def zhhB (h : Nat × Nat × Nat × Nat) : Bool := h.2.2.2 != 0 && (zCll 8).any (fun e => e.1 == h.2.2.2) && (zCll 8).all (fun e => e.1 != h.2.2.2 || zExs.contains e.2.2)
def zmB (m : zMeth) : Bool := m.2.2.2.2.2 == [] || (m.2.2.2.2.1 == 8 && m.2.2.2.2.2.all zhhB)
