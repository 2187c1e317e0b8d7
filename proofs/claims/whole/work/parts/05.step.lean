/-- what one instruction asks and does -/
def zst (E : zEn) (m : zMeth) (d mc ms : Nat) (q : zIn) (ls : zLs) (st : List zV) (M : zM) (a : Nat × Nat) (k : zKt) (kr : Option zV → zM → Prop) (kx : String → zM → Prop) : Prop :=
  match q with
  | (pc, ins, len, (i, j, t), c, tx) =>
  match ins with
  | .aload _ => match zlk ls i with
    | some (.inr r) => k (pc + len) ls (.inr r :: st) M a
    | _ => False
  | .aload_n _ => match zlk ls i with
    | some (.inr r) => k (pc + len) ls (.inr r :: st) M a
    | _ => False
  | .iload _ => match zlk ls i with
    | some (.inl (.int x)) => k (pc + len) ls (.inl (.int x) :: st) M a
    | _ => False
  | .iload_n _ => match zlk ls i with
    | some (.inl (.int x)) => k (pc + len) ls (.inl (.int x) :: st) M a
    | _ => False
  | .fload _ => match zlk ls i with
    | some (.inl (.float x)) => k (pc + len) ls (.inl (.float x) :: st) M a
    | _ => False
  | .fload_n _ => match zlk ls i with
    | some (.inl (.float x)) => k (pc + len) ls (.inl (.float x) :: st) M a
    | _ => False
  | .dload _ => match zlk ls i with
    | some (.inl (.double x)) => k (pc + len) ls (.inl (.double x) :: st) M a
    | _ => False
  | .dload_n _ => match zlk ls i with
    | some (.inl (.double x)) => k (pc + len) ls (.inl (.double x) :: st) M a
    | _ => False
  | .istore _ => i < m.2.2.1 ∧ zI1 st fun x rest => k (pc + len) (zstore ls i (.inl (.int x))) rest M a
  | .istore_n _ => i < m.2.2.1 ∧ zI1 st fun x rest => k (pc + len) (zstore ls i (.inl (.int x))) rest M a
  | .astore _ => i < m.2.2.1 ∧ match st with
    | .inr r :: rest => k (pc + len) (zstore ls i (.inr r)) rest M a
    | .inl (.ref r) :: rest => k (pc + len) (zstore ls i (.inl (.ref r))) rest M a
    | _ => False
  | .astore_n _ => i < m.2.2.1 ∧ match st with
    | .inr r :: rest => k (pc + len) (zstore ls i (.inr r)) rest M a
    | .inl (.ref r) :: rest => k (pc + len) (zstore ls i (.inl (.ref r))) rest M a
    | _ => False
  | .fstore _ => i < m.2.2.1 ∧ match st with
    | .inl (.float x) :: rest => k (pc + len) (zstore ls i (.inl (.float x))) rest M a
    | _ => False
  | .fstore_n _ => i < m.2.2.1 ∧ match st with
    | .inl (.float x) :: rest => k (pc + len) (zstore ls i (.inl (.float x))) rest M a
    | _ => False
  | .dstore _ => i + 1 < m.2.2.1 ∧ match st with
    | .inl (.double x) :: rest => k (pc + len) (zstore2 ls i (.inl (.double x))) rest M a
    | _ => False
  | .iconst _ => k (pc + len) ls (.inl (.int c) :: st) M a
  | .bipush _ => k (pc + len) ls (.inl (.int c) :: st) M a
  | .sipush _ => k (pc + len) ls (.inl (.int c) :: st) M a
  | .ldc_w _ => i = 1 ∧ k (pc + len) ls (.inl (.int c) :: st) M a
  | .lconst n => k (pc + len) ls (.inl (.long (Int64.ofNat n)) :: st) M a
  | .fconst n => n = 0 ∧ k (pc + len) ls (.inl (.float FP.fconst0) :: st) M a
  | .dconst n => n = 0 ∧ k (pc + len) ls (.inl (.double FP.dconst0) :: st) M a
  | .iinc _ _ => match zlk ls i with
    | some (.inl (.int x)) => i < m.2.2.1 ∧ k (pc + len) (zstore ls i (.inl (.int (x + c)))) st M a
    | _ => False
  | .iadd => zI2 st fun x y rest => k (pc + len) ls (.inl (.int (x + y)) :: rest) M a
  | .isub => zI2 st fun x y rest => k (pc + len) ls (.inl (.int (x - y)) :: rest) M a
  | .imul => zI2 st fun x y rest => k (pc + len) ls (.inl (.int (x * y)) :: rest) M a
  | .iand => zI2 st fun x y rest => k (pc + len) ls (.inl (.int (x &&& y)) :: rest) M a
  | .ior => zI2 st fun x y rest => k (pc + len) ls (.inl (.int (x ||| y)) :: rest) M a
  | .ixor => zI2 st fun x y rest => k (pc + len) ls (.inl (.int (x ^^^ y)) :: rest) M a
  | .ishl => zI2 st fun x y rest => k (pc + len) ls (.inl (.int (x <<< (y &&& 31))) :: rest) M a
  | .iushr => zI2 st fun x y rest => k (pc + len) ls (.inl (.int (x.toUInt32 >>> (y.toUInt32 &&& Int32.toUInt32 31)).toInt32) :: rest) M a
  | .idiv => zI2 st fun x y rest => ¬ y = 0 ∧ k (pc + len) ls (.inl (.int (x / y)) :: rest) M a
  | .irem => zI2 st fun x y rest => ¬ y = 0 ∧ k (pc + len) ls (.inl (.int (x - x / y * y)) :: rest) M a
  | .ineg => zI1 st fun x rest => k (pc + len) ls (.inl (.int (-x)) :: rest) M a
  | .ladd => match st with
    | .inl (.long y) :: .inl (.long x) :: rest => k (pc + len) ls (.inl (.long (x + y)) :: rest) M a
    | _ => False
  | .lcmp => match st with
    | .inl (.long y) :: .inl (.long x) :: rest => k (pc + len) ls (.inl (.int (lg_cmp x y)) :: rest) M a
    | _ => False
  | .fcmp op => match st with
    | .inl (.float y) :: .inl (.float x) :: rest => k (pc + len) ls (.inl (.int (Op.cmpValue (FP.fcmp x y) op)) :: rest) M a
    | _ => False
  | .dcmp op => match st with
    | .inl (.double y) :: .inl (.double x) :: rest => k (pc + len) ls (.inl (.int (Op.cmpValue (FP.dcmp x y) op)) :: rest) M a
    | _ => False
  | .fdiv => match st with
    | .inl (.float y) :: .inl (.float x) :: rest => vf_n32 (FP.fdiv x y) ∧ k (pc + len) ls (.inl (.float (FP.fdiv x y)) :: rest) M a
    | _ => False
  | .ddiv => match st with
    | .inl (.double y) :: .inl (.double x) :: rest => vf_n64 (FP.ddiv x y) ∧ k (pc + len) ls (.inl (.double (FP.ddiv x y)) :: rest) M a
    | _ => False
  | .f2d => match st with
    | .inl (.float x) :: rest => vf_n64 (FP.f2d x) ∧ k (pc + len) ls (.inl (.double (FP.f2d x)) :: rest) M a
    | _ => False
  | .i2l => zI1 st fun x rest => k (pc + len) ls (.inl (.long x.toInt64) :: rest) M a
  | .i2f => zI1 st fun x rest => k (pc + len) ls (.inl (.float (FP.i2f x)) :: rest) M a
  | .i2d => zI1 st fun x rest => k (pc + len) ls (.inl (.double (FP.i2d x)) :: rest) M a
  | .ifCond co _ => zI1 st fun x rest => zcond co x (k i ls rest M a) (k (pc + len) ls rest M a)
  | .if_icmp co _ => zI2 st fun x y rest => zicmp co x y (k i ls rest M a) (k (pc + len) ls rest M a)
  | .goto _ => k i ls st M a
  | .tableswitch dflt lo hi offs => hi - lo + 1 = (offs.size : Int) ∧ zI1 st fun x rest => ((x.toInt < lo ∨ hi < x.toInt) → 0 ≤ (pc : Int) + dflt ∧ k ((pc : Int) + dflt).toNat ls rest M a) ∧ ∀ (n : Nat) (o : Int), offs[n]? = some o → x.toInt = lo + n → 0 ≤ (pc : Int) + o ∧ k ((pc : Int) + o).toNat ls rest M a
  | .dup => match st with
    | v :: rest => zcat v = 1 ∧ k (pc + len) ls (v :: v :: rest) M a
    | _ => False
  | .pop => match st with
    | v :: rest => zcat v = 1 ∧ k (pc + len) ls rest M a
    | _ => False
  | .dup2 => match st with
    | v :: w :: rest => zcat v = 1 ∧ zcat w = 1 ∧ k (pc + len) ls (v :: w :: v :: w :: rest) M a
    | _ => False
  | .getfield _ => zR1 st fun r rest => zcls r.1 = i ∧ r ∈ zNm.take M.2.2.2.2 ∧ match t with
    | 1 => match M.2.2.2.1 r.1 r.2.1 r.2.2 j with
      | some r' => k (pc + len) ls (.inr r' :: rest) M a
      | none => False
    | 2 => k (pc + len) ls (.inl (.long (M.2.1 r.1 r.2.1 r.2.2 j)) :: rest) M a
    | _ => k (pc + len) ls (.inl (.int (M.1 r.1 r.2.1 r.2.2 j)) :: rest) M a
  | .putfield _ => match st with
    | .inl (.long x) :: .inr r :: rest => zcls r.1 = i ∧ r ∈ zNm.take M.2.2.2.2 ∧ t = 2 ∧ k (pc + len) ls rest (zpl M r j x) a
    | .inl (.int x) :: .inr r :: rest => zcls r.1 = i ∧ r ∈ zNm.take M.2.2.2.2 ∧ zfit t (.inl (.int x)) ∧ k (pc + len) ls rest (zpi M r j x) a
    | .inr v :: .inr r :: rest => zcls r.1 = i ∧ r ∈ zNm.take M.2.2.2.2 ∧ t = 1 ∧ m.1.name = "<init>" ∧ zcn i = m.1.cls ∧ k (pc + len) ls rest (zpr M r j (some v)) a
    | _ => False
  | .iaload => match st with
    | .inl (.int x) :: .inr r :: rest => if r.1 = 70 then vp_in x (zLn E) ∧ k (pc + len) ls (.inl (.int (zxs E x.toNatClampNeg)) :: rest) M a else (zarr r.1).1 = 0 ∧ r ∈ zNm.take M.2.2.2.2 ∧ vp_in x (zarr r.1).2 ∧ k (pc + len) ls (.inl (.int (M.1 r.1 r.2.1 r.2.2 x.toNatClampNeg)) :: rest) M a
    | _ => False
  | .baload => match st with
    | .inl (.int x) :: .inr r :: rest => (zarr r.1).1 = 1 ∧ r ∈ zNm.take M.2.2.2.2 ∧ vp_in x (zarr r.1).2 ∧ k (pc + len) ls (.inl (.int (M.1 r.1 r.2.1 r.2.2 x.toNatClampNeg)) :: rest) M a
    | _ => False
  | .laload => match st with
    | .inl (.int x) :: .inr r :: rest => (zarr r.1).1 = 2 ∧ r ∈ zNm.take M.2.2.2.2 ∧ vp_in x (zarr r.1).2 ∧ k (pc + len) ls (.inl (.long (M.2.1 r.1 r.2.1 r.2.2 x.toNatClampNeg)) :: rest) M a
    | _ => False
  | .daload => match st with
    | .inl (.int x) :: .inr r :: rest => (zarr r.1).1 = 3 ∧ r ∈ zNm.take M.2.2.2.2 ∧ vp_in x (zarr r.1).2 ∧ k (pc + len) ls (.inl (.double (M.2.2.1 r.1 r.2.1 r.2.2 x.toNatClampNeg)) :: rest) M a
    | _ => False
  | .aaload => match st with
    | .inl (.int x) :: .inr r :: rest => (4 ≤ (zarr r.1).1 ∧ (zarr r.1).1 < 8) ∧ r ∈ zNm.take M.2.2.2.2 ∧ vp_in x (zarr r.1).2 ∧ match M.2.2.2.1 r.1 r.2.1 r.2.2 x.toNatClampNeg with
      | some r' => k (pc + len) ls (.inr r' :: rest) M a
      | none => False
    | _ => False
  | .iastore => match st with
    | .inl (.int v) :: .inl (.int x) :: .inr r :: rest => (zarr r.1).1 = 0 ∧ r ∈ zNm.take M.2.2.2.2 ∧ vp_in x (zarr r.1).2 ∧ k (pc + len) ls rest (zpi M r x.toNatClampNeg v) a
    | _ => False
  | .bastore => match st with
    | .inl (.int v) :: .inl (.int x) :: .inr r :: rest => (zarr r.1).1 = 1 ∧ r ∈ zNm.take M.2.2.2.2 ∧ vp_in x (zarr r.1).2 ∧ vp_nar .boolean v = v ∧ k (pc + len) ls rest (zpi M r x.toNatClampNeg v) a
    | _ => False
  | .lastore => match st with
    | .inl (.long v) :: .inl (.int x) :: .inr r :: rest => (zarr r.1).1 = 2 ∧ r ∈ zNm.take M.2.2.2.2 ∧ vp_in x (zarr r.1).2 ∧ k (pc + len) ls rest (zpl M r x.toNatClampNeg v) a
    | _ => False
  | .dastore => match st with
    | .inl (.double v) :: .inl (.int x) :: .inr r :: rest => (zarr r.1).1 = 3 ∧ r ∈ zNm.take M.2.2.2.2 ∧ vp_in x (zarr r.1).2 ∧ k (pc + len) ls rest (zpd M r x.toNatClampNeg v) a
    | _ => False
  | .aastore => match st with
    | .inr v :: .inl (.int x) :: .inr r :: rest => ((zarr r.1).1 = 5 ∧ zcls v.1 = 2 ∨ (zarr r.1).1 = 6 ∧ zcls v.1 = 3 ∨ (zarr r.1).1 = 7 ∧ zcls v.1 = 5) ∧ r ∈ zNm.take M.2.2.2.2 ∧ v ∈ zNm.take M.2.2.2.2 ∧ vp_in x (zarr r.1).2 ∧ k (pc + len) ls rest (zpr M r x.toNatClampNeg (some v)) a
    | _ => False
  | .arraylength => zR1 st fun r rest => if r.1 = 70 then k (pc + len) ls (.inl (.int (Int32.ofNat (zLn E))) :: rest) M a else (zarr r.1).1 < 8 ∧ zcls r.1 = 8 ∧ r ∈ zNm.take M.2.2.2.2 ∧ k (pc + len) ls (.inl (.int (Int32.ofNat (zarr r.1).2)) :: rest) M a
  | .newarray _ => zI1 st fun x rest => match zNm[M.2.2.2.2]? with
    | some r => zcls r.1 = 8 ∧ (zarr r.1).1 = i ∧ i < 4 ∧ ¬ x < 0 ∧ x.toNatClampNeg = (zarr r.1).2 ∧ a.1 + 1 ≤ mc ∧ a.2 + (zarr r.1).2 ≤ ms ∧ k (pc + len) ls (.inr r :: rest) (zal M r) (a.1 + 1, a.2 + (zarr r.1).2)
    | none => False
  | .anewarray _ => zI1 st fun x rest => match zNm[M.2.2.2.2]? with
    | some r => zcls r.1 = 8 ∧ (zarr r.1).1 = i ∧ 5 ≤ i ∧ i < 8 ∧ ¬ x < 0 ∧ x.toNatClampNeg = (zarr r.1).2 ∧ a.1 + 1 ≤ mc ∧ a.2 + (zarr r.1).2 ≤ ms ∧ k (pc + len) ls (.inr r :: rest) (zal M r) (a.1 + 1, a.2 + (zarr r.1).2)
    | none => False
  | .multianewarray _ _ => match st with
    | .inl (.int x) :: .inl (.int n) :: rest => match zNm[M.2.2.2.2]? with
      | some r => zcls r.1 = 8 ∧ (zarr r.1).1 = 4 ∧ ¬ x < 0 ∧ ¬ n < 0 ∧ n.toNatClampNeg = (zarr r.1).2 ∧ a.1 + (1 + n.toNatClampNeg) ≤ mc ∧ a.2 + (n.toNatClampNeg + n.toNatClampNeg * x.toNatClampNeg) ≤ ms ∧ x.toNatClampNeg ≤ 100 ∧
        (∀ n', n' < n.toNatClampNeg → ∃ r', zNm[M.2.2.2.2 + 1 + n']? = some r' ∧ zcls r'.1 = 8 ∧ (zarr r'.1).1 = 0 ∧ x.toNatClampNeg = (zarr r'.1).2) ∧
        k (pc + len) ls (.inr r :: rest) ((List.range n.toNatClampNeg).foldl (fun M' n' => zpr (zal M' (zNm.getD (M.2.2.2.2 + 1 + n') (0, 0, 0))) r n' zNm[M.2.2.2.2 + 1 + n']?) (zal M r)) (a.1 + (1 + n.toNatClampNeg), a.2 + (n.toNatClampNeg + n.toNatClampNeg * x.toNatClampNeg))
      | none => False
    | _ => False
  | .new _ => if i < 8 then match zNm[M.2.2.2.2]? with
      | some r => zcls r.1 = i ∧ a.1 + 1 ≤ mc ∧ a.2 + (zft i).length ≤ ms ∧ k (pc + len) ls (.inr r :: st) (zal M r) (a.1 + 1, a.2 + (zft i).length)
      | none => False
    else (st.map zcat).sum ≤ 100 ∧ a.1 + 1 ≤ mc ∧ a.2 + 6 ≤ ms ∧ 176 ≤ M.2.2.2.2 ∧ kx tx M
  | .invokestatic _ => match t with
    | 1 => match (zCal m.2.2.2.2.1)[j]? with
      | some e => zcall E m d mc ms pc e.2.1 e.2.2.2.1 e.2.2.2.2.1 ls st M a k kx
      | none => False
    | _ => match i with
      | 0 => zI1 st fun x rest => (rest.map zcat).sum ≤ 100 ∧ k (pc + len) ls (.inl (.int (if 0 ≤ x then x else 0 - x)) :: rest) M a
      | 1 => zI2 st fun x y rest => (rest.map zcat).sum ≤ 100 ∧ k (pc + len) ls (.inl (.int (if y < x then y else x)) :: rest) M a
      | 2 => zI2 st fun x y rest => (rest.map zcat).sum ≤ 100 ∧ k (pc + len) ls (.inl (.int (if x < y then y else x)) :: rest) M a
      | _ => match st with
        | .inl (.int n) :: .inl (.int dp) :: .inr r :: .inl (.int sp) :: .inr q0 :: rest => (rest.map zcat).sum ≤ 100 ∧ (zarr r.1).1 = 0 ∧ (zarr q0.1).1 = 0 ∧ r ∈ zNm.take M.2.2.2.2 ∧ q0 ∈ zNm.take M.2.2.2.2 ∧ q0 ≠ r ∧ ¬ sp < 0 ∧ ¬ dp < 0 ∧ ¬ n < 0 ∧ sp.toNatClampNeg + n.toNatClampNeg ≤ (zarr q0.1).2 ∧ dp.toNatClampNeg + n.toNatClampNeg ≤ (zarr r.1).2 ∧ k (pc + len) ls rest (zcp M q0 r sp.toNatClampNeg dp.toNatClampNeg n.toNatClampNeg) a
        | _ => False
  | .invokevirtual _ => match (zCal m.2.2.2.2.1)[j]? with
    | some e => zcall E m d mc ms pc e.2.1 e.2.2.2.1 e.2.2.2.2.1 ls st M a k kx
    | none => False
  | .invokespecial _ => match t with
    | 1 => match (zCal m.2.2.2.2.1)[j]? with
      | some e => zcall E m d mc ms pc e.2.1 e.2.2.2.1 e.2.2.2.2.1 ls st M a k kx
      | none => False
    | _ => zR1 st fun _ rest => (rest.map zcat).sum ≤ 100 ∧ k (pc + len) ls rest M a
  | .ireturn => match st with
    | [.inl (.int x)] => zretok m.2.2.2.1 (some (.inl (.int x))) ∧ kr (some (.inl (.int x))) M
    | _ => False
  | .lreturn => match st with
    | [.inl (.long x)] => zretok m.2.2.2.1 (some (.inl (.long x))) ∧ kr (some (.inl (.long x))) M
    | _ => False
  | .freturn => match st with
    | [.inl (.float x)] => zretok m.2.2.2.1 (some (.inl (.float x))) ∧ kr (some (.inl (.float x))) M
    | _ => False
  | .dreturn => match st with
    | [.inl (.double x)] => zretok m.2.2.2.1 (some (.inl (.double x))) ∧ kr (some (.inl (.double x))) M
    | _ => False
  | .areturn => match st with
    | [.inr r] => zretok m.2.2.2.1 (some (.inr r)) ∧ kr (some (.inr r)) M
    | _ => False
  | .return_ => match st with
    | [] => zretok m.2.2.2.1 none ∧ kr none M
    | _ => False
  | _ => False
/-- a stretch of code, up to the cuts -/
def zwp (E : zEn) (m : zMeth) (d mc ms : Nat) (K : zKt) (kr : Option zV → zM → Prop) (kx : String → zM → Prop) : Nat → List zIn → zLs → List zV → zM → Nat × Nat → Prop
  | 0, _, _, _, _, _ => False
  | _ + 1, [], _, _, _, _ => False
  | n + 1, q :: l, ls, st, M, a => zst E m d mc ms q ls st M a (fun pc' ls' st' M' a' => match l.dropWhile (fun r => r.1 != pc') with
    | [] => K pc' ls' st' M' a'
    | r :: l' => zwp E m d mc ms K kr kx n (r :: l') ls' st' M' a') kr kx
