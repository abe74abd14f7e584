/-- 0 the stack alone, 1 a local read, 2 a local written, 3 a jump, 4 the heap read, 5 the heap written, 6 a call, 7 the end -/
def kdI : Instr → Nat
  | .iload_n _ | .iload _ | .aload_n _ | .aload _ | .lload_n _ | .lload _ => 1
  | .istore_n _ | .istore _ | .astore_n _ | .astore _ | .lstore_n _ | .lstore _ | .iinc _ _ => 2
  | .goto _ | .ifCond _ _ | .if_icmp _ _ | .tableswitch _ _ _ _ | .lookupswitch _ _ => 3
  | .getfield _ | .iaload | .baload | .aaload | .arraylength => 4
  | .putfield _ | .iastore | .bastore | .aastore | .new _ | .newarray _ | .anewarray _ => 5
  | .invokevirtual _ | .invokestatic _ | .invokespecial _ => 6
  | .ireturn | .lreturn | .return_ => 7
  | _ => 0
def pureOp (c : Nat) : Instr → List Value → Option (List Value)
  | .iconst n, st => some (.int (Int32.ofInt n) :: st)
  | .bipush n, st => some (.int (Int8.ofInt n).toInt32 :: st)
  | .sipush n, st => some (.int (Int16.ofInt n).toInt32 :: st)
  | .lconst n, st => some (.long (Int64.ofNat n.val) :: st)
  | .ldc_w i, st => (ktab.lookup (c, i)).map (fun v => .int v :: st)
  | .ldc2_w i, st => (ltab.lookup (c, i)).map (fun v => .long v :: st)
  | .iadd, .int y :: .int x :: st => some (.int (x + y) :: st)
  | .isub, .int y :: .int x :: st => some (.int (x - y) :: st)
  | .imul, .int y :: .int x :: st => some (.int (x * y) :: st)
  | .idiv, .int y :: .int x :: st => if y = 0 then none else some (.int (x / y) :: st)
  | .irem, .int y :: .int x :: st => if y = 0 then none else some (.int (x - x / y * y) :: st)
  | .iand, .int y :: .int x :: st => some (.int (x &&& y) :: st)
  | .ior, .int y :: .int x :: st => some (.int (x ||| y) :: st)
  | .ixor, .int y :: .int x :: st => some (.int (x ^^^ y) :: st)
  | .ishl, .int y :: .int x :: st => some (.int (x <<< (y &&& 31)) :: st)
  | .ishr, .int y :: .int x :: st => some (.int (x >>> (y &&& 31)) :: st)
  | .iushr, .int y :: .int x :: st => some (.int (x.toUInt32 >>> (y.toUInt32 &&& Int32.toUInt32 31)).toInt32 :: st)
  | .ladd, .long y :: .long x :: st => some (.long (x + y) :: st)
  | .lmul, .long y :: .long x :: st => some (.long (x * y) :: st)
  | .lrem, .long y :: .long x :: st => if y = 0 then none else some (.long (x - x / y * y) :: st)
  | .lushr, .int y :: .long x :: st => some (.long (x.toUInt64 >>> (y.toInt64.toUInt64 &&& Int64.toUInt64 63)).toInt64 :: st)
  | .i2l, .int x :: st => some (.long x.toInt64 :: st)
  | .l2i, .long x :: st => some (.int x.toInt32 :: st)
  | .lcmp, .long y :: .long x :: st => some (.int (lg_cmp x y) :: st)
  | .dup, v :: st => if v.category = 1 then some (v :: v :: st) else none
  | .dup2, v :: u :: st => if v.category = 1 ∧ u.category = 1 then some (v :: u :: v :: u :: st) else none
  | .pop, v :: st => if v.category = 1 then some st else none
  | _, _ => none
def wI : Option Value → Option Value
  | some (.int x) => some (.int x)
  | _ => none
def wL : Option Value → Option Value
  | some (.long x) => some (.long x)
  | _ => none
def wR : Option Value → Option Value
  | some (.ref x) => some (.ref x)
  | _ => none
def loadOp : Instr → List Value → Option Value
  | .iload_n k, ls => wI ls[k.val]?
  | .iload i, ls => wI ls[i]?
  | .lload_n k, ls => wL ls[k.val]?
  | .lload i, ls => wL ls[i]?
  | .aload_n k, ls => wR ls[k.val]?
  | .aload i, ls => wR ls[i]?
  | _, _ => none
/-- no long begins just ahead of place i -/
def noL (ls : List Value) : Nat → Bool
  | 0 => true
  | i + 1 => match ls[i]? with
    | some v => v.category == 1
    | none => true
def st1 (ls : List Value) (i : Nat) (v : Value) : Option (List Value) := if i < ls.length ∧ noL ls i = true then some (ls.set i v) else none
def st2 (ls : List Value) (i : Nat) (v : Value) : Option (List Value) := if i + 1 < ls.length ∧ noL ls i = true then some ((ls.set i v).set (i + 1) .null) else none
def storeOp : Instr → List Value → List Value → Option (List Value × List Value)
  | .istore_n k, ls, .int x :: st => (st1 ls k.val (.int x)).map (fun l => (l, st))
  | .istore i, ls, .int x :: st => (st1 ls i (.int x)).map (fun l => (l, st))
  | .astore_n k, ls, .ref x :: st => (st1 ls k.val (.ref x)).map (fun l => (l, st))
  | .astore i, ls, .ref x :: st => (st1 ls i (.ref x)).map (fun l => (l, st))
  | .lstore_n k, ls, .long x :: st => (st2 ls k.val (.long x)).map (fun l => (l, st))
  | .lstore i, ls, .long x :: st => (st2 ls i (.long x)).map (fun l => (l, st))
  | .iinc i n, ls, st => match ls[i]? with
    | some (.int x) => (st1 ls i (.int (x + Int32.ofInt n))).map (fun l => (l, st))
    | _ => none
  | _, _, _ => none
def tgt (pc : Nat) (off : Int) : Option Nat := if 0 ≤ (pc : Int) + off then some ((pc : Int) + off).toNat else none
def cnd : ClassFile.Cond → Int32 → Int32 → Bool
  | .eq, x, y => decide (x = y)
  | .ne, x, y => decide (¬ x = y)
  | .lt, x, y => decide (x < y)
  | .ge, x, y => decide (y ≤ x)
  | .gt, x, y => decide (y < x)
  | .le, x, y => decide (x ≤ y)
def brOp : Instr → Nat → List Value → Option (Nat × List Value)
  | .goto off, pc, st => (tgt pc off).map (fun t => (t, st))
  | .ifCond c off, pc, .int x :: st => (tgt pc off).map (fun t => (if cnd c x 0 = true then t else pc + 3, st))
  | .if_icmp c off, pc, .int y :: .int x :: st => (tgt pc off).map (fun t => (if cnd c x y = true then t else pc + 3, st))
  | .tableswitch d lo hi offs, pc, .int x :: st => if x.toInt < lo ∨ hi < x.toInt then (tgt pc d).map (fun t => (t, st)) else (offs[(x.toInt - lo).toNat]?).bind (fun off => (tgt pc off).map (fun t => (t, st)))
  | .lookupswitch d ps, pc, .int x :: st => if (ps.toList.zip (ps.toList.drop 1)).all (fun (a, next) => a.1 < next.1) = true then (tgt pc (Op.lookupswitch.offset ps.toList d x.toInt)).map (fun t => (t, st)) else none
  | _, _, _ => none
/-- value k of the array at i, of that tag -/
def elA (w : Wd) (t i : Nat) (x : Int32) : Option Value := match w[i]? with
  | some q => if q.1 = t ∧ ¬ x < 0 then q.2[x.toNatClampNeg]? else none
  | none => none
def aaR (w : Wd) (i : Nat) (x : Int32) : Option Value := match w[i]? with
  | some q => if (q.1 = 102 ∨ q.1 = 103) ∧ ¬ x < 0 then wR q.2[x.toNatClampNeg]? else none
  | none => none
def gfR (w : Wd) (i : Nat) (f : Nat × Nat) : Option Value := match w[i]? with
  | some q => if q.1 = f.1 ∧ f.2 < nfC f.1 then q.2[f.2]? else none
  | none => none
def alR (w : Wd) (i : Nat) : Option Int32 := match w[i]? with
  | some q => if 100 ≤ q.1 ∧ q.1 ≤ 103 then some (Int32.ofNat q.2.length) else none
  | none => none
def heapR (c : Nat) : Instr → List Value → Wd → Option (List Value)
  | .getfield idx, .ref i :: st, w => (fldT c idx).bind (fun f => (gfR w i f).map (fun v => v :: st))
  | .iaload, .int x :: .ref i :: st, w => (wI (elA w 100 i x)).map (fun v => v :: st)
  | .baload, .int x :: .ref i :: st, w => (wI (elA w 101 i x)).map (fun v => v :: st)
  | .aaload, .int x :: .ref i :: st, w => (aaR w i x).map (fun v => v :: st)
  | .arraylength, .ref i :: st, w => (alR w i).map (fun n => .int n :: st)
  | _, _, _ => none
/-- a value that a field of that type takes -/
def okT : FieldType → Value → Bool
  | .int, .int _ => true
  | .boolean, .int x => x == 0 || x == 1
  | .long, .long _ => true
  | .object _, .ref _ => true
  | .array _, .ref _ => true
  | _, _ => false
def pfW (j : Nat) (w : Wd) (i : Nat) (f : Nat × Nat) (v : Value) : Option Wd := match w[i]? with
  | some q => if q.1 = f.1 ∧ f.2 < nfC f.1 ∧ f.2 < q.2.length ∧ okT (tyC f.1 f.2) v = true ∧ (finC f.1 f.2 = true → (yj j).name = "<init>" ∧ owc j = f.1) then some (w.set i (q.1, q.2.set f.2 v)) else none
  | none => none
def asW (w : Wd) (t i : Nat) (x : Int32) (v : Value) : Option Wd := match w[i]? with
  | some q => if q.1 = t ∧ ¬ x < 0 ∧ x.toNatClampNeg < q.2.length then some (w.set i (q.1, q.2.set x.toNatClampNeg v)) else none
  | none => none
/-- the class of what an array of references holds -/
def elC (t : Nat) : Nat := if t = 102 then 2 else 6
def aaW (w : Wd) (i : Nat) (x : Int32) (r : Nat) : Option Wd := match w[i]?, w[r]? with
  | some q, some u => if (q.1 = 102 ∨ q.1 = 103) ∧ u.1 = elC q.1 ∧ ¬ x < 0 ∧ x.toNatClampNeg < q.2.length then some (w.set i (q.1, q.2.set x.toNatClampNeg (.ref r))) else none
  | _, _ => none
def newO (ci : Nat) : Nat × List Value := (ci, (List.range (nfC ci)).map (fun k => defaultValue (tyC ci k)))
def heapW (j : Nat) : Instr → List Value → Wd → Option (List Value × Wd)
  | .putfield idx, v :: .ref i :: st, w => (ftab.lookup (owc j, idx)).bind (fun f => (pfW j w i f v).map (fun w' => (st, w')))
  | .iastore, .int v :: .int x :: .ref i :: st, w => (asW w 100 i x (.int v)).map (fun w' => (st, w'))
  | .bastore, .int v :: .int x :: .ref i :: st, w => if v = 0 ∨ v = 1 then (asW w 101 i x (.int v)).map (fun w' => (st, w')) else none
  | .aastore, .ref r :: .int x :: .ref i :: st, w => (aaW w i x r).map (fun w' => (st, w'))
  | .new idx, st, w => match ntab.lookup (owc j, idx) with
    | some ci => if ci < 9 then some (.ref w.length :: st, w ++ [newO ci]) else none
    | none => none
  | .newarray .int, .int n :: st, w => if n < 0 ∨ 2000 < n then none else some (.ref w.length :: st, w ++ [(100, List.replicate n.toNatClampNeg (.int 0))])
  | .newarray .boolean, .int n :: st, w => if n < 0 ∨ 2000 < n then none else some (.ref w.length :: st, w ++ [(101, List.replicate n.toNatClampNeg (.int 0))])
  | .anewarray idx, .int n :: st, w => if n < 0 ∨ 2000 < n then none else match ntab.lookup (owc j, idx) with
    | some 2 => some (.ref w.length :: st, w ++ [(102, List.replicate n.toNatClampNeg .null)])
    | some 6 => some (.ref w.length :: st, w ++ [(103, List.replicate n.toNatClampNeg .null)])
    | _ => none
  | _, _, _ => none
/-- n values of f from sp on, laid into g from dp on -/
def cpV (f g : List Value) (sp dp n : Nat) : List Value := g.mapIdx (fun k v => if dp ≤ k ∧ k < dp + n then f.getD (sp + (k - dp)) .null else v)
def acW (w : Wd) (a0 : Nat) (sp : Int32) (a : Nat) (dp n : Int32) : Option Wd := match w[a0]?, w[a]? with
  | some q, some u => if q.1 = 100 ∧ u.1 = 100 ∧ ¬ sp < 0 ∧ ¬ dp < 0 ∧ ¬ n < 0 ∧ sp.toNatClampNeg + n.toNatClampNeg ≤ q.2.length ∧ dp.toNatClampNeg + n.toNatClampNeg ≤ u.2.length then some (w.set a (u.1, cpV q.2 u.2 sp.toNatClampNeg dp.toNatClampNeg n.toNatClampNeg)) else none
  | _, _ => none
def layA : List Value → List Value
  | [] => []
  | v :: vs => if v.category = 2 then v :: .null :: layA vs else v :: layA vs
def entL (j : Nat) (As : List Value) : List Value := layA As ++ List.replicate (mxj j - (layA As).length) .null
def catS (st : List Value) : Nat := (st.map (fun v => v.category)).sum
/-- how many words the method takes, by its descriptor -/
def narg (j : Nat) : Nat := match parseMethodDescriptor (yj j).desc with | some d => d.parameters.length | none => 0
def rcvOk (w : Wd) (j : Nat) : Value → Bool
  | .ref i => match w[i]? with
    | some q => q.1 == owc j
    | none => false
  | _ => false
/-- a call: the method, its values, what is left of the stack -/
def callOp (j : Nat) (i : Instr) (st : List Value) (w : Wd) : Option (Nat × List Value × List Value) := match i with
  | .invokevirtual idx => match calT (owc j) idx with
    | some (j', 0) => if rcvOk w j' (st.getD (narg j') .null) = true ∧ narg j' < st.length ∧ catS (st.drop (narg j' + 1)) ≤ 8 then some (j', (st.take (narg j' + 1)).reverse, st.drop (narg j' + 1)) else none
    | _ => none
  | .invokestatic idx => match calT (owc j) idx with
    | some (j', k) => if (k = 1 ∨ k = 3) ∧ narg j' ≤ st.length ∧ catS (st.drop (narg j')) ≤ 8 then some (j', (st.take (narg j')).reverse, st.drop (narg j')) else none
    | _ => none
  | .invokespecial idx => match calT (owc j) idx with
    | some (j', k) => if (k = 2 ∨ k = 4) ∧ rcvOk w j' (st.getD (narg j') .null) = true ∧ narg j' < st.length ∧ catS (st.drop (narg j' + 1)) ≤ 8 then some (j', (st.take (narg j' + 1)).reverse, st.drop (narg j' + 1)) else none
    | _ => none
  | _ => none
/-- Object's constructor, arraycopy -/
def natOp (j : Nat) : Instr → List Value → Wd → Option (List Value × Wd)
  | .invokespecial idx, .ref _ :: st, w => if (calT (owc j) idx).map (fun q => q.2) = some 5 ∧ catS st ≤ 8 then some (st, w) else none
  | .invokestatic idx, .int n :: .int dp :: .ref a :: .int sp :: .ref a0 :: st, w => if (calT (owc j) idx).map (fun q => q.2) = some 6 ∧ catS st ≤ 8 then (acW w a0 sp a dp n).map (fun w' => (st, w')) else none
  | .invokestatic idx, .int y :: .int x :: st, w => match (calT (owc j) idx).map (fun q => q.2) with
    | some 7 => if catS st ≤ 8 then some (.int (if x < y then y else x) :: st, w) else none
    | some 8 => if catS st ≤ 8 then some (.int (if y < x then y else x) :: st, w) else none
    | _ => none
  | _, _, _ => none
def retOp (j : Nat) : Instr → List Value → Option (Option Value)
  | .ireturn, [.int v] => match rtj j with
    | some .int => some (some (.int v))
    | some .boolean => if v = 0 ∨ v = 1 then some (some (.int v)) else none
    | _ => none
  | .lreturn, [.long v] => match rtj j with
    | some .long => some (some (.long v))
    | _ => none
  | .return_, [] => match rtj j with
    | none => some none
    | _ => none
  | _, _ => none
/-- n steps at most, d calls deep at most: the world behind the method, and its answer -/
def ev : Nat → Nat → Nat → Nat → List Value → List Value → Wd → Option (Wd × Option Value)
  | 0, _, _, _, _, _, _ => none
  | n + 1, d, j, pc, ls, st, w => match insAt j pc with
    | none => none
    | some i => match kdI i with
      | 0 => (pureOp (owc j) i st).bind (fun st' => ev n d j (pc + stdLen i) ls st' w)
      | 1 => (loadOp i ls).bind (fun v => ev n d j (pc + stdLen i) ls (v :: st) w)
      | 2 => (storeOp i ls st).bind (fun q => ev n d j (pc + stdLen i) q.1 q.2 w)
      | 3 => (brOp i pc st).bind (fun q => ev n d j q.1 ls q.2 w)
      | 4 => (heapR (owc j) i st w).bind (fun st' => ev n d j (pc + stdLen i) ls st' w)
      | 5 => (heapW j i st w).bind (fun q => ev n d j (pc + stdLen i) ls q.1 q.2)
      | 6 => match callOp j i st w with
        | some c => match d with
          | 0 => none
          | d' + 1 => if (layA c.2.1).length ≤ mxj c.1 then (ev n d' c.1 0 (entL c.1 c.2.1) [] w).bind (fun r => ev n (d' + 1) j (pc + 3) ls (r.2.toList ++ c.2.2) r.1) else none
        | none => (natOp j i st w).bind (fun q => ev n d j (pc + 3) ls q.1 q.2)
      | _ => (retOp j i st).map (fun v => (w, v))
