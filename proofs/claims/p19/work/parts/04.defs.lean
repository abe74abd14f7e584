/-! THE PURE MACHINE: a world is a list of cells (a tag and its values); a reference is a place in that list. Tags 0 to 8: an object of that class of vwCl; 100 an int array, 101 a boolean array, 102 an array of Scrolls, 103 an array of Tellings. -/
abbrev Wd : Type := List (Nat × List Value)
def owc (j : Nat) : Nat := match mtab[j]? with | some q => q.2.2.2.2.1 | none => 11
def mxj (j : Nat) : Nat := match mtab[j]? with | some q => q.2.2.1 | none => 4
def rtj (j : Nat) : Option FieldType := match mtab[j]? with | some q => q.2.2.2.1 | none => none
def yj (j : Nat) : MethodName := match mtab[j]? with | some q => q.1 | none => yL_law
def cdj (j : Nat) : ByteArray := match mtab[j]? with | some q => q.2.1 | none => code
def isj (j : Nat) : List (Nat × Instr × Nat) := match mtab[j]? with | some q => q.2.2.2.2.2 | none => []
def insAt (j pc : Nat) : Option Instr := ((isj j).find? (fun q => q.1 == pc)).map (fun q => q.2.1)
def fldT (c i : Nat) : Option (Nat × Nat) := (ftab ++ ftabN).lookup (c, i)
def calT (c i : Nat) : Option (Nat × Nat) := ctab.lookup (c, i)
def tyC (ci : Nat) : Nat → FieldType := match ci with
  | 0 => tyX0 | 1 => tyX1 | 2 => tyX2 | 3 => tyX3 | 4 => tyX4 | 5 => tyX5 | 6 => tyX6 | 7 => tyX7 | _ => tyX8
def finC (ci k : Nat) : Bool := match vwCl[ci]? with | some q => (q.2.1 k).2.2.2 | none => true
def nfC (ci : Nat) : Nat := match vwCl[ci]? with | some q => q.2.2 | none => 0
def stdLen : Instr → Nat
  | .bipush _ | .iload _ | .aload _ | .lload _ | .istore _ | .astore _ | .lstore _ | .newarray _ => 2
  | .sipush _ | .ifCond _ _ | .if_icmp _ _ | .goto _ | .getfield _ | .putfield _ | .invokevirtual _ | .invokestatic _ | .invokespecial _ | .new _ | .anewarray _ | .iinc _ _ | .ldc_w _ | .ldc2_w _ => 3
  | _ => 1
