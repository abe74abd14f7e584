
/-! CHECKS by the kernel: the tables are what the Statement's code and words say -/
def isSw : Instr → Bool
  | .tableswitch _ _ _ _ => true
  | .lookupswitch _ _ => true
  | _ => false
def chkI (cc : ByteArray) (r : Nat × Instr × Nat) : Bool := decide (decode cc r.1 = .ok (r.2.1, r.2.2)) && (isSw r.2.1 || stdLen r.2.1 == r.2.2)
def chkM (q : MethodName × ByteArray × Nat × Option FieldType × Nat × List (Nat × Instr × Nat)) : Bool := q.2.2.2.2.2.all (chkI q.2.1)
theorem chkM_0 : ((mtab.drop 0).take 29).all chkM = true := by decide +kernel
theorem chkM_29 : ((mtab.drop 29).take 29).all chkM = true := by decide +kernel
theorem chkM_58 : ((mtab.drop 58).take 29).all chkM = true := by decide +kernel
theorem chkM_87 : ((mtab.drop 87).take 29).all chkM = true := by decide +kernel
theorem chkM_116 : ((mtab.drop 116).take 29).all chkM = true := by decide +kernel
theorem chkM_145 : ((mtab.drop 145).take 29).all chkM = true := by decide +kernel
theorem chkM_174 : ((mtab.drop 174).take 29).all chkM = true := by decide +kernel
theorem all_chunks {α : Type} (p : α → Bool) (l : List α) (n k : Nat) (hn : 0 < n) (hk : l.length ≤ n * k) (h : ∀ c, c < k → ((l.drop (n * c)).take n).all p = true) : ∀ q ∈ l, p q = true := by
  intro q hq
  obtain ⟨i, hi⟩ := List.getElem?_of_mem hq
  have hl : i < l.length := (List.getElem?_eq_some_iff.mp hi).1
  have hc : i / n < k := Nat.div_lt_of_lt_mul (Nat.lt_of_lt_of_le hl hk)
  refine List.all_eq_true.mp (h (i / n) hc) q (List.mem_of_getElem? (i := i % n) ?_)
  rw [List.getElem?_take, if_pos (Nat.mod_lt _ hn), List.getElem?_drop, Nat.div_add_mod]
  exact hi
theorem chkM_all : ∀ q ∈ mtab, chkM q = true := by
  refine all_chunks chkM mtab 29 7 (by decide) (by decide +kernel) (fun c hc => ?_)
  match c, hc with
  | 0, _ => exact chkM_0
  | 1, _ => exact chkM_29
  | 2, _ => exact chkM_58
  | 3, _ => exact chkM_87
  | 4, _ => exact chkM_116
  | 5, _ => exact chkM_145
  | 6, _ => exact chkM_174
