
/-! CHECKS by the kernel: the tables are what the Statement's code and words say -/
def isSw : Instr → Bool
  | .tableswitch _ _ _ _ => true
  | .lookupswitch _ _ => true
  | _ => false
def chkI (cc : ByteArray) (r : Nat × Instr × Nat) : Bool := decide (decode cc r.1 = .ok (r.2.1, r.2.2)) && (isSw r.2.1 || stdLen r.2.1 == r.2.2)
def chkM (q : MethodName × ByteArray × Nat × Option FieldType × Nat × List (Nat × Instr × Nat)) : Bool := q.2.2.2.2.2.all (chkI q.2.1)
/-! INSTRUCTIONS BY THEIR BYTES: quick to check by the kernel -/
def uOk (cc : ByteArray) (p a : Nat) : Prop := (Reader.u1 : Decoder Nat) cc p = .ok (a, p + 1)
theorem u_of {cc : ByteArray} {p : Nat} {c : UInt8} (h : cc.data.toList[p]? = some c) : uOk cc p c.toNat := by
  have h1 := (List.getElem?_eq_some_iff.mp h).1
  have h2 := (List.getElem?_eq_some_iff.mp h).2
  have hlt : p < cc.size := by simpa using h1
  rw [Array.getElem_toList] at h2
  have hc : cc[p] = c := h2
  unfold uOk Reader.u1
  show (dite (p < cc.size) _ _ : Decoder Nat) cc p = _
  rw [dif_pos hlt]
  show Except.ok (cc[p].toNat, p + 1) = _
  rw [hc]
theorem dec_of {cc : ByteArray} {p op n : Nat} {i : Instr} (K : Nat → Decoder Instr) (hK : Decoder.instr p = (Reader.u1 >>= K)) (e : uOk cc p op) (hk : K op cc (p + 1) = .ok (i, p + n)) : decode cc p = .ok (i, n) := by
  unfold decode Reader.runAt
  rw [hK]
  show (Except.bind (Except.bind ((Reader.u1 : Decoder Nat) cc p) (fun x => K x.1 cc x.2)) (fun x => Except.ok (x.1, x.2 - p))) = _
  rw [show (Reader.u1 : Decoder Nat) cc p = .ok (op, p + 1) from e]
  show (Except.bind (K op cc (p + 1)) (fun x => Except.ok (x.1, x.2 - p))) = _
  rw [hk]
  show Except.ok (i, p + n - p) = _
  rw [Nat.add_sub_cancel_left]
theorem o_b {cc : ByteArray} {p b : Nat} {m : Decoder Instr} {r : Except DecodeError (Instr × Nat)} (K : Nat → Decoder Instr) (hK : m = (Reader.u1 >>= K)) (e : uOk cc p b) (hk : K b cc (p + 1) = r) : m cc p = r := by
  rw [hK]
  show (Except.bind ((Reader.u1 : Decoder Nat) cc p) (fun x => K x.1 cc x.2)) = _
  rw [show (Reader.u1 : Decoder Nat) cc p = .ok (b, p + 1) from e]
  exact hk
theorem u2_of {cc : ByteArray} {p a b : Nat} (e1 : uOk cc p a) (e2 : uOk cc (p + 1) b) : (Reader.u2 : Decoder Nat) cc p = .ok (a * 256 + b, p + 2) := by
  show (Except.bind ((Reader.u1 : Decoder Nat) cc p) (fun x => Except.bind ((Reader.u1 : Decoder Nat) cc x.2) (fun y => Except.ok (x.1 * 256 + y.1, y.2)))) = _
  rw [show (Reader.u1 : Decoder Nat) cc p = .ok (a, p + 1) from e1]
  show (Except.bind ((Reader.u1 : Decoder Nat) cc (p + 1)) (fun y => Except.ok (a * 256 + y.1, y.2))) = _
  rw [show (Reader.u1 : Decoder Nat) cc (p + 1) = .ok (b, p + 1 + 1) from e2]
  rfl
theorem o_u1 {cc : ByteArray} {p b : Nat} (f : Nat → Instr) {m : Decoder Instr} (hm : m = (Reader.u1 >>= fun x => pure (f x))) (e : uOk cc p b) : m cc p = .ok (f b, p + 1) := by
  rw [hm]
  show (Except.bind ((Reader.u1 : Decoder Nat) cc p) (fun x => Except.ok (f x.1, x.2))) = _
  rw [show (Reader.u1 : Decoder Nat) cc p = .ok (b, p + 1) from e]
  rfl
theorem o_u2 {cc : ByteArray} {p a b : Nat} (f : Nat → Instr) {m : Decoder Instr} (hm : m = (Reader.u2 >>= fun x => pure (f x))) (e1 : uOk cc p a) (e2 : uOk cc (p + 1) b) : m cc p = .ok (f (a * 256 + b), p + 2) := by
  rw [hm]
  show (Except.bind ((Reader.u2 : Decoder Nat) cc p) (fun x => Except.ok (f x.1, x.2))) = _
  rw [u2_of e1 e2]
  rfl
theorem o_s1 {cc : ByteArray} {p b : Nat} (f : Int → Instr) {m : Decoder Instr} (hm : m = (Reader.s1 >>= fun x => pure (f x))) (e : uOk cc p b) : m cc p = .ok (f (Reader.signed 8 b), p + 1) := by
  rw [hm]
  show (Except.bind (Except.bind ((Reader.u1 : Decoder Nat) cc p) (fun x => Except.ok (Reader.signed 8 x.1, x.2))) (fun x => Except.ok (f x.1, x.2))) = _
  rw [show (Reader.u1 : Decoder Nat) cc p = .ok (b, p + 1) from e]
  rfl
theorem o_s2 {cc : ByteArray} {p a b : Nat} (f : Int → Instr) {m : Decoder Instr} (hm : m = (Reader.s2 >>= fun x => pure (f x))) (e1 : uOk cc p a) (e2 : uOk cc (p + 1) b) : m cc p = .ok (f (Reader.signed 16 (a * 256 + b)), p + 2) := by
  rw [hm]
  show (Except.bind (Except.bind ((Reader.u2 : Decoder Nat) cc p) (fun x => Except.ok (Reader.signed 16 x.1, x.2))) (fun x => Except.ok (f x.1, x.2))) = _
  rw [u2_of e1 e2]
  rfl
theorem o_us {cc : ByteArray} {p a b : Nat} (f : Nat → Int → Instr) {m : Decoder Instr} (hm : m = (Reader.u1 >>= fun x => Reader.s1 >>= fun y => pure (f x y))) (e1 : uOk cc p a) (e2 : uOk cc (p + 1) b) : m cc p = .ok (f a (Reader.signed 8 b), p + 2) := by
  rw [hm]
  show (Except.bind ((Reader.u1 : Decoder Nat) cc p) (fun x => Except.bind (Except.bind ((Reader.u1 : Decoder Nat) cc x.2) (fun y => Except.ok (Reader.signed 8 y.1, y.2))) (fun y => Except.ok (f x.1 y.1, y.2)))) = _
  rw [show (Reader.u1 : Decoder Nat) cc p = .ok (a, p + 1) from e1]
  show (Except.bind (Except.bind ((Reader.u1 : Decoder Nat) cc (p + 1)) (fun y => Except.ok (Reader.signed 8 y.1, y.2))) (fun y => Except.ok (f a y.1, y.2))) = _
  rw [show (Reader.u1 : Decoder Nat) cc (p + 1) = .ok (b, p + 1 + 1) from e2]
  rfl
def uns8 (v : Int) : Nat := (if v < 0 then v + 256 else v).toNat
def uns16 (v : Int) : Nat := (if v < 0 then v + 65536 else v).toNat
theorem sg8 {v : Int} (h : -128 ≤ v ∧ v < 128) : Reader.signed 8 (uns8 v) = v := by
  unfold Reader.signed uns8
  rw [show (2 : Nat) ^ (8 - 1) = 128 from rfl, show ((2 : Nat) ^ 8 : Nat) = 256 from rfl]
  split <;> split <;> omega
theorem sg16 {v : Int} (h : -32768 ≤ v ∧ v < 32768) : Reader.signed 16 (uns16 v / 256 * 256 + uns16 v % 256) = v := by
  have e : uns16 v / 256 * 256 + uns16 v % 256 = uns16 v := by omega
  rw [e]
  unfold Reader.signed uns16
  rw [show (2 : Nat) ^ (16 - 1) = 32768 from rfl, show ((2 : Nat) ^ 16 : Nat) = 65536 from rfl]
  split <;> split <;> omega
def pre8 : List Nat → List UInt8 → Bool
  | [], _ => true
  | _ :: _, [] => false
  | b :: bs, c :: cs => (c.toNat == b) && pre8 bs cs
theorem pre_u {cc : ByteArray} {p b : Nat} {bs : List Nat} (h : pre8 (b :: bs) (cc.data.toList.drop p) = true) : uOk cc p b ∧ pre8 bs (cc.data.toList.drop (p + 1)) = true := by
  cases hl : cc.data.toList.drop p with
  | nil => rw [hl] at h; exact absurd h (by simp [pre8])
  | cons c cs =>
    rw [hl] at h
    simp only [pre8, Bool.and_eq_true, beq_iff_eq] at h
    have h1 : cc.data.toList[p]? = some c := by
      have := congrArg (fun l => l[0]?) hl
      simpa using this
    have h2 : cc.data.toList.drop (p + 1) = cs := by
      have := congrArg (fun l => l.drop 1) hl
      simpa [List.drop_drop] using this
    rw [h2, ← h.1]
    exact ⟨u_of h1, h.2⟩

def enc : Instr → Option (List Nat)
  | .aaload => some [50]
  | .aastore => some [83]
  | .arraylength => some [190]
  | .baload => some [51]
  | .bastore => some [84]
  | .dup => some [89]
  | .dup2 => some [92]
  | .i2l => some [133]
  | .iadd => some [96]
  | .iaload => some [46]
  | .iand => some [126]
  | .iastore => some [79]
  | .idiv => some [108]
  | .imul => some [104]
  | .ior => some [128]
  | .irem => some [112]
  | .ireturn => some [172]
  | .ishl => some [120]
  | .ishr => some [122]
  | .isub => some [100]
  | .iushr => some [124]
  | .ixor => some [130]
  | .l2i => some [136]
  | .ladd => some [97]
  | .land => some [127]
  | .lcmp => some [148]
  | .lmul => some [105]
  | .lor => some [129]
  | .lrem => some [113]
  | .lreturn => some [173]
  | .lshl => some [121]
  | .lushr => some [125]
  | .pop => some [87]
  | .pop2 => some [88]
  | .return_ => some [177]
  | .iload_n n => some [26 + n.val]
  | .lload_n n => some [30 + n.val]
  | .aload_n n => some [42 + n.val]
  | .istore_n n => some [59 + n.val]
  | .lstore_n n => some [63 + n.val]
  | .astore_n n => some [75 + n.val]
  | .lconst n => some [9 + n.val]
  | .iconst v => if -1 ≤ v ∧ v ≤ 5 then some [(v + 3).toNat] else none
  | .iload x => some [21, x]
  | .lload x => some [22, x]
  | .aload x => some [25, x]
  | .istore x => some [54, x]
  | .astore x => some [58, x]
  | .ldc_w x => some [19, x / 256, x % 256]
  | .ldc2_w x => some [20, x / 256, x % 256]
  | .getfield x => some [180, x / 256, x % 256]
  | .putfield x => some [181, x / 256, x % 256]
  | .invokevirtual x => some [182, x / 256, x % 256]
  | .invokespecial x => some [183, x / 256, x % 256]
  | .invokestatic x => some [184, x / 256, x % 256]
  | .new x => some [187, x / 256, x % 256]
  | .anewarray x => some [189, x / 256, x % 256]
  | .bipush v => if -128 ≤ v ∧ v < 128 then some [16, uns8 v] else none
  | .sipush v => if -32768 ≤ v ∧ v < 32768 then some [17, uns16 v / 256, uns16 v % 256] else none
  | .goto v => if -32768 ≤ v ∧ v < 32768 then some [167, uns16 v / 256, uns16 v % 256] else none
  | .ifCond .eq v => if -32768 ≤ v ∧ v < 32768 then some [153, uns16 v / 256, uns16 v % 256] else none
  | .ifCond .ne v => if -32768 ≤ v ∧ v < 32768 then some [154, uns16 v / 256, uns16 v % 256] else none
  | .ifCond .lt v => if -32768 ≤ v ∧ v < 32768 then some [155, uns16 v / 256, uns16 v % 256] else none
  | .ifCond .ge v => if -32768 ≤ v ∧ v < 32768 then some [156, uns16 v / 256, uns16 v % 256] else none
  | .ifCond .gt v => if -32768 ≤ v ∧ v < 32768 then some [157, uns16 v / 256, uns16 v % 256] else none
  | .ifCond .le v => if -32768 ≤ v ∧ v < 32768 then some [158, uns16 v / 256, uns16 v % 256] else none
  | .if_icmp .eq v => if -32768 ≤ v ∧ v < 32768 then some [159, uns16 v / 256, uns16 v % 256] else none
  | .if_icmp .ne v => if -32768 ≤ v ∧ v < 32768 then some [160, uns16 v / 256, uns16 v % 256] else none
  | .if_icmp .lt v => if -32768 ≤ v ∧ v < 32768 then some [161, uns16 v / 256, uns16 v % 256] else none
  | .if_icmp .ge v => if -32768 ≤ v ∧ v < 32768 then some [162, uns16 v / 256, uns16 v % 256] else none
  | .if_icmp .gt v => if -32768 ≤ v ∧ v < 32768 then some [163, uns16 v / 256, uns16 v % 256] else none
  | .if_icmp .le v => if -32768 ≤ v ∧ v < 32768 then some [164, uns16 v / 256, uns16 v % 256] else none
  | .iinc x v => if -128 ≤ v ∧ v < 128 then some [132, x, uns8 v] else none
  | .newarray .boolean => some [188, 4]
  | .newarray .int => some [188, 10]
  | _ => none
theorem enc_ok {cc : ByteArray} {p : Nat} : ∀ (i : Instr) (bs : List Nat), enc i = some bs → pre8 bs (cc.data.toList.drop p) = true → decode cc p = .ok (i, bs.length) := by
  intro i bs h hp
  cases i with
  | aaload =>
    have hb : some [50] = some bs := h
    cases hb
    exact dec_of _ rfl (pre_u hp).1 rfl
  | aastore =>
    have hb : some [83] = some bs := h
    cases hb
    exact dec_of _ rfl (pre_u hp).1 rfl
  | arraylength =>
    have hb : some [190] = some bs := h
    cases hb
    exact dec_of _ rfl (pre_u hp).1 rfl
  | baload =>
    have hb : some [51] = some bs := h
    cases hb
    exact dec_of _ rfl (pre_u hp).1 rfl
  | bastore =>
    have hb : some [84] = some bs := h
    cases hb
    exact dec_of _ rfl (pre_u hp).1 rfl
  | dup =>
    have hb : some [89] = some bs := h
    cases hb
    exact dec_of _ rfl (pre_u hp).1 rfl
  | dup2 =>
    have hb : some [92] = some bs := h
    cases hb
    exact dec_of _ rfl (pre_u hp).1 rfl
  | i2l =>
    have hb : some [133] = some bs := h
    cases hb
    exact dec_of _ rfl (pre_u hp).1 rfl
  | iadd =>
    have hb : some [96] = some bs := h
    cases hb
    exact dec_of _ rfl (pre_u hp).1 rfl
  | iaload =>
    have hb : some [46] = some bs := h
    cases hb
    exact dec_of _ rfl (pre_u hp).1 rfl
  | iand =>
    have hb : some [126] = some bs := h
    cases hb
    exact dec_of _ rfl (pre_u hp).1 rfl
  | iastore =>
    have hb : some [79] = some bs := h
    cases hb
    exact dec_of _ rfl (pre_u hp).1 rfl
  | idiv =>
    have hb : some [108] = some bs := h
    cases hb
    exact dec_of _ rfl (pre_u hp).1 rfl
  | imul =>
    have hb : some [104] = some bs := h
    cases hb
    exact dec_of _ rfl (pre_u hp).1 rfl
  | ior =>
    have hb : some [128] = some bs := h
    cases hb
    exact dec_of _ rfl (pre_u hp).1 rfl
  | irem =>
    have hb : some [112] = some bs := h
    cases hb
    exact dec_of _ rfl (pre_u hp).1 rfl
  | ireturn =>
    have hb : some [172] = some bs := h
    cases hb
    exact dec_of _ rfl (pre_u hp).1 rfl
  | ishl =>
    have hb : some [120] = some bs := h
    cases hb
    exact dec_of _ rfl (pre_u hp).1 rfl
  | ishr =>
    have hb : some [122] = some bs := h
    cases hb
    exact dec_of _ rfl (pre_u hp).1 rfl
  | isub =>
    have hb : some [100] = some bs := h
    cases hb
    exact dec_of _ rfl (pre_u hp).1 rfl
  | iushr =>
    have hb : some [124] = some bs := h
    cases hb
    exact dec_of _ rfl (pre_u hp).1 rfl
  | ixor =>
    have hb : some [130] = some bs := h
    cases hb
    exact dec_of _ rfl (pre_u hp).1 rfl
  | l2i =>
    have hb : some [136] = some bs := h
    cases hb
    exact dec_of _ rfl (pre_u hp).1 rfl
  | ladd =>
    have hb : some [97] = some bs := h
    cases hb
    exact dec_of _ rfl (pre_u hp).1 rfl
  | land =>
    have hb : some [127] = some bs := h
    cases hb
    exact dec_of _ rfl (pre_u hp).1 rfl
  | lcmp =>
    have hb : some [148] = some bs := h
    cases hb
    exact dec_of _ rfl (pre_u hp).1 rfl
  | lmul =>
    have hb : some [105] = some bs := h
    cases hb
    exact dec_of _ rfl (pre_u hp).1 rfl
  | lor =>
    have hb : some [129] = some bs := h
    cases hb
    exact dec_of _ rfl (pre_u hp).1 rfl
  | lrem =>
    have hb : some [113] = some bs := h
    cases hb
    exact dec_of _ rfl (pre_u hp).1 rfl
  | lreturn =>
    have hb : some [173] = some bs := h
    cases hb
    exact dec_of _ rfl (pre_u hp).1 rfl
  | lshl =>
    have hb : some [121] = some bs := h
    cases hb
    exact dec_of _ rfl (pre_u hp).1 rfl
  | lushr =>
    have hb : some [125] = some bs := h
    cases hb
    exact dec_of _ rfl (pre_u hp).1 rfl
  | pop =>
    have hb : some [87] = some bs := h
    cases hb
    exact dec_of _ rfl (pre_u hp).1 rfl
  | pop2 =>
    have hb : some [88] = some bs := h
    cases hb
    exact dec_of _ rfl (pre_u hp).1 rfl
  | return_ =>
    have hb : some [177] = some bs := h
    cases hb
    exact dec_of _ rfl (pre_u hp).1 rfl
  | iload_n n =>
    obtain ⟨n, hn⟩ := n
    rcases (by omega : n = 0 ∨ n = 1 ∨ n = 2 ∨ n = 3) with rfl | rfl | rfl | rfl
    · have hb : some [26] = some bs := h
      cases hb
      exact dec_of _ rfl (pre_u hp).1 rfl
    · have hb : some [27] = some bs := h
      cases hb
      exact dec_of _ rfl (pre_u hp).1 rfl
    · have hb : some [28] = some bs := h
      cases hb
      exact dec_of _ rfl (pre_u hp).1 rfl
    · have hb : some [29] = some bs := h
      cases hb
      exact dec_of _ rfl (pre_u hp).1 rfl
  | lload_n n =>
    obtain ⟨n, hn⟩ := n
    rcases (by omega : n = 0 ∨ n = 1 ∨ n = 2 ∨ n = 3) with rfl | rfl | rfl | rfl
    · have hb : some [30] = some bs := h
      cases hb
      exact dec_of _ rfl (pre_u hp).1 rfl
    · have hb : some [31] = some bs := h
      cases hb
      exact dec_of _ rfl (pre_u hp).1 rfl
    · have hb : some [32] = some bs := h
      cases hb
      exact dec_of _ rfl (pre_u hp).1 rfl
    · have hb : some [33] = some bs := h
      cases hb
      exact dec_of _ rfl (pre_u hp).1 rfl
  | aload_n n =>
    obtain ⟨n, hn⟩ := n
    rcases (by omega : n = 0 ∨ n = 1 ∨ n = 2 ∨ n = 3) with rfl | rfl | rfl | rfl
    · have hb : some [42] = some bs := h
      cases hb
      exact dec_of _ rfl (pre_u hp).1 rfl
    · have hb : some [43] = some bs := h
      cases hb
      exact dec_of _ rfl (pre_u hp).1 rfl
    · have hb : some [44] = some bs := h
      cases hb
      exact dec_of _ rfl (pre_u hp).1 rfl
    · have hb : some [45] = some bs := h
      cases hb
      exact dec_of _ rfl (pre_u hp).1 rfl
  | istore_n n =>
    obtain ⟨n, hn⟩ := n
    rcases (by omega : n = 0 ∨ n = 1 ∨ n = 2 ∨ n = 3) with rfl | rfl | rfl | rfl
    · have hb : some [59] = some bs := h
      cases hb
      exact dec_of _ rfl (pre_u hp).1 rfl
    · have hb : some [60] = some bs := h
      cases hb
      exact dec_of _ rfl (pre_u hp).1 rfl
    · have hb : some [61] = some bs := h
      cases hb
      exact dec_of _ rfl (pre_u hp).1 rfl
    · have hb : some [62] = some bs := h
      cases hb
      exact dec_of _ rfl (pre_u hp).1 rfl
  | lstore_n n =>
    obtain ⟨n, hn⟩ := n
    rcases (by omega : n = 0 ∨ n = 1 ∨ n = 2 ∨ n = 3) with rfl | rfl | rfl | rfl
    · have hb : some [63] = some bs := h
      cases hb
      exact dec_of _ rfl (pre_u hp).1 rfl
    · have hb : some [64] = some bs := h
      cases hb
      exact dec_of _ rfl (pre_u hp).1 rfl
    · have hb : some [65] = some bs := h
      cases hb
      exact dec_of _ rfl (pre_u hp).1 rfl
    · have hb : some [66] = some bs := h
      cases hb
      exact dec_of _ rfl (pre_u hp).1 rfl
  | astore_n n =>
    obtain ⟨n, hn⟩ := n
    rcases (by omega : n = 0 ∨ n = 1 ∨ n = 2 ∨ n = 3) with rfl | rfl | rfl | rfl
    · have hb : some [75] = some bs := h
      cases hb
      exact dec_of _ rfl (pre_u hp).1 rfl
    · have hb : some [76] = some bs := h
      cases hb
      exact dec_of _ rfl (pre_u hp).1 rfl
    · have hb : some [77] = some bs := h
      cases hb
      exact dec_of _ rfl (pre_u hp).1 rfl
    · have hb : some [78] = some bs := h
      cases hb
      exact dec_of _ rfl (pre_u hp).1 rfl
  | lconst n =>
    obtain ⟨n, hn⟩ := n
    rcases (by omega : n = 0 ∨ n = 1) with rfl | rfl
    · have hb : some [9] = some bs := h
      cases hb
      exact dec_of _ rfl (pre_u hp).1 rfl
    · have hb : some [10] = some bs := h
      cases hb
      exact dec_of _ rfl (pre_u hp).1 rfl
  | iconst v =>
    have hb : (if -1 ≤ v ∧ v ≤ 5 then some [(v + 3).toNat] else none) = some bs := h
    split at hb
    · rename_i hv
      rcases (by omega : v = -1 ∨ v = 0 ∨ v = 1 ∨ v = 2 ∨ v = 3 ∨ v = 4 ∨ v = 5) with rfl | rfl | rfl | rfl | rfl | rfl | rfl
      · have hb2 : some [2] = some bs := hb
        cases hb2
        exact dec_of _ rfl (pre_u hp).1 rfl
      · have hb2 : some [3] = some bs := hb
        cases hb2
        exact dec_of _ rfl (pre_u hp).1 rfl
      · have hb2 : some [4] = some bs := hb
        cases hb2
        exact dec_of _ rfl (pre_u hp).1 rfl
      · have hb2 : some [5] = some bs := hb
        cases hb2
        exact dec_of _ rfl (pre_u hp).1 rfl
      · have hb2 : some [6] = some bs := hb
        cases hb2
        exact dec_of _ rfl (pre_u hp).1 rfl
      · have hb2 : some [7] = some bs := hb
        cases hb2
        exact dec_of _ rfl (pre_u hp).1 rfl
      · have hb2 : some [8] = some bs := hb
        cases hb2
        exact dec_of _ rfl (pre_u hp).1 rfl
    · cases hb
  | iload x =>
    have hb : some [21, x] = some bs := h
    cases hb
    obtain ⟨e0, hp⟩ := pre_u hp
    obtain ⟨e1, hp⟩ := pre_u hp
    exact dec_of _ rfl e0 (o_u1 (fun x => .iload x) rfl e1)
  | lload x =>
    have hb : some [22, x] = some bs := h
    cases hb
    obtain ⟨e0, hp⟩ := pre_u hp
    obtain ⟨e1, hp⟩ := pre_u hp
    exact dec_of _ rfl e0 (o_u1 (fun x => .lload x) rfl e1)
  | aload x =>
    have hb : some [25, x] = some bs := h
    cases hb
    obtain ⟨e0, hp⟩ := pre_u hp
    obtain ⟨e1, hp⟩ := pre_u hp
    exact dec_of _ rfl e0 (o_u1 (fun x => .aload x) rfl e1)
  | istore x =>
    have hb : some [54, x] = some bs := h
    cases hb
    obtain ⟨e0, hp⟩ := pre_u hp
    obtain ⟨e1, hp⟩ := pre_u hp
    exact dec_of _ rfl e0 (o_u1 (fun x => .istore x) rfl e1)
  | astore x =>
    have hb : some [58, x] = some bs := h
    cases hb
    obtain ⟨e0, hp⟩ := pre_u hp
    obtain ⟨e1, hp⟩ := pre_u hp
    exact dec_of _ rfl e0 (o_u1 (fun x => .astore x) rfl e1)
  | ldc_w x =>
    have hb : some [19, x / 256, x % 256] = some bs := h
    cases hb
    obtain ⟨e0, hp⟩ := pre_u hp
    obtain ⟨e1, hp⟩ := pre_u hp
    obtain ⟨e2, hp⟩ := pre_u hp
    exact dec_of _ rfl e0 ((o_u2 (fun x => .ldc_w x) rfl e1 e2).trans (by rw [show x / 256 * 256 + x % 256 = x by omega]; rfl))
  | ldc2_w x =>
    have hb : some [20, x / 256, x % 256] = some bs := h
    cases hb
    obtain ⟨e0, hp⟩ := pre_u hp
    obtain ⟨e1, hp⟩ := pre_u hp
    obtain ⟨e2, hp⟩ := pre_u hp
    exact dec_of _ rfl e0 ((o_u2 (fun x => .ldc2_w x) rfl e1 e2).trans (by rw [show x / 256 * 256 + x % 256 = x by omega]; rfl))
  | getfield x =>
    have hb : some [180, x / 256, x % 256] = some bs := h
    cases hb
    obtain ⟨e0, hp⟩ := pre_u hp
    obtain ⟨e1, hp⟩ := pre_u hp
    obtain ⟨e2, hp⟩ := pre_u hp
    exact dec_of _ rfl e0 ((o_u2 (fun x => .getfield x) rfl e1 e2).trans (by rw [show x / 256 * 256 + x % 256 = x by omega]; rfl))
  | putfield x =>
    have hb : some [181, x / 256, x % 256] = some bs := h
    cases hb
    obtain ⟨e0, hp⟩ := pre_u hp
    obtain ⟨e1, hp⟩ := pre_u hp
    obtain ⟨e2, hp⟩ := pre_u hp
    exact dec_of _ rfl e0 ((o_u2 (fun x => .putfield x) rfl e1 e2).trans (by rw [show x / 256 * 256 + x % 256 = x by omega]; rfl))
  | invokevirtual x =>
    have hb : some [182, x / 256, x % 256] = some bs := h
    cases hb
    obtain ⟨e0, hp⟩ := pre_u hp
    obtain ⟨e1, hp⟩ := pre_u hp
    obtain ⟨e2, hp⟩ := pre_u hp
    exact dec_of _ rfl e0 ((o_u2 (fun x => .invokevirtual x) rfl e1 e2).trans (by rw [show x / 256 * 256 + x % 256 = x by omega]; rfl))
  | invokespecial x =>
    have hb : some [183, x / 256, x % 256] = some bs := h
    cases hb
    obtain ⟨e0, hp⟩ := pre_u hp
    obtain ⟨e1, hp⟩ := pre_u hp
    obtain ⟨e2, hp⟩ := pre_u hp
    exact dec_of _ rfl e0 ((o_u2 (fun x => .invokespecial x) rfl e1 e2).trans (by rw [show x / 256 * 256 + x % 256 = x by omega]; rfl))
  | invokestatic x =>
    have hb : some [184, x / 256, x % 256] = some bs := h
    cases hb
    obtain ⟨e0, hp⟩ := pre_u hp
    obtain ⟨e1, hp⟩ := pre_u hp
    obtain ⟨e2, hp⟩ := pre_u hp
    exact dec_of _ rfl e0 ((o_u2 (fun x => .invokestatic x) rfl e1 e2).trans (by rw [show x / 256 * 256 + x % 256 = x by omega]; rfl))
  | new x =>
    have hb : some [187, x / 256, x % 256] = some bs := h
    cases hb
    obtain ⟨e0, hp⟩ := pre_u hp
    obtain ⟨e1, hp⟩ := pre_u hp
    obtain ⟨e2, hp⟩ := pre_u hp
    exact dec_of _ rfl e0 ((o_u2 (fun x => .new x) rfl e1 e2).trans (by rw [show x / 256 * 256 + x % 256 = x by omega]; rfl))
  | anewarray x =>
    have hb : some [189, x / 256, x % 256] = some bs := h
    cases hb
    obtain ⟨e0, hp⟩ := pre_u hp
    obtain ⟨e1, hp⟩ := pre_u hp
    obtain ⟨e2, hp⟩ := pre_u hp
    exact dec_of _ rfl e0 ((o_u2 (fun x => .anewarray x) rfl e1 e2).trans (by rw [show x / 256 * 256 + x % 256 = x by omega]; rfl))
  | bipush v =>
    have hb : (if -128 ≤ v ∧ v < 128 then some [16, uns8 v] else none) = some bs := h
    split at hb
    · rename_i hv
      cases hb
      obtain ⟨e0, hp⟩ := pre_u hp
      obtain ⟨e1, hp⟩ := pre_u hp
      exact dec_of _ rfl e0 ((o_s1 (fun v => .bipush v) rfl e1).trans (by rw [sg8 hv]; rfl))
    · cases hb
  | sipush v =>
    have hb : (if -32768 ≤ v ∧ v < 32768 then some [17, uns16 v / 256, uns16 v % 256] else none) = some bs := h
    split at hb
    · rename_i hv
      cases hb
      obtain ⟨e0, hp⟩ := pre_u hp
      obtain ⟨e1, hp⟩ := pre_u hp
      obtain ⟨e2, hp⟩ := pre_u hp
      exact dec_of _ rfl e0 ((o_s2 (fun v => .sipush v) rfl e1 e2).trans (by rw [sg16 hv]; rfl))
    · cases hb
  | goto v =>
    have hb : (if -32768 ≤ v ∧ v < 32768 then some [167, uns16 v / 256, uns16 v % 256] else none) = some bs := h
    split at hb
    · rename_i hv
      cases hb
      obtain ⟨e0, hp⟩ := pre_u hp
      obtain ⟨e1, hp⟩ := pre_u hp
      obtain ⟨e2, hp⟩ := pre_u hp
      exact dec_of _ rfl e0 ((o_s2 (fun v => .goto v) rfl e1 e2).trans (by rw [sg16 hv]; rfl))
    · cases hb
  | ifCond c v =>
    cases c with
    | eq =>
      have hb : (if -32768 ≤ v ∧ v < 32768 then some [153, uns16 v / 256, uns16 v % 256] else none) = some bs := h
      split at hb
      · rename_i hv
        cases hb
        obtain ⟨e0, hp⟩ := pre_u hp
        obtain ⟨e1, hp⟩ := pre_u hp
        obtain ⟨e2, hp⟩ := pre_u hp
        exact dec_of _ rfl e0 ((o_s2 (fun v => .ifCond .eq v) rfl e1 e2).trans (by rw [sg16 hv]; rfl))
      · cases hb
    | ne =>
      have hb : (if -32768 ≤ v ∧ v < 32768 then some [154, uns16 v / 256, uns16 v % 256] else none) = some bs := h
      split at hb
      · rename_i hv
        cases hb
        obtain ⟨e0, hp⟩ := pre_u hp
        obtain ⟨e1, hp⟩ := pre_u hp
        obtain ⟨e2, hp⟩ := pre_u hp
        exact dec_of _ rfl e0 ((o_s2 (fun v => .ifCond .ne v) rfl e1 e2).trans (by rw [sg16 hv]; rfl))
      · cases hb
    | lt =>
      have hb : (if -32768 ≤ v ∧ v < 32768 then some [155, uns16 v / 256, uns16 v % 256] else none) = some bs := h
      split at hb
      · rename_i hv
        cases hb
        obtain ⟨e0, hp⟩ := pre_u hp
        obtain ⟨e1, hp⟩ := pre_u hp
        obtain ⟨e2, hp⟩ := pre_u hp
        exact dec_of _ rfl e0 ((o_s2 (fun v => .ifCond .lt v) rfl e1 e2).trans (by rw [sg16 hv]; rfl))
      · cases hb
    | ge =>
      have hb : (if -32768 ≤ v ∧ v < 32768 then some [156, uns16 v / 256, uns16 v % 256] else none) = some bs := h
      split at hb
      · rename_i hv
        cases hb
        obtain ⟨e0, hp⟩ := pre_u hp
        obtain ⟨e1, hp⟩ := pre_u hp
        obtain ⟨e2, hp⟩ := pre_u hp
        exact dec_of _ rfl e0 ((o_s2 (fun v => .ifCond .ge v) rfl e1 e2).trans (by rw [sg16 hv]; rfl))
      · cases hb
    | gt =>
      have hb : (if -32768 ≤ v ∧ v < 32768 then some [157, uns16 v / 256, uns16 v % 256] else none) = some bs := h
      split at hb
      · rename_i hv
        cases hb
        obtain ⟨e0, hp⟩ := pre_u hp
        obtain ⟨e1, hp⟩ := pre_u hp
        obtain ⟨e2, hp⟩ := pre_u hp
        exact dec_of _ rfl e0 ((o_s2 (fun v => .ifCond .gt v) rfl e1 e2).trans (by rw [sg16 hv]; rfl))
      · cases hb
    | le =>
      have hb : (if -32768 ≤ v ∧ v < 32768 then some [158, uns16 v / 256, uns16 v % 256] else none) = some bs := h
      split at hb
      · rename_i hv
        cases hb
        obtain ⟨e0, hp⟩ := pre_u hp
        obtain ⟨e1, hp⟩ := pre_u hp
        obtain ⟨e2, hp⟩ := pre_u hp
        exact dec_of _ rfl e0 ((o_s2 (fun v => .ifCond .le v) rfl e1 e2).trans (by rw [sg16 hv]; rfl))
      · cases hb
  | if_icmp c v =>
    cases c with
    | eq =>
      have hb : (if -32768 ≤ v ∧ v < 32768 then some [159, uns16 v / 256, uns16 v % 256] else none) = some bs := h
      split at hb
      · rename_i hv
        cases hb
        obtain ⟨e0, hp⟩ := pre_u hp
        obtain ⟨e1, hp⟩ := pre_u hp
        obtain ⟨e2, hp⟩ := pre_u hp
        exact dec_of _ rfl e0 ((o_s2 (fun v => .if_icmp .eq v) rfl e1 e2).trans (by rw [sg16 hv]; rfl))
      · cases hb
    | ne =>
      have hb : (if -32768 ≤ v ∧ v < 32768 then some [160, uns16 v / 256, uns16 v % 256] else none) = some bs := h
      split at hb
      · rename_i hv
        cases hb
        obtain ⟨e0, hp⟩ := pre_u hp
        obtain ⟨e1, hp⟩ := pre_u hp
        obtain ⟨e2, hp⟩ := pre_u hp
        exact dec_of _ rfl e0 ((o_s2 (fun v => .if_icmp .ne v) rfl e1 e2).trans (by rw [sg16 hv]; rfl))
      · cases hb
    | lt =>
      have hb : (if -32768 ≤ v ∧ v < 32768 then some [161, uns16 v / 256, uns16 v % 256] else none) = some bs := h
      split at hb
      · rename_i hv
        cases hb
        obtain ⟨e0, hp⟩ := pre_u hp
        obtain ⟨e1, hp⟩ := pre_u hp
        obtain ⟨e2, hp⟩ := pre_u hp
        exact dec_of _ rfl e0 ((o_s2 (fun v => .if_icmp .lt v) rfl e1 e2).trans (by rw [sg16 hv]; rfl))
      · cases hb
    | ge =>
      have hb : (if -32768 ≤ v ∧ v < 32768 then some [162, uns16 v / 256, uns16 v % 256] else none) = some bs := h
      split at hb
      · rename_i hv
        cases hb
        obtain ⟨e0, hp⟩ := pre_u hp
        obtain ⟨e1, hp⟩ := pre_u hp
        obtain ⟨e2, hp⟩ := pre_u hp
        exact dec_of _ rfl e0 ((o_s2 (fun v => .if_icmp .ge v) rfl e1 e2).trans (by rw [sg16 hv]; rfl))
      · cases hb
    | gt =>
      have hb : (if -32768 ≤ v ∧ v < 32768 then some [163, uns16 v / 256, uns16 v % 256] else none) = some bs := h
      split at hb
      · rename_i hv
        cases hb
        obtain ⟨e0, hp⟩ := pre_u hp
        obtain ⟨e1, hp⟩ := pre_u hp
        obtain ⟨e2, hp⟩ := pre_u hp
        exact dec_of _ rfl e0 ((o_s2 (fun v => .if_icmp .gt v) rfl e1 e2).trans (by rw [sg16 hv]; rfl))
      · cases hb
    | le =>
      have hb : (if -32768 ≤ v ∧ v < 32768 then some [164, uns16 v / 256, uns16 v % 256] else none) = some bs := h
      split at hb
      · rename_i hv
        cases hb
        obtain ⟨e0, hp⟩ := pre_u hp
        obtain ⟨e1, hp⟩ := pre_u hp
        obtain ⟨e2, hp⟩ := pre_u hp
        exact dec_of _ rfl e0 ((o_s2 (fun v => .if_icmp .le v) rfl e1 e2).trans (by rw [sg16 hv]; rfl))
      · cases hb
  | iinc x v =>
    have hb : (if -128 ≤ v ∧ v < 128 then some [132, x, uns8 v] else none) = some bs := h
    split at hb
    · rename_i hv
      cases hb
      obtain ⟨e0, hp⟩ := pre_u hp
      obtain ⟨e1, hp⟩ := pre_u hp
      obtain ⟨e2, hp⟩ := pre_u hp
      exact dec_of _ rfl e0 ((o_us (fun x v => .iinc x v) rfl e1 e2).trans (by rw [sg8 hv]; rfl))
    · cases hb
  | newarray a =>
    cases a with
    | boolean =>
      have hb : some [188, 4] = some bs := h
      cases hb
      obtain ⟨e0, hp⟩ := pre_u hp
      obtain ⟨e1, hp⟩ := pre_u hp
      exact dec_of _ rfl e0 (o_b _ rfl e1 rfl)
    | int =>
      have hb : some [188, 10] = some bs := h
      cases hb
      obtain ⟨e0, hp⟩ := pre_u hp
      obtain ⟨e1, hp⟩ := pre_u hp
      exact dec_of _ rfl e0 (o_b _ rfl e1 rfl)
    | _ => exact absurd h (by simp [enc])
  | _ => exact absurd h (by simp [enc])
def fgo (cc : ByteArray) : List (Nat × Instr × Nat) → List UInt8 → Nat → Bool
  | [], _, _ => true
  | r :: rs, l, p => (r.1 == p) && ((match enc r.2.1 with | some bs => pre8 bs l && (bs.length == r.2.2) && (stdLen r.2.1 == r.2.2) | none => chkI cc r) && fgo cc rs (l.drop r.2.2) (p + r.2.2))
theorem fgo_ok {cc : ByteArray} : ∀ (rs : List (Nat × Instr × Nat)) (l : List UInt8) (p : Nat), l = cc.data.toList.drop p → fgo cc rs l p = true → ∀ r ∈ rs, chkI cc r = true
  | [], _, _, _, _, r, hr => absurd hr List.not_mem_nil
  | a :: rs, l, p, hl, h, r, hr => by
    unfold fgo at h
    rw [Bool.and_eq_true, Bool.and_eq_true, beq_iff_eq] at h
    obtain ⟨h1, h2, h3⟩ := h
    rcases List.mem_cons.mp hr with rfl | hr
    · cases he : enc r.2.1 with
      | none => rw [he] at h2; exact h2
      | some bs =>
        rw [he] at h2
        simp only [Bool.and_eq_true, beq_iff_eq] at h2
        obtain ⟨⟨h4, h5⟩, h6⟩ := h2
        rw [hl] at h4
        have hd := enc_ok (cc := cc) (p := p) r.2.1 bs he h4
        unfold chkI
        rw [h1, hd, h5, decide_eq_true rfl, h6, beq_self_eq_true, Bool.or_true, Bool.true_and]
    · refine fgo_ok rs _ _ ?_ h3 r hr
      rw [hl, List.drop_drop]
def fchk (q : MethodName × ByteArray × Nat × Option FieldType × Nat × List (Nat × Instr × Nat)) : Bool := fgo q.2.1 q.2.2.2.2.2 q.2.1.data.toList 0
theorem fchk_ok {q : MethodName × ByteArray × Nat × Option FieldType × Nat × List (Nat × Instr × Nat)} (h : fchk q = true) : chkM q = true := List.all_eq_true.mpr (fun r hr => fgo_ok _ _ 0 (by rw [List.drop_zero]) h r hr)
theorem fch_0 : ((mtab.drop 0).take 29).all fchk = true := by decide +kernel
theorem fch_29 : ((mtab.drop 29).take 29).all fchk = true := by decide +kernel
theorem fch_58 : ((mtab.drop 58).take 29).all fchk = true := by decide +kernel
theorem fch_87 : ((mtab.drop 87).take 29).all fchk = true := by decide +kernel
theorem fch_116 : ((mtab.drop 116).take 29).all fchk = true := by decide +kernel
theorem fch_145 : ((mtab.drop 145).take 29).all fchk = true := by decide +kernel
theorem fch_174 : ((mtab.drop 174).take 29).all fchk = true := by decide +kernel
theorem all_chunks {α : Type} (p : α → Bool) (l : List α) (n k : Nat) (hn : 0 < n) (hk : l.length ≤ n * k) (h : ∀ c, c < k → ((l.drop (n * c)).take n).all p = true) : ∀ q ∈ l, p q = true := by
  intro q hq
  obtain ⟨i, hi⟩ := List.getElem?_of_mem hq
  have hl : i < l.length := (List.getElem?_eq_some_iff.mp hi).1
  have hc : i / n < k := Nat.div_lt_of_lt_mul (Nat.lt_of_lt_of_le hl hk)
  refine List.all_eq_true.mp (h (i / n) hc) q (List.mem_of_getElem? (i := i % n) ?_)
  rw [List.getElem?_take, if_pos (Nat.mod_lt _ hn), List.getElem?_drop, Nat.div_add_mod]
  exact hi
theorem chkM_all : ∀ q ∈ mtab, chkM q = true := by
  intro q hq
  refine fchk_ok (all_chunks fchk mtab 29 7 (by decide) (by decide +kernel) (fun c hc => ?_) q hq)
  match c, hc with
  | 0, _ => exact fch_0
  | 1, _ => exact fch_29
  | 2, _ => exact fch_58
  | 3, _ => exact fch_87
  | 4, _ => exact fch_116
  | 5, _ => exact fch_145
  | 6, _ => exact fch_174
