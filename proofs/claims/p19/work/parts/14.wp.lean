/-! RULES for the memory: an instruction each -/
def isI (j pc : Nat) (i : Instr) (pc' : Nat) : Bool := decide (insAt j pc = some i) && decide (pc' = pc + stdLen i)
theorem isI_spec {j pc pc' : Nat} {i : Instr} (h : isI j pc i pc' = true) : insAt j pc = some i ∧ pc' = pc + stdLen i := by
  simp only [isI, Bool.and_eq_true, decide_eq_true_eq] at h
  exact h
section Wp
variable {d j pc pc' : Nat} {ls st : List Value} {M : Mt} {L : Lt} {Q : Option Value → Mt → Lt → Prop} {i : Instr}
theorem Wp.step {pc1 : Nat} {ls1 st1 : List Value} {M1 : Mt} {L1 : Lt} (h : ∀ n r, ev n d j pc1 ls1 st1 (wOf M1 L1) = some r → ev (n + 1) d j pc ls st (wOf M L) = some r) (k : Wp d j pc1 ls1 st1 M1 L1 Q) : Wp d j pc ls st M L Q := by
  obtain ⟨n, rv, M', L', h1, h2⟩ := k
  exact ⟨n + 1, rv, M', L', h n _ h1, h2⟩
theorem Wp.mono {Q' : Option Value → Mt → Lt → Prop} (k : Wp d j pc ls st M L Q) (h : ∀ rv M' L', Q rv M' L' → Q' rv M' L') : Wp d j pc ls st M L Q' := by
  obtain ⟨n, rv, M', L', h1, h2⟩ := k
  exact ⟨n, rv, M', L', h1, h _ _ _ h2⟩
theorem w_pure {st' : List Value} (i : Instr) (pc' : Nat) (h : isI j pc i pc' = true) (hk : kdI i = 0) (hp : pureOp (owc j) i st = some st') (k : Wp d j pc' ls st' M L Q) : Wp d j pc ls st M L Q := by
  obtain ⟨h1, rfl⟩ := isI_spec h
  refine Wp.step (fun n r hr => ?_) k
  unfold ev
  simp only [h1, hk, hp, Option.bind_some]
  exact hr
theorem w_div {x y : Int32} (pc' : Nat) (h : isI j pc .idiv pc' = true) (hy : ¬ y = 0) (k : Wp d j pc' ls (.int (x / y) :: st) M L Q) : Wp d j pc ls (.int y :: .int x :: st) M L Q := w_pure .idiv pc' h rfl (by simp [pureOp, hy]) k
theorem w_rem {x y : Int32} (pc' : Nat) (h : isI j pc .irem pc' = true) (hy : ¬ y = 0) (k : Wp d j pc' ls (.int (x - x / y * y) :: st) M L Q) : Wp d j pc ls (.int y :: .int x :: st) M L Q := w_pure .irem pc' h rfl (by simp [pureOp, hy]) k
theorem w_lrem {x y : Int64} (pc' : Nat) (h : isI j pc .lrem pc' = true) (hy : ¬ y = 0) (k : Wp d j pc' ls (.long (x - x / y * y) :: st) M L Q) : Wp d j pc ls (.long y :: .long x :: st) M L Q := w_pure .lrem pc' h rfl (by simp [pureOp, hy]) k
def kB (j pc : Nat) (v : Int32) (pc' : Nat) : Bool := match insAt j pc with
  | some (.iconst n) => decide (Int32.ofInt n = v) && decide (pc' = pc + 1)
  | some (.bipush n) => decide ((Int8.ofInt n).toInt32 = v) && decide (pc' = pc + 2)
  | some (.sipush n) => decide ((Int16.ofInt n).toInt32 = v) && decide (pc' = pc + 3)
  | some (.ldc_w n) => decide (ktab.lookup (owc j, n) = some v) && decide (pc' = pc + 3)
  | _ => false
theorem w_push (v : Int32) (pc' : Nat) (h : kB j pc v pc' = true) (k : Wp d j pc' ls (.int v :: st) M L Q) : Wp d j pc ls st M L Q := by
  unfold kB at h
  split at h <;> (try cases h; done)
  all_goals
    rename_i n hi
    simp only [Bool.and_eq_true, decide_eq_true_eq] at h
    obtain ⟨h1, rfl⟩ := h
    refine Wp.step (fun n r hr => ?_) k
    unfold ev
    simp only [hi, kdI, pureOp, h1, Option.map_some, Option.bind_some, stdLen]
    exact hr
def lB (j pc : Nat) (v : Int64) (pc' : Nat) : Bool := match insAt j pc with
  | some (.lconst n) => decide (Int64.ofNat n.val = v) && decide (pc' = pc + 1)
  | some (.ldc2_w n) => decide (ltab.lookup (owc j, n) = some v) && decide (pc' = pc + 3)
  | _ => false
theorem w_pushL (v : Int64) (pc' : Nat) (h : lB j pc v pc' = true) (k : Wp d j pc' ls (.long v :: st) M L Q) : Wp d j pc ls st M L Q := by
  unfold lB at h
  split at h <;> (try cases h; done)
  all_goals
    rename_i n hi
    simp only [Bool.and_eq_true, decide_eq_true_eq] at h
    obtain ⟨h1, rfl⟩ := h
    refine Wp.step (fun n r hr => ?_) k
    unfold ev
    simp only [hi, kdI, pureOp, h1, Option.map_some, Option.bind_some, stdLen]
    exact hr
theorem w_load {v : Value} (i : Instr) (pc' : Nat) (h : isI j pc i pc' = true) (hk : kdI i = 1) (hp : loadOp i ls = some v) (k : Wp d j pc' ls (v :: st) M L Q) : Wp d j pc ls st M L Q := by
  obtain ⟨h1, rfl⟩ := isI_spec h
  refine Wp.step (fun n r hr => ?_) k
  unfold ev
  simp only [h1, hk, hp, Option.bind_some]
  exact hr
theorem w_store {ls' st' : List Value} (i : Instr) (pc' : Nat) (h : isI j pc i pc' = true) (hk : kdI i = 2) (hp : storeOp i ls st = some (ls', st')) (k : Wp d j pc' ls' st' M L Q) : Wp d j pc ls st M L Q := by
  obtain ⟨h1, rfl⟩ := isI_spec h
  refine Wp.step (fun n r hr => ?_) k
  unfold ev
  simp only [h1, hk, hp, Option.bind_some]
  exact hr
def goB (j pc t : Nat) : Bool := match insAt j pc with
  | some (.goto off) => decide (tgt pc off = some t)
  | _ => false
theorem w_goto (t : Nat) (h : goB j pc t = true) (k : Wp d j t ls st M L Q) : Wp d j pc ls st M L Q := by
  unfold goB at h
  split at h
  · rename_i off hi
    have h1 := of_decide_eq_true h
    refine Wp.step (fun n r hr => ?_) k
    unfold ev
    simp only [hi, kdI, brOp, h1, Option.map_some, Option.bind_some]
    exact hr
  · cases h
def ifB (j pc : Nat) (c : ClassFile.Cond) (t f : Nat) : Bool := match insAt j pc with
  | some (.ifCond c' off) => decide (c' = c) && decide (tgt pc off = some t) && decide (f = pc + 3)
  | _ => false
theorem w_if {c : ClassFile.Cond} {x : Int32} {t f : Nat} (h : ifB j pc c t f = true) (kt : cnd c x 0 = true → Wp d j t ls st M L Q) (kf : cnd c x 0 = false → Wp d j f ls st M L Q) : Wp d j pc ls (.int x :: st) M L Q := by
  unfold ifB at h
  split at h
  · rename_i c' off hi
    simp only [Bool.and_eq_true, decide_eq_true_eq] at h
    obtain ⟨⟨rfl, h1⟩, rfl⟩ := h
    cases hc : cnd c' x 0 with
    | true =>
      refine Wp.step (fun n r hr => ?_) (kt hc)
      unfold ev
      simp only [hi, kdI, brOp, h1, hc, Option.map_some, Option.bind_some, if_true]
      exact hr
    | false =>
      refine Wp.step (fun n r hr => ?_) (kf hc)
      unfold ev
      simp only [hi, kdI, brOp, h1, hc, Option.map_some, Option.bind_some, Bool.false_eq_true, if_false]
      exact hr
  · cases h
def icB (j pc : Nat) (c : ClassFile.Cond) (t f : Nat) : Bool := match insAt j pc with
  | some (.if_icmp c' off) => decide (c' = c) && decide (tgt pc off = some t) && decide (f = pc + 3)
  | _ => false
theorem w_ic {c : ClassFile.Cond} {x y : Int32} {t f : Nat} (h : icB j pc c t f = true) (kt : cnd c x y = true → Wp d j t ls st M L Q) (kf : cnd c x y = false → Wp d j f ls st M L Q) : Wp d j pc ls (.int y :: .int x :: st) M L Q := by
  unfold icB at h
  split at h
  · rename_i c' off hi
    simp only [Bool.and_eq_true, decide_eq_true_eq] at h
    obtain ⟨⟨rfl, h1⟩, rfl⟩ := h
    cases hc : cnd c' x y with
    | true =>
      refine Wp.step (fun n r hr => ?_) (kt hc)
      unfold ev
      simp only [hi, kdI, brOp, h1, hc, Option.map_some, Option.bind_some, if_true]
      exact hr
    | false =>
      refine Wp.step (fun n r hr => ?_) (kf hc)
      unfold ev
      simp only [hi, kdI, brOp, h1, hc, Option.map_some, Option.bind_some, Bool.false_eq_true, if_false]
      exact hr
  · cases h
theorem w_ieq {x : Int32} (t f : Nat) (h : ifB j pc .eq t f = true) (kt : x = 0 → Wp d j t ls st M L Q) (kf : ¬ x = 0 → Wp d j f ls st M L Q) : Wp d j pc ls (.int x :: st) M L Q := w_if h (fun h => kt (by simpa [cnd] using h)) (fun h => kf (by simpa [cnd] using h))
theorem w_ceq {x y : Int32} (t f : Nat) (h : icB j pc .eq t f = true) (kt : x = y → Wp d j t ls st M L Q) (kf : ¬ x = y → Wp d j f ls st M L Q) : Wp d j pc ls (.int y :: .int x :: st) M L Q := w_ic h (fun h => kt (by simpa [cnd] using h)) (fun h => kf (by simpa [cnd] using h))
theorem w_ine {x : Int32} (t f : Nat) (h : ifB j pc .ne t f = true) (kt : ¬ x = 0 → Wp d j t ls st M L Q) (kf : x = 0 → Wp d j f ls st M L Q) : Wp d j pc ls (.int x :: st) M L Q := w_if h (fun h => kt (by simpa [cnd] using h)) (fun h => kf (by simpa [cnd] using h))
theorem w_cne {x y : Int32} (t f : Nat) (h : icB j pc .ne t f = true) (kt : ¬ x = y → Wp d j t ls st M L Q) (kf : x = y → Wp d j f ls st M L Q) : Wp d j pc ls (.int y :: .int x :: st) M L Q := w_ic h (fun h => kt (by simpa [cnd] using h)) (fun h => kf (by simpa [cnd] using h))
theorem w_ilt {x : Int32} (t f : Nat) (h : ifB j pc .lt t f = true) (kt : x < 0 → Wp d j t ls st M L Q) (kf : ¬ x < 0 → Wp d j f ls st M L Q) : Wp d j pc ls (.int x :: st) M L Q := w_if h (fun h => kt (by simpa [cnd] using h)) (fun h => kf (by simpa [cnd] using h))
theorem w_clt {x y : Int32} (t f : Nat) (h : icB j pc .lt t f = true) (kt : x < y → Wp d j t ls st M L Q) (kf : ¬ x < y → Wp d j f ls st M L Q) : Wp d j pc ls (.int y :: .int x :: st) M L Q := w_ic h (fun h => kt (by simpa [cnd] using h)) (fun h => kf (by simpa [cnd] using h))
theorem w_ige {x : Int32} (t f : Nat) (h : ifB j pc .ge t f = true) (kt : 0 ≤ x → Wp d j t ls st M L Q) (kf : ¬ 0 ≤ x → Wp d j f ls st M L Q) : Wp d j pc ls (.int x :: st) M L Q := w_if h (fun h => kt (by simpa [cnd] using h)) (fun h => kf (by simpa [cnd] using h))
theorem w_cge {x y : Int32} (t f : Nat) (h : icB j pc .ge t f = true) (kt : y ≤ x → Wp d j t ls st M L Q) (kf : ¬ y ≤ x → Wp d j f ls st M L Q) : Wp d j pc ls (.int y :: .int x :: st) M L Q := w_ic h (fun h => kt (by simpa [cnd] using h)) (fun h => kf (by simpa [cnd] using h))
theorem w_igt {x : Int32} (t f : Nat) (h : ifB j pc .gt t f = true) (kt : 0 < x → Wp d j t ls st M L Q) (kf : ¬ 0 < x → Wp d j f ls st M L Q) : Wp d j pc ls (.int x :: st) M L Q := w_if h (fun h => kt (by simpa [cnd] using h)) (fun h => kf (by simpa [cnd] using h))
theorem w_cgt {x y : Int32} (t f : Nat) (h : icB j pc .gt t f = true) (kt : y < x → Wp d j t ls st M L Q) (kf : ¬ y < x → Wp d j f ls st M L Q) : Wp d j pc ls (.int y :: .int x :: st) M L Q := w_ic h (fun h => kt (by simpa [cnd] using h)) (fun h => kf (by simpa [cnd] using h))
theorem w_ile {x : Int32} (t f : Nat) (h : ifB j pc .le t f = true) (kt : x ≤ 0 → Wp d j t ls st M L Q) (kf : ¬ x ≤ 0 → Wp d j f ls st M L Q) : Wp d j pc ls (.int x :: st) M L Q := w_if h (fun h => kt (by simpa [cnd] using h)) (fun h => kf (by simpa [cnd] using h))
theorem w_cle {x y : Int32} (t f : Nat) (h : icB j pc .le t f = true) (kt : x ≤ y → Wp d j t ls st M L Q) (kf : ¬ x ≤ y → Wp d j f ls st M L Q) : Wp d j pc ls (.int y :: .int x :: st) M L Q := w_ic h (fun h => kt (by simpa [cnd] using h)) (fun h => kf (by simpa [cnd] using h))

theorem w_tab {dd lo hi : Int} {offs : Array Int} {x : Int32} (h : insAt j pc = some (.tableswitch dd lo hi offs)) (hout : (x.toInt < lo ∨ hi < x.toInt) → ∃ t, tgt pc dd = some t ∧ Wp d j t ls st M L Q) (hin : ∀ n : Nat, x.toInt = lo + n → lo + n ≤ hi → ∃ off t, offs[n]? = some off ∧ tgt pc off = some t ∧ Wp d j t ls st M L Q) : Wp d j pc ls (.int x :: st) M L Q := by
  by_cases hc : x.toInt < lo ∨ hi < x.toInt
  · obtain ⟨t, h1, k⟩ := hout hc
    refine Wp.step (fun n r hr => ?_) k
    unfold ev
    simp only [h, kdI, brOp, if_pos hc, h1, Option.map_some, Option.bind_some]
    exact hr
  · obtain ⟨off, t, h0, h1, k⟩ := hin (x.toInt - lo).toNat (by omega) (by omega)
    refine Wp.step (fun n r hr => ?_) k
    unfold ev
    simp only [h, kdI, brOp, if_neg hc, h0, h1, Option.map_some, Option.bind_some]
    exact hr
theorem w_look {dd : Int} {ps : Array (Int × Int)} {x : Int32} (h : insAt j pc = some (.lookupswitch dd ps)) (hs : (ps.toList.zip (ps.toList.drop 1)).all (fun (a, next) => a.1 < next.1) = true) (hk : ∃ t, tgt pc (Op.lookupswitch.offset ps.toList dd x.toInt) = some t ∧ Wp d j t ls st M L Q) : Wp d j pc ls (.int x :: st) M L Q := by
  obtain ⟨t, h1, k⟩ := hk
  refine Wp.step (fun n r hr => ?_) k
  unfold ev
  simp only [h, kdI, brOp, if_pos hs, h1, Option.map_some, Option.bind_some]
  exact hr
def gB (j pc ci k pc' : Nat) : Bool := match insAt j pc with
  | some (.getfield idx) => decide (fldT (owc j) idx = some (ci, k)) && decide (k < nfC ci) && decide (pc' = pc + 3)
  | _ => false
theorem w_get {ci k a f : Nat} {dl : List Nat} (pc' : Nat) (h : gB j pc ci k pc' = true) (hs : shp[a]? = some (ci, dl)) (hd : dl[k]? = some f) (kk : Wp d j pc' ls (fv M L a k f :: st) M L Q) : Wp d j pc ls (.ref a :: st) M L Q := by
  unfold gB at h
  split at h
  · rename_i idx hi
    simp only [Bool.and_eq_true, decide_eq_true_eq] at h
    obtain ⟨⟨h1, h2⟩, rfl⟩ := h
    refine Wp.step (fun n r hr => ?_) kk
    unfold ev
    simp only [hi, kdI, heapR, h1, Option.bind_some, gfR, wOf_get hs, h2, and_self, if_true, cellV_get hd, Option.map_some, stdLen]
    exact hr
  · cases h
theorem w_getI {ci k a : Nat} {dl : List Nat} (pc' : Nat) (h : gB j pc ci k pc' = true) (hs : shp[a]? = some (ci, dl)) (hd : dl[k]? = some 0) (kk : Wp d j pc' ls (.int (M a k) :: st) M L Q) : Wp d j pc ls (.ref a :: st) M L Q := w_get pc' h hs hd kk
theorem w_getR {ci k a r : Nat} {dl : List Nat} (pc' : Nat) (h : gB j pc ci k pc' = true) (hs : shp[a]? = some (ci, dl)) (hd : dl[k]? = some (r + 2)) (kk : Wp d j pc' ls (.ref r :: st) M L Q) : Wp d j pc ls (.ref a :: st) M L Q := w_get pc' h hs hd kk
theorem w_getL {ci k a : Nat} {dl : List Nat} (pc' : Nat) (h : gB j pc ci k pc' = true) (hs : shp[a]? = some (ci, dl)) (hd : dl[k]? = some 1) (kk : Wp d j pc' ls (.long (L a) :: st) M L Q) : Wp d j pc ls (.ref a :: st) M L Q := w_get pc' h hs hd kk
def pB (j pc ci k : Nat) (ty : FieldType) (pc' : Nat) : Bool := match insAt j pc with
  | some (.putfield idx) => decide (ftab.lookup (owc j, idx) = some (ci, k)) && decide (k < nfC ci) && decide (tyC ci k = ty) && !(finC ci k) && decide (pc' = pc + 3)
  | _ => false
theorem w_put {ci k a f : Nat} {dl : List Nat} {ty : FieldType} {v : Value} {M1 : Mt} {L1 : Lt} (pc' : Nat) (h : pB j pc ci k ty pc' = true) (hs : shp[a]? = some (ci, dl)) (hd : dl[k]? = some f) (ho : okT ty v = true) (hw : (wOf M L).set a (ci, (cellV M L a dl).set k v) = wOf M1 L1) (kk : Wp d j pc' ls st M1 L1 Q) : Wp d j pc ls (v :: .ref a :: st) M L Q := by
  unfold pB at h
  split at h
  · rename_i idx hi
    simp only [Bool.and_eq_true, decide_eq_true_eq, Bool.not_eq_true'] at h
    obtain ⟨⟨⟨⟨h1, h2⟩, rfl⟩, h3⟩, rfl⟩ := h
    have hl : k < (cellV M L a dl).length := by rw [cellV_len]; exact (List.getElem?_eq_some_iff.mp hd).1
    refine Wp.step (fun n r hr => ?_) kk
    unfold ev
    simp only [hi, kdI, heapW, h1, Option.bind_some, pfW, wOf_get hs, h2, h3, hl, ho, true_and, Bool.false_eq_true, false_implies, and_self, if_true, hw, Option.map_some, stdLen]
    exact hr
  · cases h
theorem set_I {k a t : Nat} {dl : List Nat} {v : Int32} (hs : shp[a]? = some (t, dl)) (hd : dl[k]? = some 0) : (wOf M L).set a (t, (cellV M L a dl).set k (.int v)) = wOf (up2 M a k v) L := wOf_set hs (cellV_setI hd) (fun _ h _ => up2_ne (fun z => h z.1)) (fun _ _ => rfl)
theorem w_putI {ci k a : Nat} {dl : List Nat} {v : Int32} (pc' : Nat) (h : pB j pc ci k .int pc' = true) (hs : shp[a]? = some (ci, dl)) (hd : dl[k]? = some 0) (kk : Wp d j pc' ls st (up2 M a k v) L Q) : Wp d j pc ls (.int v :: .ref a :: st) M L Q := w_put pc' h hs hd rfl (set_I hs hd) kk
theorem w_putZ {ci k a : Nat} {dl : List Nat} {v : Int32} (pc' : Nat) (h : pB j pc ci k .boolean pc' = true) (hs : shp[a]? = some (ci, dl)) (hd : dl[k]? = some 0) (hv : v = 0 ∨ v = 1) (kk : Wp d j pc' ls st (up2 M a k v) L Q) : Wp d j pc ls (.int v :: .ref a :: st) M L Q := w_put pc' h hs hd (by rcases hv with rfl | rfl <;> rfl) (set_I hs hd) kk
theorem w_putL {ci k a : Nat} {dl : List Nat} {v : Int64} (pc' : Nat) (h : pB j pc ci k .long pc' = true) (hs : shp[a]? = some (ci, dl)) (hd : dl[k]? = some 1) (ho : ∀ z, dl[z]? = some 1 → z = k) (kk : Wp d j pc' ls st M (upL L a v) Q) : Wp d j pc ls (.long v :: .ref a :: st) M L Q := w_put pc' h hs hd rfl (wOf_set hs (cellV_setL hd ho) (fun _ _ _ => rfl) (fun _ h => if_neg h)) kk
/-- an index of an array of n places -/
def InB (x : Int32) (n : Nat) : Prop := ¬ x < 0 ∧ x.toNatClampNeg < n
theorem rep_get {n k : Nat} (h : k < n) : (List.replicate n (0 : Nat))[k]? = some 0 := by simp [List.getElem?_replicate, h]
theorem w_iald {x : Int32} {a n : Nat} (pc' : Nat) (h : isI j pc .iaload pc' = true) (hs : shp[a]? = some (100, List.replicate n 0)) (hb : InB x n) (kk : Wp d j pc' ls (.int (M a x.toNatClampNeg) :: st) M L Q) : Wp d j pc ls (.int x :: .ref a :: st) M L Q := by
  obtain ⟨h1, rfl⟩ := isI_spec h
  refine Wp.step (fun n r hr => ?_) kk
  unfold ev
  simp only [h1, kdI, heapR, elA, wOf_get hs, hb.1, not_false_eq_true, and_self, if_true, cellV_get (rep_get hb.2), fv, wI, Option.map_some, Option.bind_some]
  exact hr
theorem w_bald {x : Int32} {a n : Nat} (pc' : Nat) (h : isI j pc .baload pc' = true) (hs : shp[a]? = some (101, List.replicate n 0)) (hb : InB x n) (kk : Wp d j pc' ls (.int (M a x.toNatClampNeg) :: st) M L Q) : Wp d j pc ls (.int x :: .ref a :: st) M L Q := by
  obtain ⟨h1, rfl⟩ := isI_spec h
  refine Wp.step (fun n r hr => ?_) kk
  unfold ev
  simp only [h1, kdI, heapR, elA, wOf_get hs, hb.1, not_false_eq_true, and_self, if_true, cellV_get (rep_get hb.2), fv, wI, Option.map_some, Option.bind_some]
  exact hr
theorem w_aald {x : Int32} {a t r : Nat} {dl : List Nat} (pc' : Nat) (h : isI j pc .aaload pc' = true) (hs : shp[a]? = some (t, dl)) (ht : t = 102 ∨ t = 103) (hx : ¬ x < 0) (hd : dl[x.toNatClampNeg]? = some (r + 2)) (kk : Wp d j pc' ls (.ref r :: st) M L Q) : Wp d j pc ls (.int x :: .ref a :: st) M L Q := by
  obtain ⟨h1, rfl⟩ := isI_spec h
  refine Wp.step (fun n r hr => ?_) kk
  unfold ev
  simp only [h1, kdI, heapR, aaR, wOf_get hs, hx, ht, not_false_eq_true, and_self, if_true, cellV_get hd, fv, wR, Option.map_some, Option.bind_some]
  exact hr
theorem w_alen {a t : Nat} {dl : List Nat} (v : Int32) (pc' : Nat) (h : isI j pc .arraylength pc' = true) (hs : shp[a]? = some (t, dl)) (ht : 100 ≤ t ∧ t ≤ 103) (hv : Int32.ofNat dl.length = v) (kk : Wp d j pc' ls (.int v :: st) M L Q) : Wp d j pc ls (.ref a :: st) M L Q := by
  obtain ⟨h1, rfl⟩ := isI_spec h
  subst hv
  refine Wp.step (fun n r hr => ?_) kk
  unfold ev
  simp only [h1, kdI, heapR, alR, wOf_get hs, ht, and_self, if_true, cellV_len, Option.map_some, Option.bind_some]
  exact hr
theorem w_iast {x v : Int32} {a n : Nat} (pc' : Nat) (h : isI j pc .iastore pc' = true) (hs : shp[a]? = some (100, List.replicate n 0)) (hb : InB x n) (kk : Wp d j pc' ls st (up2 M a x.toNatClampNeg v) L Q) : Wp d j pc ls (.int v :: .int x :: .ref a :: st) M L Q := by
  obtain ⟨h1, rfl⟩ := isI_spec h
  refine Wp.step (fun n r hr => ?_) kk
  unfold ev
  simp only [h1, kdI, heapW, asW, wOf_get hs, hb.1, cellV_len, List.length_replicate, hb.2, not_false_eq_true, and_self, if_true, set_I hs (rep_get hb.2), Option.map_some, Option.bind_some]
  exact hr
theorem w_bast {x v : Int32} {a n : Nat} (pc' : Nat) (h : isI j pc .bastore pc' = true) (hs : shp[a]? = some (101, List.replicate n 0)) (hb : InB x n) (hv : v = 0 ∨ v = 1) (kk : Wp d j pc' ls st (up2 M a x.toNatClampNeg v) L Q) : Wp d j pc ls (.int v :: .int x :: .ref a :: st) M L Q := by
  obtain ⟨h1, rfl⟩ := isI_spec h
  refine Wp.step (fun n r hr => ?_) kk
  unfold ev
  simp only [h1, kdI, heapW, asW, wOf_get hs, hb.1, cellV_len, List.length_replicate, hb.2, hv, not_false_eq_true, and_self, if_true, set_I hs (rep_get hb.2), Option.map_some, Option.bind_some]
  exact hr
def nB (j pc k pc' : Nat) : Bool := match insAt j pc with
  | some (.invokestatic idx) => decide ((calT (owc j) idx).map (fun q => q.2) = some k) && decide (pc' = pc + 3)
  | _ => false
theorem cpM_w {a0 a n0 n1 sp dp n : Nat} (hs0 : shp[a0]? = some (100, List.replicate n0 0)) (hs1 : shp[a]? = some (100, List.replicate n1 0)) (h4 : sp + n ≤ n0) : (wOf M L).set a (100, cpV (cellV M L a0 (List.replicate n0 0)) (cellV M L a (List.replicate n1 0)) sp dp n) = wOf (cpM M a0 sp a dp n) L := by
  refine wOf_set hs1 ?_ (fun a' h k => if_neg (fun z => h z.1)) (fun _ _ => rfl)
  apply List.ext_getElem?
  intro k
  simp only [cpV, List.getElem?_mapIdx]
  by_cases hk : k < n1
  · rw [cellV_get (rep_get hk), cellV_get (rep_get hk)]
    simp only [Option.map_some, fv, cpM, true_and]
    by_cases hc : dp ≤ k ∧ k < dp + n
    · rw [if_pos hc, if_pos hc, List.getD_eq_getElem?_getD, cellV_get (rep_get (by omega))]
      rfl
    · rw [if_neg hc, if_neg hc]
  · rw [List.getElem?_eq_none (by rw [cellV_len, List.length_replicate]; omega), List.getElem?_eq_none (by rw [cellV_len, List.length_replicate]; omega)]
    rfl
theorem callOp_nat {j : Nat} {idx k : Nat} {st : List Value} {w : Wd} (h : (calT (owc j) idx).map (fun q => q.2) = some k) (hk : 5 ≤ k) : callOp j (.invokestatic idx) st w = none := by
  obtain ⟨⟨a, b⟩, h1, h2⟩ := Option.map_eq_some_iff.mp h
  dsimp only at h2
  subst h2
  simp only [callOp, h1]
  rw [if_neg]
  omega
theorem w_acpy {sp dp n : Int32} {a0 a n0 n1 : Nat} (pc' : Nat) (h : nB j pc 6 pc' = true) (hs0 : shp[a0]? = some (100, List.replicate n0 0)) (hs1 : shp[a]? = some (100, List.replicate n1 0)) (h1 : ¬ sp < 0) (h2 : ¬ dp < 0) (h3 : ¬ n < 0) (h4 : sp.toNatClampNeg + n.toNatClampNeg ≤ n0) (h5 : dp.toNatClampNeg + n.toNatClampNeg ≤ n1) (hc : catS st ≤ 8) (kk : Wp d j pc' ls st (cpM M a0 sp.toNatClampNeg a dp.toNatClampNeg n.toNatClampNeg) L Q) : Wp d j pc ls (.int n :: .int dp :: .ref a :: .int sp :: .ref a0 :: st) M L Q := by
  unfold nB at h
  split at h
  · rename_i idx hi
    simp only [Bool.and_eq_true, decide_eq_true_eq] at h
    obtain ⟨g1, rfl⟩ := h
    refine Wp.step (fun z r hr => ?_) kk
    unfold ev
    simp only [hi, kdI, callOp_nat g1 (by decide), natOp, g1, hc, and_self, if_true, acW, wOf_get hs0, wOf_get hs1, h1, h2, h3, cellV_len, List.length_replicate, h4, h5, not_false_eq_true, cpM_w hs0 hs1 h4, Option.map_some, Option.bind_some]
    exact hr
  · cases h
theorem ev_nat {n : Nat} {w w1 : Wd} {st' : List Value} {r : Wd × Option Value} (hi : insAt j pc = some i) (hk : kdI i = 6) (hc : callOp j i st w = none) (hn : natOp j i st w = some (st', w1)) (e : ev n d j (pc + 3) ls st' w1 = some r) : ev (n + 1) d j pc ls st w = some r := by
  unfold ev
  simp only [hi, hk, hc, hn, Option.bind_some]
  exact e
theorem min_nat {idx : Nat} {x y : Int32} {st : List Value} {w : Wd} (g1 : (calT (owc j) idx).map (fun q => q.2) = some 8) (hc : catS st ≤ 8) (hs : st.length ≤ 2) : natOp j (.invokestatic idx) (.int y :: .int x :: st) w = some (.int (if y < x then y else x) :: st, w) := by
  match st, hs with
  | [], _ => simp only [natOp, g1, hc, if_true]
  | [a], _ => cases a <;> simp only [natOp, g1, hc, if_true]
  | [a, b], _ => cases a <;> cases b <;> simp only [natOp, g1, hc, if_true]
theorem w_min {x y : Int32} (pc' : Nat) (h : nB j pc 8 pc' = true) (hc : catS st ≤ 8) (hs : st.length ≤ 2) (kk : Wp d j pc' ls (.int (if y < x then y else x) :: st) M L Q) : Wp d j pc ls (.int y :: .int x :: st) M L Q := by
  unfold nB at h
  split at h
  · rename_i idx hi
    simp only [Bool.and_eq_true, decide_eq_true_eq] at h
    obtain ⟨g1, rfl⟩ := h
    exact Wp.step (fun z r hr => ev_nat hi rfl (callOp_nat g1 (by decide)) (min_nat g1 hc hs) hr) kk
  · cases h
/-- calls -/
def cvB (j pc j' n t mx pc' : Nat) : Bool := match insAt j pc with
  | some (.invokevirtual idx) => decide (calT (owc j) idx = some (j', 0)) && decide (narg j' = n) && decide (owc j' = t) && decide (mxj j' = mx) && decide (pc' = pc + 3)
  | _ => false
theorem ev_call {n : Nat} {w w1 : Wd} {rv1 : Option Value} {r : Wd × Option Value} {j' : Nat} {As rest : List Value} (hi : insAt j pc = some i) (hk : kdI i = 6) (hc : callOp j i st w = some (j', As, rest)) (hla : (layA As).length ≤ mxj j') (hd : 0 < d) (e1 : ev n (d - 1) j' 0 (entL j' As) [] w = some (w1, rv1)) (e2 : ev n d j (pc + 3) ls (rv1.toList ++ rest) w1 = some r) : ev (n + 1) d j pc ls st w = some r := by
  cases d with
  | zero => exact absurd hd (Nat.lt_irrefl 0)
  | succ d' =>
    rw [Nat.add_sub_cancel] at e1
    unfold ev
    simp only [hi, hk, hc, if_pos hla, e1, Option.bind_some]
    exact e2
theorem dropA {As rest : List Value} {x : Value} : (As.reverse ++ x :: rest).drop (As.length + 1) = rest := by
  rw [show As.length + 1 = (As.reverse ++ [x]).length by simp, show As.reverse ++ x :: rest = (As.reverse ++ [x]) ++ rest by simp, List.drop_left]
theorem takeA {As rest : List Value} {x : Value} : ((As.reverse ++ x :: rest).take (As.length + 1)).reverse = x :: As := by
  rw [show As.length + 1 = (As.reverse ++ [x]).length by simp, show As.reverse ++ x :: rest = (As.reverse ++ [x]) ++ rest by simp, List.take_left]
  simp
theorem dropS {As rest : List Value} : (As.reverse ++ rest).drop As.length = rest := by
  rw [show As.length = As.reverse.length by simp, List.drop_left]
theorem takeS {As rest : List Value} : ((As.reverse ++ rest).take As.length).reverse = As := by
  rw [show As.length = As.reverse.length by simp, List.take_left]
  simp
theorem w_call {i : Instr} {j' : Nat} {As rest ls' : List Value} (hi : insAt j pc = some i) (hk : kdI i = 6) (hc : callOp j i st (wOf M L) = some (j', As, rest)) (hent : entL j' As = ls') (hla : (layA As).length ≤ mxj j') (hd : 0 < d) (k : Wp (d - 1) j' 0 ls' [] M L (fun rv M' L' => Wp d j (pc + 3) ls (rv.toList ++ rest) M' L' Q)) : Wp d j pc ls st M L Q := by
  obtain ⟨n1, rv1, M1, L1, h1, k2⟩ := k
  obtain ⟨n2, rv, M', L', h2, hQ⟩ := k2
  subst hent
  have e1 := ev_up h1 n2
  have e2 := ev_up h2 n1
  rw [Nat.add_comm n2 n1] at e2
  clear h1 h2
  refine ⟨n1 + n2 + 1, rv, M', L', ?_, hQ⟩
  exact ev_call hi hk hc hla hd e1 e2
theorem w_callV {r : Nat} {dl : List Nat} {ls' : List Value} (j' : Nat) (As rest : List Value) (t mx pc' : Nat) (h : cvB j pc j' As.length t mx pc' = true) (hst : st = As.reverse ++ .ref r :: rest) (hs : shp[r]? = some (t, dl)) (hcat : catS rest ≤ 8) (hent : layA (.ref r :: As) ++ List.replicate (mx - (layA (.ref r :: As)).length) .null = ls') (hla : (layA (.ref r :: As)).length ≤ mx) (hd : 0 < d) (k : Wp (d - 1) j' 0 ls' [] M L (fun rv M' L' => Wp d j pc' ls (rv.toList ++ rest) M' L' Q)) : Wp d j pc ls st M L Q := by
  unfold cvB at h
  split at h
  · rename_i idx hi
    simp only [Bool.and_eq_true, decide_eq_true_eq] at h
    obtain ⟨⟨⟨⟨h1, h2⟩, rfl⟩, rfl⟩, rfl⟩ := h
    subst hst
    refine w_call hi rfl ?_ hent hla hd k
    simp only [callOp, h1]
    have e1 : (As.reverse ++ Value.ref r :: rest).getD (narg j') .null = .ref r := by rw [h2]; simp [List.getD_eq_getElem?_getD]
    have e2 : (As.reverse ++ Value.ref r :: rest).drop (narg j' + 1) = rest := by rw [h2]; exact dropA
    have e3 : ((As.reverse ++ Value.ref r :: rest).take (narg j' + 1)).reverse = .ref r :: As := by rw [h2]; exact takeA
    rw [e1, e2, e3, if_pos]
    refine ⟨?_, by rw [h2]; simp, hcat⟩
    simp [rcvOk, wOf_get hs]
  · cases h
def csB (j pc j' n mx pc' : Nat) : Bool := match insAt j pc with
  | some (.invokestatic idx) => (decide (calT (owc j) idx = some (j', 1)) || decide (calT (owc j) idx = some (j', 3))) && decide (narg j' = n) && decide (mxj j' = mx) && decide (pc' = pc + 3)
  | _ => false
theorem w_callS {ls' : List Value} (j' : Nat) (As rest : List Value) (mx pc' : Nat) (h : csB j pc j' As.length mx pc' = true) (hst : st = As.reverse ++ rest) (hcat : catS rest ≤ 8) (hent : layA As ++ List.replicate (mx - (layA As).length) .null = ls') (hla : (layA As).length ≤ mx) (hd : 0 < d) (k : Wp (d - 1) j' 0 ls' [] M L (fun rv M' L' => Wp d j pc' ls (rv.toList ++ rest) M' L' Q)) : Wp d j pc ls st M L Q := by
  unfold csB at h
  split at h
  · rename_i idx hi
    simp only [Bool.and_eq_true, Bool.or_eq_true, decide_eq_true_eq] at h
    obtain ⟨⟨⟨h1, h2⟩, rfl⟩, rfl⟩ := h
    subst hst
    refine w_call hi rfl ?_ hent hla hd k
    have e2 : (As.reverse ++ rest).drop (narg j') = rest := by rw [h2]; exact dropS
    have e3 : ((As.reverse ++ rest).take (narg j')).reverse = As := by rw [h2]; exact takeS
    rcases h1 with h1 | h1
    · simp only [callOp, h1]
      rw [e2, e3, if_pos]
      exact ⟨by simp, by rw [h2]; simp, hcat⟩
    · simp only [callOp, h1]
      rw [e2, e3, if_pos]
      exact ⟨by simp, by rw [h2]; simp, hcat⟩
  · cases h
def rB (j pc : Nat) (i : Instr) (t : Option FieldType) : Bool := decide (insAt j pc = some i) && decide (rtj j = t)
theorem Wp.ret {v : Option Value} (hi : insAt j pc = some i) (hk : kdI i = 7) (hr : retOp j i st = some v) (q : Q v M L) : Wp d j pc ls st M L Q := by
  refine ⟨1, v, M, L, ?_, q⟩
  unfold ev
  simp only [hi, hk, hr, Option.map_some]
theorem w_ret {v : Int32} (h : rB j pc .ireturn (some .int) = true) (q : Q (some (.int v)) M L) : Wp d j pc ls [.int v] M L Q := by
  simp only [rB, Bool.and_eq_true, decide_eq_true_eq] at h
  exact Wp.ret h.1 rfl (by simp [retOp, h.2]) q
theorem w_retZ {v : Int32} (h : rB j pc .ireturn (some .boolean) = true) (hv : v = 0 ∨ v = 1) (q : Q (some (.int v)) M L) : Wp d j pc ls [.int v] M L Q := by
  simp only [rB, Bool.and_eq_true, decide_eq_true_eq] at h
  exact Wp.ret h.1 rfl (by simp [retOp, h.2, hv]) q
theorem w_retL {v : Int64} (h : rB j pc .lreturn (some .long) = true) (q : Q (some (.long v)) M L) : Wp d j pc ls [.long v] M L Q := by
  simp only [rB, Bool.and_eq_true, decide_eq_true_eq] at h
  exact Wp.ret h.1 rfl (by simp [retOp, h.2]) q
theorem w_retV (h : rB j pc .return_ none = true) (q : Q none M L) : Wp d j pc ls [] M L Q := by
  simp only [rB, Bool.and_eq_true, decide_eq_true_eq] at h
  exact Wp.ret h.1 rfl (by simp [retOp, h.2]) q
end Wp
