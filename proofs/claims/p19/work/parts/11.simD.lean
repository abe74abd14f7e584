/-! Object's constructor, arraycopy, the end of a method, calls -/
def chkN (q : MethodName × ByteArray × Nat × Option FieldType × Nat × List (Nat × Instr × Nat)) : Bool := plainName q.1.cls && (q.1.cls == RC q.2.2.2.2.1) && (q.1.cls != "java/lang/invoke/MethodHandle") && (q.1.cls != "java/lang/invoke/VarHandle") && decide (q.2.2.1 ≤ 30) && (parseMethodDescriptor q.1.desc).isSome
theorem chkN_all : ∀ q ∈ mtab, chkN q = true := List.all_eq_true.mp (by decide +kernel)
theorem mt_of {j pc : Nat} {i : Instr} (h : insAt j pc = some i) : ∃ q, mtab[j]? = some q := by
  cases hq : mtab[j]? with
  | some q => exact ⟨q, rfl⟩
  | none => simp [insAt, isj, hq] at h
theorem mt_dec {j pc : Nat} {i : Instr} (h : insAt j pc = some i) : ∃ len, decode (cdj j) pc = .ok (i, len) ∧ (isSw i = true ∨ len = stdLen i) := by
  obtain ⟨q, hq⟩ := mt_of h
  have hall := chkM_all q (List.mem_of_getElem? hq)
  simp only [insAt, isj, hq, Option.map_eq_some_iff] at h
  obtain ⟨r, hr, rfl⟩ := h
  have h1 := List.mem_of_find?_eq_some hr
  have h2 := List.find?_some hr
  have h3 := List.all_eq_true.mp hall r h1
  simp only [chkI, Bool.and_eq_true, decide_eq_true_eq, Bool.or_eq_true, beq_iff_eq] at h3
  have e : r.1 = pc := by simpa using h2
  subst e
  refine ⟨r.2.2, by simp only [cdj, hq]; exact h3.1, h3.2.imp id (fun z => z.symm)⟩
theorem mt_decS {j pc : Nat} {i : Instr} (h : insAt j pc = some i) (hs : isSw i = false) : decode (cdj j) pc = .ok (i, stdLen i) := by
  obtain ⟨len, h1, h2⟩ := mt_dec h
  rcases h2 with h2 | h2
  · rw [hs] at h2; cases h2
  · rw [← h2]; exact h1
/-- what a line of the table says -/
theorem mt_name {j : Nat} {q : MethodName × ByteArray × Nat × Option FieldType × Nat × List (Nat × Instr × Nat)} (hq : mtab[j]? = some q) : plainName (yj j).cls = true ∧ (yj j).cls = RC (owc j) ∧ ((yj j).cls ≠ "java/lang/invoke/MethodHandle" ∧ (yj j).cls ≠ "java/lang/invoke/VarHandle") ∧ mxj j ≤ 30 ∧ (parseMethodDescriptor (yj j).desc).map (fun d => d.parameters.length) = some (narg j) ∧ Cond.code (yj j) (cdj j) (mxj j) (rtj j) ∈ tw := by
  have h := chkN_all q (List.mem_of_getElem? hq)
  have hw := mtab_in q (List.mem_of_getElem? hq)
  simp only [chkN, Bool.and_eq_true, beq_iff_eq, bne_iff_ne, decide_eq_true_eq] at h
  obtain ⟨⟨⟨⟨⟨h1, h2⟩, h3⟩, h4⟩, h5⟩, h6⟩ := h
  simp only [narg, yj, owc, mxj, cdj, rtj, hq]
  refine ⟨h1, h2, ⟨h3, h4⟩, h5, ?_, hw⟩
  cases hd : parseMethodDescriptor q.1.desc with
  | none => rw [hd] at h6; cases h6
  | some d => rfl
theorem cal_mem {ow idx : Nat} {q : Nat × Nat} (h : calT ow idx = some q) : ((ow, idx), q) ∈ ctab := lk_mem h
theorem nw_form : ∀ w ∈ nwl, (∃ a i b n d h, w = .fieldLinkNest a i b n d h) ∨ (∃ a i x h, w = .methodLinkNest a i x h) := by
  intro w hw
  rcases List.mem_append.mp hw with h | h
  · obtain ⟨q, hq, rfl⟩ := List.mem_map.mp h
    have hl : q.2.1 < 9 := (by decide : ∀ q ∈ ftabN, q.2.1 < 9) q hq
    have hr : vwCl[q.2.1]? = some vwCl[q.2.1] := List.getElem?_eq_getElem hl
    left
    simp only [fwdN, hr]
    exact ⟨_, _, _, _, _, _, rfl⟩
  · obtain ⟨q, hq, rfl⟩ := List.mem_map.mp h
    right
    exact ⟨_, _, _, _, rfl⟩
theorem nw_warm {s U : State} (hW : s.WarmedH U.vm) (h : ∀ w ∈ nwl, va_Nw w s) : ∀ w ∈ nwl, va_Nw w U := by
  intro w hw
  have h1 := h w hw
  rcases nw_form w hw with ⟨a, i, b, n, d, h, rfl⟩ | ⟨a, i, x, h, rfl⟩
  · exact va_Nw.warmF hW h1
  · exact va_Nw.warmM hW h1
theorem nw_same {u U : State} (hv : u.vm = U.vm) (h : ∀ w ∈ nwl, va_Nw w u) : ∀ w ∈ nwl, va_Nw w U := by
  intro w hw
  have h1 := h w hw
  rcases nw_form w hw with ⟨a, i, b, n, d, h, rfl⟩ | ⟨a, i, x, h, rfl⟩
  · exact va_Nw.same rfl hv h1
  · exact va_Nw.same rfl hv h1
theorem cpV_get {f g : List Value} {sp dp n : Nat} (hs : sp + n ≤ f.length) (hd : dp + n ≤ g.length) : (fun z => asI ((cpV f g sp dp n).getD z .null)) = va_cpy (fun z => asI (f.getD z .null)) (fun z => asI (g.getD z .null)) sp dp n := by
  funext z
  simp only [cpV, va_cpy, List.getD_eq_getElem?_getD, List.getElem?_mapIdx]
  by_cases h : dp ≤ z ∧ z < dp + n
  · have hz : z < g.length := by omega
    simp [h, hz]
  · by_cases hz : z < g.length
    · simp [h, hz]
    · simp [h, hz]
def wsj (j : Nat) : List Cond := Cond.code (yj j) (cdj j) (mxj j) (rtj j) :: tw
def rmd (d kc ks : Nat) : Room := { frames := d + 1, cells := kc, slots := ks, locals := 60 * (d + 1) }
def PcJ (b : Nat) (D : va_G) (cs : CS) (As : List Value) (w : Wd) : Array Value → State → Prop := va_Pc (As.map (tr b)) (fun U => U.heap.size = b + w.length ∧ va_P D vwCl (trW b cs w) U.heap ∧ va_K D vwCl (tysC cs) U ∧ (∀ w ∈ nwl, va_Nw w U) ∧ va_AO "SupperTales$Scroll" U ∧ va_AO "SupperTales$Telling" U)
def QC (b : Nat) (D : va_G) (cs : CS) (w : Wd) (rv : Option Value) : Array Value → State → Outcome → State → Prop := fun _ st oc t => oc = .returned (rv.map (tr b)) ∧ va_P D vwCl (trW b cs w) t.heap ∧ va_F (fun q => b ≤ q) st t
theorem PcJ_blind {b : Nat} {D : va_G} {cs : CS} {As : List Value} {w : Wd} : FrameBlind (PcJ b D cs As w) := by
  intro a U g mk h
  obtain ⟨h1, h2, h3, h4, h5, h6, h7⟩ := h
  exact ⟨h1, h2, h3, va_K.moved (u := U) (U := U.calling g mk a) (Vm.Alike.refl U.vm) h4, nw_same (u := U) (U := U.calling g mk a) rfl h5, va_AO.moved (u := U) (U := U.calling g mk a) (Vm.Alike.refl U.vm) h6, va_AO.moved (u := U) (U := U.calling g mk a) (Vm.Alike.refl U.vm) h7⟩
section SimD
variable {p : Program} {l : Launch} {e : Env} {R : Room} {s : State} {m : MethodId} {args : Array Value} {below : List Frame} {meth : Method} {c : Code} {H : Heap} {locs : List Loc} {cells slots : Nat} {Q : State → Prop}
variable {cc : ByteArray} {pc ow b nL j : Nat} {A : Array Slot} {i : Instr} {D : va_G} {cs : CS} {w : Wd}
set_option maxHeartbeats 4000000 in
theorem sim_nat {st : List Value} {q : List Value × Wd} (C : Cx p m c s args cc nL (RC (owc j)) D cs) (hA : A.size = nL) (hP : va_P D vwCl (trW b cs w) H) (hS : va_S (fun q => b ≤ q) s.heap H locs) (h : natOp j i st w = some q) (hd : decode cc pc = .ok (i, 3)) (hF : 1 ≤ R.frames) (hL : 60 ≤ R.locals) (hc : cells ≤ R.cells) (hs : slots ≤ R.slots)
    (k : ∀ (H1 : Heap) (locs1 : List Loc), va_P D vwCl (trW b cs q.2) H1 → va_S (fun q => b ≤ q) s.heap H1 locs1 → W p l e R s m args below meth c H1 locs1 cells slots Q (F0 m (pc + 3) A (q.1.map (tr b)))) : W p l e R s m args below meth c H locs cells slots Q (F0 m pc A (st.map (tr b))) := by
  obtain ⟨⟨hx, hb, hml, hown, hts⟩, hN, hAO, hK⟩ := C
  have ho := fun w h => hts w (misc_in w h)
  unfold natOp at h
  split at h
  · split at h
    · rename_i idx ad st0 hcd
      cases h
      obtain ⟨qq, hq1, hq2⟩ := Option.map_eq_some_iff.mp hcd.1
      have hw := ctab_in _ (cal_mem hq1) (.methodLink (RC (owc j)) idx objectInit) (by simp [cwd, hq2])
      have hcs := hcd.2
      refine W.objInit hx hb hown (hts _ hw) (ho _ (by simp)) (ho _ (by simp)) rfl (by show A.size = _; rw [hA, hml]) rfl hd hF ?_ (k H locs hP hS)
      show 2 * 0 + ((st0.map (tr b)).map fun v => v.category).sum + 12 ≤ R.locals
      rw [catS_tr]
      omega
    · cases h
  · split at h
    · rename_i idx n dp a sp a0 st0 hcd
      obtain ⟨w', h2, rfl⟩ := Option.map_eq_some_iff.mp h
      obtain ⟨qq, hq1, hq2⟩ := Option.map_eq_some_iff.mp hcd.1
      have hw := ctab_in _ (cal_mem hq1) (.methodLink (RC (owc j)) idx arraycopyName) (by simp [cwd, hq2])
      have hcs := hcd.2
      unfold acW at h2
      split at h2
      · rename_i q u hq hu
        split at h2
        · rename_i hc
          obtain ⟨c1, c2, c3, c4, c5, c6, c7⟩ := hc
          cases h2
          have he := trW_get (b := b) (cs := cs) hq
          unfold trE at he
          rw [if_pos c1] at he
          have hf := trW_get (b := b) (cs := cs) hu
          unfold trE at hf
          rw [if_pos c2] at hf
          refine va_copyi hx hb (by rw [hA, hml]) hown (hts _ hw) (ho _ (by simp)) (ho _ (by simp)) (ho _ (by simp)) hK hP trW_D hS a0 a 0 0 he hf rfl rfl rfl c3 c4 c5 c6 c7 (fun _ _ => rfl) hF ?_ hd (fun H1 locs1 p1 _ s1 => ?_)
          · rw [catS_tr]
            have : nativeFrameWords "java/lang/System" "arraycopy" 5 ≤ 40 := by decide
            omega
          · rw [← cpV_get c6 c7] at p1
            have e1 : (Sum.inl (cs.1, u.2.length, .inl (fun z => asI ((cpV q.2 u.2 sp.toNatClampNeg dp.toNatClampNeg n.toNatClampNeg).getD z .null))) : va_E) = trE b cs (u.1, cpV q.2 u.2 sp.toNatClampNeg dp.toNatClampNeg n.toNatClampNeg) := by
              unfold trE
              rw [if_pos c2]
              simp [cpV]
            rw [e1, trW_set] at p1
            exact k H1 locs1 p1 s1
        · cases h2
      · cases h2
    · cases h
  · rename_i idx y x st0 hno
    split at h
    · rename_i hcd
      split at h
      · rename_i hcs
        cases h
        obtain ⟨qq, hq1, hq2⟩ := Option.map_eq_some_iff.mp hcd
        have hw := ctab_in _ (cal_mem hq1)
        simp only [cwd, hq2] at hw
        exact va_mmax hx hb (by rw [hA, hml]) hown (hts _ (hw _ (by simp))) (hts _ (hw _ (by simp))) (hts _ (hw _ (by simp))) (hts _ (hw _ (by simp))) hF (by rw [catS_tr]; omega) hc hs hd (k H locs hP hS)
      · cases h
    · rename_i hcd
      split at h
      · rename_i hcs
        cases h
        obtain ⟨qq, hq1, hq2⟩ := Option.map_eq_some_iff.mp hcd
        have hw := ctab_in _ (cal_mem hq1)
        simp only [cwd, hq2] at hw
        exact va_mmin hx hb (by rw [hA, hml]) hown (hts _ (hw _ (by simp))) (hts _ (hw _ (by simp))) (hts _ (hw _ (by simp))) (hts _ (hw _ (by simp))) hF (by rw [catS_tr]; omega) hc hs hd (k H locs hP hS)
      · cases h
    · cases h
  · cases h
theorem sim_ret {st : List Value} {v : Option Value} {Qc : Array Value → State → Outcome → State → Prop} {free : Addr → Prop} (hx : p.tables.exec = Jvm.exec) (hb : c.code = cc) (hr : meth.sig.returnType = rtj j) (hlocks : meth.locks = false) (h : retOp j i st = some v) (hd : decode cc pc = .ok (i, 1))
    (hq : ∀ t : State, t.heap = H → s.WarmedH t.vm → Qc args s (.returned (v.map (tr b))) t) (hf : ∀ q ∈ locs, free q.base) : W p l e R s m args below meth c H locs cells slots (MQ below Qc args s cells slots free) (F0 m pc A (st.map (tr b))) := by
  unfold retOp at h
  split at h
  · split at h
    · rename_i hrt
      cases h
      exact W.iret hx hb (hr.trans hrt) hq hf hd hlocks
    · rename_i hrt
      split at h
      · rename_i hv
        cases h
        exact W.zret hx hb (hr.trans hrt) (by rcases hv with rfl | rfl <;> rfl) hq hf hd hlocks
      · cases h
    · cases h
  · split at h
    · rename_i hrt
      cases h
      exact W.lret hx hb (hr.trans hrt) hq hf hd hlocks
    · cases h
  · split at h
    · rename_i hrt
      cases h
      exact W.vret hx hb (hr.trans hrt) hq hf hd hlocks
    · cases h
  · cases h
theorem my_call {mc ms : Nat} {st0 rest : List Value} {w1 : Wd} {rv : Option Value} {a : Array Value} (hr : va_Run p l e R s m args below meth c H locs cells slots mc ms (F0 m pc A st0) rest (QC b D cs w1 rv a) (fun q => b ≤ q)) (hS : va_S (fun q => b ≤ q) s.heap H locs)
    (kk : ∀ (H1 : Heap) (locs1 : List Loc), va_P D vwCl (trW b cs w1) H1 → va_S (fun q => b ≤ q) s.heap H1 locs1 → W p l e R s m args below meth c H1 locs1 (cells + mc) (slots + ms) Q (F0 m (pc + 3) A ((rv.map (tr b)).toList ++ rest))) : W p l e R s m args below meth c H locs cells slots Q (F0 m pc A st0) := by
  intro T hT X
  obtain ⟨v, st₀, t, T', L, h0, X', hL, e1, e2, ⟨hv, hp, hz, hk⟩, st⟩ := hr T hT X
  cases hv
  rw [h0] at hz hk
  obtain ⟨t2, a1, b1⟩ := kk T'.heap (locs ++ L) (by rw [e1]; exact hp)
    ⟨Nat.le_trans hS.1 (by rw [e1]; exact hz), fun q h1 h2 => by rw [e1, hk q (Nat.lt_of_lt_of_le h1 hS.1) h2]; exact hS.2.1 q h1 h2, fun q hq => by
      rcases List.mem_append.mp hq with h | h
      · exact hS.2.2 q h
      · exact hL q h⟩ T' rfl X'
  exact ⟨t2, st t2 a1, b1⟩
/-- a callee's words are among those that are taken along -/
theorem good_wsj {q : MethodName × ByteArray × Nat × Option FieldType × Nat × List (Nat × Instr × Nat)} (hq : mtab[j]? = some q) : GoodIn tw (wsj j) := by
  intro w hw
  have h : w ∈ tw := by
    rcases List.mem_cons.mp hw with rfl | h
    · exact (mt_name hq).2.2.2.2.2
    · exact h
  exact ⟨h, tw_good w h⟩
theorem rev_tr (st : List Value) (n : Nat) : ((st.take n).reverse.map (tr b)).reverse = (st.map (tr b)).take n := by
  rw [List.map_reverse, List.reverse_reverse, List.map_take]
set_option maxHeartbeats 4000000 in
/-- a call: the callee's contract gives the walk behind it -/
theorem sim_call {st : List Value} {cl : Nat × List Value × List Value} {d kc ks : Nat} {w1 : Wd} {rv : Option Value} {q : MethodName × ByteArray × Nat × Option FieldType × Nat × List (Nat × Instr × Nat)} (C : Cx p m c s args cc nL (RC (owc j)) D cs) (hA : A.size = nL) (hP : va_P D vwCl (trW b cs w) H) (hS : va_S (fun q => b ≤ q) s.heap H locs) (hbs : b ≤ s.heap.size) (hsz : s.heap.size + cells = b + w.length) (h : callOp j i st w = some cl) (hd : decode cc pc = .ok (i, 3)) (hF : d + 2 ≤ R.frames) (hL : 60 * (d + 2) ≤ R.locals) (hq : mtab[cl.1]? = some q)
    (hM : Met l (yj cl.1) (wsj cl.1) (rmd d kc ks) (PcJ b D cs cl.2.1 w) (QC b D cs w1 rv) kc ks (fun q => b ≤ q)) (hc1 : cells + kc ≤ R.cells) (hc2 : slots + ks ≤ R.slots)
    (k : ∀ (H1 : Heap) (locs1 : List Loc), va_P D vwCl (trW b cs w1) H1 → va_S (fun q => b ≤ q) s.heap H1 locs1 → W p l e R s m args below meth c H1 locs1 (cells + kc) (slots + ks) Q (F0 m (pc + 3) A ((rv.toList ++ cl.2.2).map (tr b)))) : W p l e R s m args below meth c H locs cells slots Q (F0 m pc A (st.map (tr b))) := by
  have C0 := C
  obtain ⟨⟨hx, hb, hml, hown, hts⟩, hN, hAO, hK⟩ := C
  refine W_sz (fun hz => ?_)
  have hsize : H.size = b + w.length := Nat.le_antisymm (by omega) (P_sz hP (Nat.le_trans hbs hS.1))
  have k' : ∀ (H1 : Heap) (locs1 : List Loc), va_P D vwCl (trW b cs w1) H1 → va_S (fun q => b ≤ q) s.heap H1 locs1 → W p l e R s m args below meth c H1 locs1 (cells + kc) (slots + ks) Q (F0 m (pc + 3) A ((rv.map (tr b)).toList ++ cl.2.2.map (tr b))) := by
    intro H1 locs1 p1 s1
    have := k H1 locs1 p1 s1
    rw [List.map_append] at this
    cases rv <;> exact this
  have hpc : ∀ U : State, U.heap = H → s.WarmedH U.vm → PcJ b D cs cl.2.1 w (cl.2.1.map (tr b)).toArray U := fun U hU hW => ⟨rfl, by rw [hU]; exact hsize, by rw [hU]; exact hP, va_K.moved hW.alike hK, nw_warm hW hN, va_AO.moved hW.alike hAO.1, va_AO.moved hW.alike hAO.2⟩
  obtain ⟨n1, n2, n3, n4, n5, n6⟩ := mt_name hq
  have hG := good_wsj hq
  have hR : (rmd d kc ks).frames + 1 ≤ R.frames ∧ 8 + (mxj cl.1 + 11) + (rmd d kc ks).locals ≤ R.locals := ⟨by show d + 1 + 1 ≤ _; omega, by show 8 + (mxj cl.1 + 11) + 60 * (d + 1) ≤ _; omega⟩
  have hroom : ∀ rest : List Value, catS rest ≤ 8 → 2 * (F0 m pc A (st.map (tr b))).monitorRoom + ((rest.map (tr b)).map fun v => v.category).sum ≤ 8 := fun rest h => by
    rw [catS_tr]
    show 2 * 0 + _ ≤ 8
    omega
  have CF : CallFix p m c cc nL s args tw (RC (owc j)) := ⟨hx, hb, hml, hown, hts⟩
  unfold callOp at h
  split at h
  · rename_i idx
    split at h
    · rename_i j' hcal
      split at h
      · rename_i hc
        obtain ⟨c1, c2, c3⟩ := hc
        cases h
        dsimp only at *
        have hw := ctab_in _ (cal_mem hcal)
        simp only [cwd] at hw
        obtain ⟨r, hr1⟩ : ∃ r, st.getD (narg j') .null = .ref r := by
          unfold rcvOk at c1
          split at c1
          · rename_i r hr; exact ⟨r, hr⟩
          · cases c1
        rw [hr1] at c1
        simp only [rcvOk] at c1
        have hst : st[narg j']? = some (.ref r) := by
          rw [List.getElem?_eq_getElem c2]
          rw [List.getD_eq_getElem?_getD, List.getElem?_eq_getElem c2] at hr1
          exact congrArg some hr1
        have hAs : (st.take (narg j' + 1)).reverse = .ref r :: (st.take (narg j')).reverse := by
          rw [List.take_add_one, hst]; simp
        have hst2 : st.map (tr b) = ((st.take (narg j')).reverse.map (tr b)).reverse ++ .ref (b + r) :: (st.drop (narg j' + 1)).map (tr b) := by
          rw [rev_tr]
          have e1 : st = st.take (narg j') ++ .ref r :: st.drop (narg j' + 1) := by
            have e2 := List.take_append_drop (narg j') st
            rw [List.drop_eq_getElem_cons c2] at e2
            have e3 : st[narg j'] = .ref r := by
              rw [List.getElem?_eq_getElem c2] at hst
              exact Option.some.inj hst
            rw [e3] at e2
            exact e2.symm
          have e4 := congrArg (List.map (tr b)) e1
          rw [List.map_append, List.map_cons] at e4
          rw [← List.map_take]
          exact e4
        split at c1
        · rename_i u hu
          have hcls : u.1 = owc j' := by simpa using c1
          have hlt : owc j' < 9 := by
            by_cases hh : owc j' < 9
            · exact hh
            · exfalso
              have hsel := hw (.selects (yj j').cls (yj j') (yj j')) (by simp)
              exact absurd ((by decide +kernel : ∀ q ∈ ctab, q.2.2 = 0 → owc q.2.1 < 9) _ (cal_mem hcal) rfl) hh
          have hr : vwCl[owc j']? = some vwCl[owc j'] := List.getElem?_eq_getElem hlt
          have hcn := (cls_ok (owc j') _ hr).1
          have he : (trW b cs w)[r]? = some (b + r, .inr (owc j', u.2.map (tr b))) := by rw [trW_get hu, trE_o (by omega), hcls]
          have hrec := va_recv hK hP hr he
          rw [hcn, ← n2] at hrec
          rw [hAs] at hM hpc
          refine my_call (va_runV (C := (yj j').cls) (b := b + r) (As := (st.take (narg j')).reverse.map (tr b)) (rest := (st.drop (narg j' + 1)).map (tr b)) CF hM (cwV (narg j') hts ?_ rfl rfl rfl ⟨rfl, n3.1, n3.2, n5⟩ hR) ⟨PcJ_blind, hrec, hpc⟩ rfl (by simp; omega) hA hst2 (hroom _ c3) hd ⟨hc1, hc2⟩) hS k'
          intro w hw2
          have : w ∈ tw := by
            rcases List.mem_append.mp hw2 with h | h
            · exact hw w h
            · exact (hG w h).1
          exact ⟨this, tw_good w this⟩
        · cases c1
      · cases h
    · cases h
  · rename_i idx
    split at h
    · rename_i j' kk hcal
      split at h
      · rename_i hc
        obtain ⟨c1, c2, c3⟩ := hc
        cases h
        dsimp only at *
        have hw := ctab_in _ (cal_mem hcal)
        have hst2 : st.map (tr b) = ((st.take (narg j')).reverse.map (tr b)).reverse ++ (st.drop (narg j')).map (tr b) := by
          rw [rev_tr, ← List.map_take, ← List.map_append, List.take_append_drop]
        rcases c1 with rfl | rfl
        · simp only [cwd] at hw
          exact my_call (va_runS (As := (st.take (narg j')).reverse.map (tr b)) (rest := (st.drop (narg j')).map (tr b)) CF hM ⟨callB_of (narg j') hts hG rfl rfl rfl (hts _ (hw _ (by simp))) (hts _ (hw _ (by simp))) ⟨n3.1, n3.2, n5⟩ hR, hts _ (hw _ (by simp))⟩ ⟨PcJ_blind, hpc⟩ rfl (by simp; omega) hA hst2 (hroom _ c3) hd ⟨hc1, hc2⟩) hS k'
        · simp only [cwd] at hw
          have hnw : va_Nw (cwdN ((owc j, idx), (j', 3))) s := hN _ (List.mem_append_right _ (List.mem_map_of_mem (List.mem_filter.mpr ⟨cal_mem hcal, rfl⟩)))
          exact my_call (va_runSN (As := (st.take (narg j')).reverse.map (tr b)) (rest := (st.drop (narg j')).map (tr b)) CF hM ⟨va_cnB (narg j') hts hG rfl rfl rfl hnw (hts _ (hw _ (by simp))) ⟨n3.1, n3.2, n5⟩ hR, hts _ (hw _ (by simp)), trivial⟩ ⟨PcJ_blind, hpc⟩ rfl (by simp; omega) hA hst2 (hroom _ c3) hd ⟨hc1, hc2⟩) hS k'
      · cases h
    · cases h
  · rename_i idx
    split at h
    · rename_i j' kk hcal
      split at h
      · rename_i hc
        obtain ⟨c0, c1, c2, c3⟩ := hc
        cases h
        dsimp only at *
        have hw := ctab_in _ (cal_mem hcal)
        obtain ⟨r, hr1⟩ : ∃ r, st.getD (narg j') .null = .ref r := by
          unfold rcvOk at c1
          split at c1
          · rename_i r hr; exact ⟨r, hr⟩
          · cases c1
        have hst : st[narg j']? = some (.ref r) := by
          rw [List.getElem?_eq_getElem c2]
          rw [List.getD_eq_getElem?_getD, List.getElem?_eq_getElem c2] at hr1
          exact congrArg some hr1
        have hAs : (st.take (narg j' + 1)).reverse = .ref r :: (st.take (narg j')).reverse := by
          rw [List.take_add_one, hst]; simp
        have hst2 : st.map (tr b) = ((st.take (narg j')).reverse.map (tr b)).reverse ++ .ref (b + r) :: (st.drop (narg j' + 1)).map (tr b) := by
          rw [rev_tr]
          have e1 : st = st.take (narg j') ++ .ref r :: st.drop (narg j' + 1) := by
            have e2 := List.take_append_drop (narg j') st
            rw [List.drop_eq_getElem_cons c2] at e2
            have e3 : st[narg j'] = .ref r := by
              rw [List.getElem?_eq_getElem c2] at hst
              exact Option.some.inj hst
            rw [e3] at e2
            exact e2.symm
          have e4 := congrArg (List.map (tr b)) e1
          rw [List.map_append, List.map_cons] at e4
          rw [← List.map_take]
          exact e4
        rw [hAs] at hM hpc
        have hini : (yj j').name = "<init>" ∧ rtj j' = none := (by decide +kernel : ∀ q ∈ ctab, q.2.2 = 2 ∨ q.2.2 = 4 → (yj q.2.1).name = "<init>" ∧ rtj q.2.1 = none) _ (cal_mem hcal) c0
        have hws : wsj j' = Cond.code (yj j') (cdj j') (mxj j') none :: tw := by unfold wsj; rw [hini.2]
        rcases c0 with rfl | rfl
        · simp only [cwd] at hw
          exact my_call (va_runI (b := b + r) (As := (st.take (narg j')).reverse.map (tr b)) (rest := (st.drop (narg j' + 1)).map (tr b)) CF hM (cwI (narg j') hts hG hws rfl rfl (hts _ (hw _ (by simp))) (hts _ (hw _ (by simp))) (hts _ (hw _ (by simp))) hini.1 ⟨n3.1, n3.2, n5⟩ hR) ⟨PcJ_blind, hpc⟩ rfl (by simp; omega) hA hst2 (hroom _ c3) hd ⟨hc1, hc2⟩) hS k'
        · simp only [cwd] at hw
          have hnw : va_Nw (cwdN ((owc j, idx), (j', 4))) s := hN _ (List.mem_append_right _ (List.mem_map_of_mem (List.mem_filter.mpr ⟨cal_mem hcal, rfl⟩)))
          exact my_call (va_runIN (b := b + r) (As := (st.take (narg j')).reverse.map (tr b)) (rest := (st.drop (narg j' + 1)).map (tr b)) CF hM ⟨va_cnB (narg j') hts hG hws rfl rfl hnw (hts _ (hw _ (by simp))) ⟨n3.1, n3.2, n5⟩ hR, hini.1, hts _ (hw _ (by simp))⟩ ⟨PcJ_blind, hpc⟩ rfl (by simp; omega) hA hst2 (hroom _ c3) hd ⟨hc1, hc2⟩) hS k'
      · cases h
    · cases h
  · cases h
end SimD
