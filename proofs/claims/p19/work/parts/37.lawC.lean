/-! THE START OF THE LAW: the two objects made -/
theorem inv_M0 : Inv M0 := by
  intro i k
  unfold M0
  split
  · rename_i h
    rcases h with ⟨rfl, rfl⟩ | ⟨rfl, rfl⟩
    · exact Rg.free (by unfold isScr isHs; omega)
    · exact rg_85 (n := 10) (by decide)
  · have z : ∀ b : Nat, cle (0 : Int32) b := fun b => ⟨0, Nat.zero_le _, rfl⟩
    exact ⟨fun _ _ => z _, fun _ _ => z _, fun _ _ => z _, fun _ _ => z _, fun _ => ⟨fun _ => z _, fun _ => z _, fun _ => z _, fun _ => z _⟩, fun _ => z _, fun _ => z _, fun _ => z _, fun _ _ _ => Or.inr (z _), fun _ _ _ => Or.inr (z _), fun _ _ _ => Or.inr (z _)⟩
theorem rel_M0 : RelD 9 M0 L0 := ⟨⟨⟨inv_M0, rel_start.1, relH_start, rfl⟩, relS_start⟩, bd_start, Nat.le_refl _⟩
section LawS
variable {X : Lx} {pc : Nat} {lv : List (Nat × Value)} {st : List Value} {w : Wd}
def LV (X : Lx) (pc : Nat) (lv : List (Nat × Value)) (st : List Value) (w : Wd) : Prop := ∀ (H : Heap) (locs : List Loc) (A : Array Slot), lv_has A 4 lv → va_P X.D vwCl (trW X.s.heap.size X.cs w) H → va_S (fun q => X.s.heap.size ≤ q) X.s.heap H locs → W X.p X.l X.e room_1 X.s X.m #[Value.ref X.bS] X.below X.meth X.c H locs w.length (wsz w) (lw_Z X.below #[Value.ref X.bS] X.s) (F0 X.m pc A (st.map (tr X.s.heap.size)))
set_option maxHeartbeats 4000000 in
theorem L_new (hX : X.ok) (idx ci pc' : Nat) (h : lJ pc (.new idx) pc' = true) (hci : ntab.lookup (11, idx) = some ci) (hlt : ci < 9) (hc : w.length + 1 ≤ 600000) (hsl : wsz (w ++ [newO ci]) ≤ 7302250) (kk : LV X pc' lv (.ref w.length :: st) (w ++ [newO ci])) : LV X pc lv st w := by
  intro H locs A hA hP hS
  obtain ⟨hd, rfl⟩ := lJ_spec h
  obtain ⟨⟨⟨hx, hb, hml, hown, hts⟩, hN, hAO, hK⟩, -⟩ := hX
  have hr : vwCl[ci]? = some vwCl[ci] := List.getElem?_eq_getElem hlt
  generalize vwCl[ci] = r at hr
  obtain ⟨g1, g2, g3⟩ := cls_ok ci r hr
  have hin : ∀ w ∈ u_ws r.1 r.2.1 r.2.2, w ∈ tw := utab_in r (List.mem_of_getElem? hr)
  have hii := itab_in r (List.mem_of_getElem? hr)
  have hcl := ntab_in _ (lk_mem hci)
  dsimp only at hcl
  rw [← g1] at hcl
  have hnf : nfC ci = r.2.2 := by unfold nfC; rw [hr]
  have hlen : (newO ci).2.length = r.2.2 := by simp [newO, hnf]
  have e0 : (w ++ [newO ci]).length = w.length + 1 := by simp
  have e00 : wsz (w ++ [newO ci]) = wsz w + r.2.2 := by rw [wsz_push, hlen]
  rw [e00] at hsl
  refine va_new (own := RC 11) (fs := (newO ci).2.map (tr X.s.heap.size)) hx hb hts hin (tyC ci) g2 hown (hts _ hcl) (hts _ (hii _ (by simp))) (hts _ (hii _ (by simp))) hK hP trW_D hS (fun q h => h) hr (fun z hz => ?_) hc hsl hd (fun q H1 p1 d1 s1 => ?_)
  · have hz2 : z < nfC ci := by rw [hnf]; exact hz
    simp only [vp_V, newO, List.getD_eq_getElem?_getD, List.getElem?_map, List.getElem?_range hz2, Option.map_some, Option.getD_some]
    cases tyC ci z <;> rfl
  · refine W_sz (fun hz => ?_)
    have hq := new_addr p1 d1 (by omega)
    subst hq
    have e1 : (Sum.inr (ci, (newO ci).2.map (tr X.s.heap.size)) : va_E) = trE X.s.heap.size X.cs (newO ci) := (trE_o (show (newO ci).1 < 9 from hlt)).symm
    rw [e1, trW_push] at p1
    rw [← e0, ← e00]
    exact kk H1 locs A hA p1 s1
theorem L_dup (hX : X.ok) {r : Nat} (pc' : Nat) (h : lJ pc .dup pc' = true) (kk : LV X pc' lv (.ref r :: .ref r :: st) w) : LV X pc lv (.ref r :: st) w := by
  intro H locs A hA hP hS
  obtain ⟨hd, rfl⟩ := lJ_spec h
  obtain ⟨⟨⟨hx, hb, hml, hown, hts⟩, -⟩, -⟩ := hX
  exact lv_dup hx hb hd rfl (kk H locs A hA hP hS)
theorem L_init {i : Instr} {j' d n : Nat} {As rest : List Value} {w1 : Wd} {rv : Option Value} (hX : X.ok) (pc' : Nat) (h : lJ pc i pc' = true) (hk : stdLen i = 3) (hc : callOp 1000 i st w = some (j', As, rest)) (hev : ev n d j' 0 (entL j' As) [] w = some (w1, rv)) (hla : (layA As).length ≤ mxj j') (hd : d ≤ 100) (hb1 : w1.length ≤ 600000) (hb2 : wsz w1 ≤ 7302250)
    (kk : LV X pc' lv (rv.toList ++ rest) w1) : LV X pc lv st w := by
  intro H locs A hA hP hS
  obtain ⟨hdc, rfl⟩ := lJ_spec h
  obtain ⟨C, -⟩ := hX
  rw [hk] at hdc kk
  obtain ⟨i0, hi0⟩ := ev_ins hev
  obtain ⟨q, hq⟩ := mt_of hi0
  obtain ⟨m1, m2⟩ := ev_mono _ _ _ _ _ _ _ _ _ hev
  have e1 : w.length + (w1.length - w.length) = w1.length := by omega
  have e2 : wsz w + (wsz w1 - wsz w) = wsz w1 := by omega
  have hm := met_of (sim X.l n) hev hla X.s.heap.size X.D X.cs
  refine sim_call (j := 1000) (d := d) (by rw [owc_law]; exact C) hA.1 hP hS (Nat.le_refl _) rfl hc hdc ?_ ?_ hq hm ?_ ?_ (fun H1 locs1 p1 s1 => ?_)
  · show d + 2 ≤ 2048; omega
  · show 60 * (d + 2) ≤ 84000; omega
  · rw [e1]; exact hb1
  · rw [e2]; exact hb2
  · rw [e1, e2]
    exact kk H1 locs1 A hA p1 s1
theorem L_ast (hX : X.ok) {r : Nat} {lv' : List (Nat × Value)} (n : Fin 4) (pc' : Nat) (h : lJ pc (.astore_n n) pc' = true) (hl : ((n : Nat), Value.ref (X.s.heap.size + r)) :: lv.filter (fun q => !(q.1 == (n : Nat)) && !(q.1 + 1 == (n : Nat) && q.2.category == 2)) = lv') (kk : LV X pc' lv' st w) : LV X pc lv (.ref r :: st) w := by
  intro H locs A hA hP hS
  obtain ⟨hd, rfl⟩ := lJ_spec h
  obtain ⟨⟨⟨hx, hb, hml, hown, hts⟩, -⟩, -⟩ := hX
  exact lv_astore_n hx hb hd rfl hA n.isLt hl (fun A' hA' => kk H locs A' hA' hP hS)
/-- the counter laid: the loop begins -/
theorem L_ist (hX : X.ok) (pc' : Nat) (h : (lJ pc (.iconst 0) (pc + 1) && lJ (pc + 1) (.istore_n 3) pc') = true) (hl : lv = [(2, .ref (X.s.heap.size + 76)), (1, .ref (X.s.heap.size + 0)), (0, .ref X.bS)]) (kk : LW X pc' 0 st w) : LV X pc lv st w := by
  intro H locs A hA hP hS
  subst hl
  simp only [Bool.and_eq_true] at h
  obtain ⟨d1, -⟩ := lJ_spec h.1
  obtain ⟨d2, rfl⟩ := lJ_spec h.2
  obtain ⟨⟨⟨hx, hb, hml, hown, hts⟩, -⟩, -⟩ := hX
  refine lv_iconst hx hb d1 (v := nI 0) (by decide) ?_
  exact lv_istore_n hx hb d2 rfl hA (by decide) (lv' := [(3, .int (nI 0)), (2, .ref (X.s.heap.size + 76)), (1, .ref (X.s.heap.size + 0)), (0, .ref X.bS)]) rfl (fun A' hA' => kk H locs A' (lv_sub hA' [3, 2, 1, 0] rfl) hP hS)
end LawS
def xT : Wd := (wOf M0 L0).take 76
theorem xT_len : xT.length = 76 := by
  show ((wOf M0 L0).take 76).length = 76
  rw [List.length_take, wOf_len, shp_len]
  rfl
theorem xT_sz : wsz xT ≤ 7000 := by decide +kernel
theorem nO_sz : wsz [newO 7] ≤ 7000 := by decide +kernel
theorem nO8_sz : (newO 8).2.length ≤ 100 := by decide +kernel
set_option maxRecDepth 100000 in
theorem call_x : callOp 1000 (.invokespecial 9) [.ref 0, .ref 0] [newO 7] = some (75, [.ref 0], [.ref 0]) := by decide +kernel
set_option maxRecDepth 100000 in
theorem call_m : callOp 1000 (.invokespecial 12) [.ref 76, .ref 76] (xT ++ [newO 8]) = some (133, [.ref 76], [.ref 76]) := by decide +kernel
theorem wOf_M0_len : (wOf M0 L0).length ≤ 600000 := by rw [wOf_len, shp_len]; decide
theorem law_begin {X : Lx} (hX : X.ok) : LV X 0 [(0, .ref X.bS)] [] [] := by
  refine L_new hX 7 7 3 (by decide +kernel) (by decide +kernel) (by decide) (by decide) ?_ ?_
  · show wsz [newO 7] ≤ _
    exact Nat.le_trans nO_sz (by decide)
  show LV X 3 [(0, .ref X.bS)] [.ref 0] [newO 7]
  refine L_dup hX 4 (by decide +kernel) ?_
  refine L_init (i := .invokespecial 9) hX 7 (by decide +kernel) rfl call_x init_x (by decide +kernel) (by decide) ?_ ?_ ?_
  · show xT.length ≤ _
    rw [xT_len]; decide
  · exact Nat.le_trans xT_sz (by decide)
  show LV X 7 [(0, .ref X.bS)] [.ref 0] xT
  refine L_ast hX 1 8 (by decide +kernel) (lv' := [(1, .ref (X.s.heap.size + 0)), (0, .ref X.bS)]) rfl ?_
  refine L_new hX 10 8 11 (by decide +kernel) (by decide +kernel) (by decide) ?_ ?_ ?_
  · rw [xT_len]; decide
  · rw [wsz_push]
    have a1 := xT_sz
    have a2 := nO8_sz
    omega
  rw [xT_len]
  refine L_dup hX 12 (by decide +kernel) ?_
  refine L_init (i := .invokespecial 12) hX 15 (by decide +kernel) rfl call_m init_m (by decide +kernel) (by decide) wOf_M0_len (Nat.le_trans wOf_wsz (by decide)) ?_
  show LV X 15 [(1, .ref (X.s.heap.size + 0)), (0, .ref X.bS)] [.ref 76] (wOf M0 L0)
  refine L_ast hX 2 16 (by decide +kernel) (lv' := [(2, .ref (X.s.heap.size + 76)), (1, .ref (X.s.heap.size + 0)), (0, .ref X.bS)]) rfl ?_
  refine L_ist hX 18 (by decide +kernel) rfl ?_
  exact law_loop hX 100 0 9 M0 L0 (by have := hX.2.2.2.2.2; omega) (by omega) (by omega) rel_M0
/-- YOUR PART: from the entry, for every script of at most 320 ints, the law comes to its end with true -/
theorem whole_start {p : Program} {e : Env} {s : State} {m : MethodId} {below : List Frame} {meth : Method} {c : Code} (l : Launch) {b L : Nat} {xs : Nat → Int32} (hL : L ≤ 320) (C0 : lw_At p s m meth c b L xs) : W p l e room_1 s m #[Value.ref b] below meth c s.heap [] 0 0 (lw_Z below #[Value.ref b] s) (entryFrame m ([Value.ref b] : List Value).toArray 4) := by
  obtain ⟨hx, hb, hr, hml, hown, hts, hXa, hbl, hlk, -⟩ := C0
  have htw : ∀ w ∈ tw, w.before #[Value.ref b] s = true := fun w hw => hts w (tw_lw w hw)
  have hk : ∀ ci : Nat, ∃ q : ClassId × (Nat → Nat), ∀ r : vw_C, vwCl[ci]? = some r → u_Kn s r.1 r.2.1 r.2.2 q.1 q.2 := by
    intro ci
    cases hr : vwCl[ci]? with
    | none => exact ⟨(m.cls, fun _ => 0), fun r h => by cases h⟩
    | some r =>
      have hm := List.mem_of_getElem? hr
      obtain ⟨cC, iS, h⟩ := u_known (n := r.2.2) htw (utab_in r hm) (htw _ (itab_in r hm _ (by simp)))
      exact ⟨(cC, iS), fun r' h' => by cases h'; exact h⟩
  obtain ⟨F, hF⟩ := Classical.axiomOfChoice hk
  obtain ⟨cI, kI, qI, i1, i2, i3⟩ := Cond.arrayClass_spec (htw (.arrayClass .int) (misc_in _ (by simp)))
  obtain ⟨cZ, kZ, qZ, z1, z2, z3⟩ := Cond.arrayClass_spec (htw (.arrayClass .boolean) (misc_in _ (by simp)))
  have oS := hts _ (over_in (.arrayOver (.object "SupperTales$Scroll")) (by simp))
  have oT := hts _ (over_in (.arrayOver (.object "SupperTales$Telling")) (by simp))
  obtain ⟨qS, cS, kS, s1, s2, s3, s4, s5⟩ := Cond.arrayOver_spec oS
  obtain ⟨qT, cT, kT, t1, t2, t3, t4, t5⟩ := Cond.arrayOver_spec oT
  have hK : va_K ((fun ci => (F ci).1, fun ci => (F ci).2) : va_G) vwCl (tysC (cI, cZ, cS, cT)) s := by
    refine ⟨fun ci q hq => hF ci q hq, fun k q hk => ?_⟩
    match k, hk with
    | 0, hk => cases hk; exact ⟨fun n z => ⟨fun k h => (by cases h), kI, i2, qI, i3⟩, i1⟩
    | 1, hk => cases hk; exact ⟨fun n z => ⟨fun k h => (by cases h), kZ, z2, qZ, z3⟩, z1⟩
    | 2, hk => cases hk; exact ⟨fun n z => ⟨fun k h => (by cases h), kS, s3, qS, s4⟩, kS, qS, s3, s4, s1, s5⟩
    | 3, hk => cases hk; exact ⟨fun n z => ⟨fun k h => (by cases h), kT, t3, qT, t4⟩, kT, qT, t3, t4, t1, t5⟩
    | k + 4, hk => cases hk
  have hN : ∀ w ∈ nwl, va_Nw w s := by
    intro w hw
    have hin : w ∈ lw_tbl := by
      rcases List.mem_append.mp hw with h | h
      · obtain ⟨q, hq, rfl⟩ := List.mem_map.mp h
        exact ftabN_in q hq
      · obtain ⟨q, hq, rfl⟩ := List.mem_map.mp h
        have := List.mem_filter.mp hq
        exact ctabN_in q this.1 this.2
    refine va_Nw.of ?_ (hts w hin)
    rcases nw_form w hw with ⟨_, _, _, _, _, _, rfl⟩ | ⟨_, _, _, _, rfl⟩ <;> rfl
  have hX : Lx.ok (p, l, e, s, m, below, meth, c, b, L, xs, ((fun ci => (F ci).1, fun ci => (F ci).2) : va_G), (cI, cZ, cS, cT)) := ⟨⟨⟨hx, hb, hml, hown, htw⟩, hN, ⟨va_AO.of oS, va_AO.of oT⟩, hK⟩, hr, hlk, hXa, hbl, hL⟩
  rw [lg_entry_eq]
  exact law_begin hX s.heap [] _ (lv_entry [Value.ref b] (show 1 ≤ 4 by decide)) (fun k q hq => by cases hq) va_S.rf
