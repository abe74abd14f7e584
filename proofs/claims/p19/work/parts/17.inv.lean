/-! bounds out of what always holds; the objects by their kinds; more rules -/
def Hs (h : Nat) : Prop := isHouse h ∧ isHs h
def isTs (t : Nat) : Prop := t = 10 ∨ t = 16 ∨ t = 21 ∨ t = 26 ∨ t = 33 ∨ t = 38 ∨ t = 43 ∨ t = 48 ∨ t = 53
def Tl (t : Nat) : Prop := isTell t ∧ isHs (t + 1) ∧ isTs t
def Sc (s : Nat) : Prop := isScroll s ∧ isScr s
theorem tl_h {t : Nat} (h : Tl t) : Hs (t + 1) := ⟨h.1.2.1, h.2.1⟩
theorem hs_of {h : Nat} (hh : isHs h) : Hs h := by
  refine ⟨?_, hh⟩
  rcases hh with rfl | rfl | rfl | rfl | rfl | rfl | rfl | rfl | rfl | rfl | rfl <;> exact ⟨rfl, rfl, rfl⟩
theorem tl_of {t : Nat} (h : t = 10 ∨ t = 16 ∨ t = 21 ∨ t = 26 ∨ t = 33 ∨ t = 38 ∨ t = 43 ∨ t = 48 ∨ t = 53) : Tl t := by
  refine ⟨?_, by unfold isHs; omega, h⟩
  rcases h with rfl | rfl | rfl | rfl | rfl | rfl | rfl | rfl | rfl <;> exact ⟨rfl, ⟨rfl, rfl, rfl⟩, rfl⟩
theorem sc_of {s : Nat} (h : isScr s) : Sc s := by
  refine ⟨?_, h⟩
  rcases h with rfl | rfl | rfl | rfl <;> exact ⟨rfl, rfl⟩
theorem hs_4 : Hs 4 := hs_of (by unfold isHs; omega)
theorem hs_7 : Hs 7 := hs_of (by unfold isHs; omega)
theorem hs_11 : Hs 11 := hs_of (by unfold isHs; omega)
theorem hs_17 : Hs 17 := hs_of (by unfold isHs; omega)
theorem hs_22 : Hs 22 := hs_of (by unfold isHs; omega)
theorem hs_27 : Hs 27 := hs_of (by unfold isHs; omega)
theorem hs_34 : Hs 34 := hs_of (by unfold isHs; omega)
theorem hs_39 : Hs 39 := hs_of (by unfold isHs; omega)
theorem hs_44 : Hs 44 := hs_of (by unfold isHs; omega)
theorem hs_49 : Hs 49 := hs_of (by unfold isHs; omega)
theorem hs_54 : Hs 54 := hs_of (by unfold isHs; omega)
theorem tl_10 : Tl 10 := tl_of (by omega)
theorem tl_16 : Tl 16 := tl_of (by omega)
theorem tl_21 : Tl 21 := tl_of (by omega)
theorem tl_26 : Tl 26 := tl_of (by omega)
theorem tl_33 : Tl 33 := tl_of (by omega)
theorem sc_1 : Sc 1 := sc_of (by unfold isScr; omega)
theorem sc_tale (k : Nat) (h : k < 3) : Sc (70 + 2 * k) := sc_of (by unfold isScr; omega)
theorem tl_step (k : Nat) (h : k < 5) : Tl (33 + 5 * k) := tl_of (by omega)
theorem inv_h {M : Mt} {h : Nat} (hI : Inv M) (hh : Hs h) : cle (M h 2) 5 := (hI h 2).2.1 hh.2 rfl
theorem inv_s {M : Mt} {s : Nat} (hI : Inv M) (hh : Sc s) : cle (M s 1) 24 := (hI s 1).1 hh.2 rfl
theorem inv_acts {M : Mt} (hI : Inv M) : cle (M 0 14) 12 := (hI 0 14).2.2.1 rfl rfl
theorem inv_sz {M : Mt} (hI : Inv M) : cle (M 64 2) 6 := (hI 64 2).2.2.2.1 rfl rfl
theorem inv_g {M : Mt} (hI : Inv M) : cle (M 76 0) 5 := ((hI 76 0).2.2.2.2.1 rfl).1 rfl
theorem inv_len {M : Mt} (hI : Inv M) : cle (M 76 4) 24 := ((hI 76 4).2.2.2.2.1 rfl).2.1 rfl
theorem inv_next {M : Mt} (hI : Inv M) : cle (M 76 9) 11 := ((hI 76 9).2.2.2.2.1 rfl).2.2.1 rfl
theorem inv_seen {M : Mt} (hI : Inv M) : cle (M 76 15) 6 := ((hI 76 15).2.2.2.2.1 rfl).2.2.2 rfl
theorem inv_81 {M : Mt} (hI : Inv M) (k : Nat) : cle (M 81 k) 24 := (hI 81 k).2.2.2.2.2.1 rfl
theorem inv_86 {M : Mt} (hI : Inv M) (k : Nat) : cle (M 86 k) 4 := (hI 86 k).2.2.2.2.2.2.1 rfl
theorem inv_85 {M : Mt} (hI : Inv M) (k : Nat) : cle (M 85 k) 10 := (hI 85 k).2.2.2.2.2.2.2.1 rfl
theorem inv_78 {M : Mt} (hI : Inv M) (k : Nat) (h1 : 10 ≤ k % 22) (h2 : k % 22 ≤ 14) : wedv (M 78 k) := (hI 78 k).2.2.2.2.2.2.2.2.1 rfl h1 h2
section WpI
variable {d j pc : Nat} {ls st : List Value} {M : Mt} {L : Lt} {Q : Option Value → Mt → Lt → Prop}
theorem w_topi {x : Int32} (k : ∀ y : Int32, y = x → Wp d j pc ls (.int y :: st) M L Q) : Wp d j pc ls (.int x :: st) M L Q := k x rfl
theorem w_topl {x : Int64} (k : ∀ y : Int64, y = x → Wp d j pc ls (.long y :: st) M L Q) : Wp d j pc ls (.long x :: st) M L Q := k x rfl
theorem w_ialdC {a n k B : Nat} (pc' : Nat) (h : isI j pc .iaload pc' = true) (hs : shp[a]? = some (100, List.replicate n 0)) (hn : n < 2 ^ 31) (hk : k < n) (hr : cle (M a k) B) (kk : ∀ v : Nat, v ≤ B → M a k = nI v → Wp d j pc' ls (.int (nI v) :: st) M L Q) : Wp d j pc ls (.int (nI k) :: .ref a :: st) M L Q := by
  obtain ⟨v, h1, h2⟩ := hr
  refine w_ialdN pc' h hs hn hk ?_
  rw [h2]
  exact kk v h1 h2
theorem w_baldN {a n k : Nat} (pc' : Nat) (h : isI j pc .baload pc' = true) (hs : shp[a]? = some (101, List.replicate n 0)) (hn : n < 2 ^ 31) (hk : k < n) (kk : Wp d j pc' ls (.int (M a k) :: st) M L Q) : Wp d j pc ls (.int (nI k) :: .ref a :: st) M L Q := by
  have e := nI_clamp (show k < 2 ^ 31 by omega)
  refine w_bald pc' h hs ⟨nI_pos (by omega), by rw [e]; exact hk⟩ ?_
  rw [e]; exact kk
theorem w_bastW {S : Nat → Nat → Prop} {A : Mt} {a n k : Nat} {v : Int32} (pc' : Nat) (h : isI j pc .bastore pc' = true) (hs : shp[a]? = some (101, List.replicate n 0)) (hn : n < 2 ^ 31) (hk : k < n) (hv : v = 0 ∨ v = 1) (hS : St S A M) (hr : Rg a k v) (hm : S a k) (kk : ∀ M' : Mt, St S A M' → M' a k = v → (∀ x y, ¬ (x = a ∧ y = k) → M' x y = M x y) → Wp d j pc' ls st M' L Q) : Wp d j pc ls (.int v :: .int (nI k) :: .ref a :: st) M L Q := by
  have e := nI_clamp (show k < 2 ^ 31 by omega)
  refine w_bast pc' h hs ⟨nI_pos (by omega), by rw [e]; exact hk⟩ hv ?_
  rw [e]
  exact kk _ (hS.up hr hm) up2_eq (fun _ _ e => up2_ne e)
theorem w_putZW {S : Nat → Nat → Prop} {A : Mt} {ci k a : Nat} {dl : List Nat} {v : Int32} (pc' : Nat) (h : pB j pc ci k .boolean pc' = true) (hs : shp[a]? = some (ci, dl)) (hd : dl[k]? = some 0) (hv : v = 0 ∨ v = 1) (hS : St S A M) (hr : Rg a k v) (hm : S a k) (kk : ∀ M' : Mt, St S A M' → M' a k = v → (∀ x y, ¬ (x = a ∧ y = k) → M' x y = M x y) → Wp d j pc' ls st M' L Q) : Wp d j pc ls (.int v :: .ref a :: st) M L Q := w_putZ pc' h hs hd hv (kk _ (hS.up hr hm) up2_eq (fun _ _ e => up2_ne e))
theorem St.cp {S : Nat → Nat → Prop} {A : Mt} {a0 sp a dp n : Nat} (h : St S A M) (hr : ∀ z, dp ≤ z → z < dp + n → Rg a z (M a0 (sp + (z - dp)))) (hm : ∀ z, dp ≤ z → z < dp + n → S a z) : St S A (cpM M a0 sp a dp n) := by
  refine ⟨fun i k => ?_, fun i k hn => ?_⟩
  · unfold cpM
    split
    · rename_i hc
      obtain ⟨rfl, h1, h2⟩ := hc
      exact hr k h1 h2
    · exact h.1 i k
  · unfold cpM
    rw [if_neg (fun hc => hn (by rw [hc.1]; exact hm k hc.2.1 hc.2.2))]
    exact h.2 i k hn
theorem w_acpyW {S : Nat → Nat → Prop} {A : Mt} {sp dp n a0 a n0 n1 : Nat} (pc' : Nat) (h : nB j pc 6 pc' = true) (hs0 : shp[a0]? = some (100, List.replicate n0 0)) (hs1 : shp[a]? = some (100, List.replicate n1 0)) (hn0 : n0 < 2 ^ 31) (hn1 : n1 < 2 ^ 31) (h4 : sp + n ≤ n0) (h5 : dp + n ≤ n1) (hc : catS st ≤ 8) (hS : St S A M) (hr : ∀ z, dp ≤ z → z < dp + n → Rg a z (M a0 (sp + (z - dp)))) (hm : ∀ z, dp ≤ z → z < dp + n → S a z) (kk : ∀ M' : Mt, St S A M' → (∀ x y, M' x y = cpM M a0 sp a dp n x y) → Wp d j pc' ls st M' L Q) : Wp d j pc ls (.int (nI n) :: .int (nI dp) :: .ref a :: .int (nI sp) :: .ref a0 :: st) M L Q := by
  have e1 := nI_clamp (show sp < 2 ^ 31 by omega)
  have e2 := nI_clamp (show dp < 2 ^ 31 by omega)
  have e3 := nI_clamp (show n < 2 ^ 31 by omega)
  refine w_acpy pc' h hs0 hs1 (nI_pos (by omega)) (nI_pos (by omega)) (nI_pos (by omega)) (by rw [e1, e3]; exact h4) (by rw [e2, e3]; exact h5) hc ?_
  rw [e1, e2, e3]
  exact kk _ (hS.cp hr hm) (fun _ _ => rfl)
theorem w_tale {k : Nat} (pc' : Nat) (h : isI j pc .aaload pc' = true) (hk : k < 3) (kk : Wp d j pc' ls (.ref (70 + 2 * k) :: st) M L Q) : Wp d j pc ls (.int (nI k) :: .ref 3 :: st) M L Q := by
  refine w_aald (r := 70 + 2 * k) pc' h sh_3 (Or.inl rfl) (nI_pos (by omega)) ?_ kk
  rw [nI_clamp (by omega)]
  rcases (by omega : k = 0 ∨ k = 1 ∨ k = 2) with rfl | rfl | rfl <;> rfl
theorem w_step5 {k : Nat} (pc' : Nat) (h : isI j pc .aaload pc' = true) (hk : k < 5) (kk : Wp d j pc' ls (.ref (33 + 5 * k) :: st) M L Q) : Wp d j pc ls (.int (nI k) :: .ref 32 :: st) M L Q := by
  refine w_aald (r := 33 + 5 * k) pc' h sh_32 (Or.inr rfl) (nI_pos (by omega)) ?_ kk
  rw [nI_clamp (by omega)]
  rcases (by omega : k = 0 ∨ k = 1 ∨ k = 2 ∨ k = 3 ∨ k = 4) with rfl | rfl | rfl | rfl | rfl <;> rfl
theorem w_idecN {z a : Nat} (b pc' : Nat) (h : isI j pc (.iinc z (-1)) pc' = true) (hl : ls[z]? = some (.int (nI a))) (hz : z < ls.length) (hn : noL ls z = true) (ha : 0 < a) (hb : a - 1 = b) (k : Wp d j pc' (ls.set z (.int (nI b))) st M L Q) : Wp d j pc ls st M L Q := by
  subst hb
  obtain ⟨c, rfl⟩ : ∃ c, a = c + 1 := ⟨a - 1, by omega⟩
  refine w_store (ls' := ls.set z (.int (nI (c + 1 - 1)))) (st' := st) (.iinc z (-1)) pc' h rfl ?_ k
  simp only [storeOp, hl, st1]
  rw [if_pos ⟨hz, hn⟩]
  have e : nI (c + 1) + Int32.ofInt (-1) = nI (c + 1 - 1) := pk_m1 c
  rw [e]
  rfl
end WpI
section WpK
variable {d j pc : Nat} {ls st : List Value} {M : Mt} {L : Lt} {Q : Option Value → Mt → Lt → Prop}
theorem w_getK {ci k a n : Nat} {dl : List Nat} (pc' : Nat) (h : gB j pc ci k pc' = true) (hs : shp[a]? = some (ci, dl)) (hd : dl[k]? = some 0) (hv : M a k = nI n) (kk : Wp d j pc' ls (.int (nI n) :: st) M L Q) : Wp d j pc ls (.ref a :: st) M L Q := by
  refine w_getI pc' h hs hd ?_
  rw [hv]; exact kk
theorem w_minN {a b : Nat} (c pc' : Nat) (h : nB j pc 8 pc' = true) (hc : catS st ≤ 8) (hs : st.length ≤ 2) (ha : a < 2 ^ 31) (hb : b < 2 ^ 31) (he : min b a = c) (kk : Wp d j pc' ls (.int (nI c) :: st) M L Q) : Wp d j pc ls (.int (nI b) :: .int (nI a) :: st) M L Q := by
  refine w_min pc' h hc hs ?_
  have e : (if nI b < nI a then nI b else nI a) = nI c := by
    rw [← he]
    by_cases hh : b < a
    · rw [if_pos ((nI_ltI hb ha).mpr hh), Nat.min_eq_left (by omega)]
    · rw [if_neg (fun z => hh ((nI_ltI hb ha).mp z)), Nat.min_eq_right (by omega)]
  rw [e]; exact kk
end WpK
theorem rg_h {h n : Nat} (hh : Hs h) (hn : n ≤ 5) : Rg h 2 (nI n) := by
  have := hh.2
  unfold isHs at this
  refine ⟨fun a => ?_, fun _ _ => ⟨n, hn, rfl⟩, fun a => ?_, fun a => ?_, fun a => ?_, fun a => ?_, fun a => ?_, fun a => ?_, fun a => ?_, fun a => ?_, fun a => ?_⟩ <;> (exfalso; (try unfold isScr at a); omega)
theorem rg_s {s n : Nat} (hh : Sc s) (hn : n ≤ 24) : Rg s 1 (nI n) := by
  have := hh.2
  unfold isScr at this
  refine ⟨fun _ _ => ⟨n, hn, rfl⟩, fun a => ?_, fun a => ?_, fun a => ?_, fun a => ?_, fun a => ?_, fun a => ?_, fun a => ?_, fun a => ?_, fun a => ?_, fun a => ?_⟩ <;> (exfalso; (try unfold isHs at a); omega)
theorem rg_0 {k : Nat} {x : Int32} (hk : k ≠ 14) : Rg 0 k x := by
  refine ⟨fun a => ?_, fun a => ?_, fun _ a => absurd a hk, fun a => ?_, fun a => ?_, fun a => ?_, fun a => ?_, fun a => ?_, fun a => ?_, fun a => ?_, fun a => ?_⟩ <;> (exfalso; (try unfold isHs at a); (try unfold isScr at a); omega)
theorem rg_acts {n : Nat} (hn : n ≤ 12) : Rg 0 14 (nI n) := by
  refine ⟨fun a => ?_, fun a => ?_, fun _ _ => ⟨n, hn, rfl⟩, fun a => ?_, fun a => ?_, fun a => ?_, fun a => ?_, fun a => ?_, fun a => ?_, fun a => ?_, fun a => ?_⟩ <;> (exfalso; (try unfold isHs at a); (try unfold isScr at a); omega)
theorem rg_sz {n : Nat} (hn : n ≤ 6) : Rg 64 2 (nI n) := by
  refine ⟨fun a => ?_, fun a => ?_, fun a => ?_, fun _ _ => ⟨n, hn, rfl⟩, fun a => ?_, fun a => ?_, fun a => ?_, fun a => ?_, fun a => ?_, fun a => ?_, fun a => ?_⟩ <;> (exfalso; (try unfold isHs at a); (try unfold isScr at a); omega)
section WpQ
variable {d j pc : Nat} {ls st : List Value} {M : Mt} {L : Lt} {Q : Option Value → Mt → Lt → Prop}
theorem w_putLW {ci k a : Nat} {dl : List Nat} {v : Int64} (pc' : Nat) (h : pB j pc ci k .long pc' = true) (hs : shp[a]? = some (ci, dl)) (hd : dl[k]? = some 1) (ho : ∀ z, dl[z]? = some 1 → z = k) (kk : ∀ L' : Lt, Wp d j pc' ls st M L' Q) : Wp d j pc ls (.long v :: .ref a :: st) M L Q := w_putL pc' h hs hd ho (kk _)
theorem w_shl1 {w : Nat} (pc' : Nat) (h : isI j pc .ishl pc' = true) (hw : w ≤ 8) (kk : ∀ p : Nat, 1 ≤ p ∧ p ≤ 256 → Wp d j pc' ls (.int (nI p) :: st) M L Q) : Wp d j pc ls (.int (nI w) :: .int (nI 1) :: st) M L Q := by
  refine w_pure .ishl pc' h rfl rfl ?_
  have e : nI 1 <<< (nI w &&& 31) = nI (2 ^ w) := by
    rcases (by omega : w = 0 ∨ w = 1 ∨ w = 2 ∨ w = 3 ∨ w = 4 ∨ w = 5 ∨ w = 6 ∨ w = 7 ∨ w = 8) with rfl | rfl | rfl | rfl | rfl | rfl | rfl | rfl | rfl <;> decide
  rw [e]
  exact kk _ ⟨Nat.one_le_two_pow, Nat.le_trans (Nat.pow_le_pow_right (by decide) hw) (by decide)⟩
end WpQ
theorem shf_58 : isShelf 58 204 := ⟨rfl, rfl⟩
theorem shf_60 : isShelf 60 34 := ⟨rfl, rfl⟩
theorem shf_62 : isShelf 62 1020 := ⟨rfl, rfl⟩
theorem dec_mu {y : Int32} (h : ¬ y ≤ nI 1) : (y + Int32.ofInt (-1)).toInt.toNat < y.toInt.toNat := by
  have h1 : 1 < y.toInt := by
    have h2 := Int32.not_le.mp h
    have h3 := Int32.lt_iff_toInt_lt.mp h2
    have h4 : (nI 1).toInt = 1 := by decide
    omega
  have h5 : (y + Int32.ofInt (-1)).toInt = y.toInt - 1 := by
    rw [Int32.toInt_add]
    have h6 : (Int32.ofInt (-1)).toInt = -1 := by decide
    have h7 := Int32.toInt_lt y
    have h8 := Int32.le_toInt y
    rw [h6]
    rw [Int.bmod_eq_of_le] <;> omega
  omega
theorem ne_gt1 {y : Int32} (h : ¬ y ≤ nI 1) : ¬ y = 0 := by
  rintro rfl
  exact h (by decide)
theorem rng_le1 {f : Int32} {m : Nat} (h1 : ¬ f < nI 1) (h2 : f ≤ nI m) (hm : m < 2 ^ 31) : ∃ k, k ≤ m ∧ f = nI k := by
  have h0 : ¬ f < 0 := by
    intro h
    apply h1
    have a1 := Int32.lt_iff_toInt_lt.mp h
    apply Int32.lt_iff_toInt_lt.mpr
    have a2 : (nI 1).toInt = 1 := by decide
    have a3 : (0 : Int32).toInt = 0 := by decide
    omega
  obtain ⟨k, hk, rfl⟩ := nI_of h0
  exact ⟨k, (nI_leI hk hm).mp h2, rfl⟩
section WpR
variable {d j pc : Nat} {ls st : List Value} {M : Mt} {L : Lt} {Q : Option Value → Mt → Lt → Prop}
theorem le0_nI {a : Nat} (ha : a < 2 ^ 31) : nI a ≤ 0 ↔ a = 0 := by
  have h := nI_leI ha (show 0 < 2 ^ 31 by decide)
  rw [nI_0] at h
  rw [h]; omega
theorem gt0_nI {a : Nat} (ha : a < 2 ^ 31) : 0 < nI a ↔ 0 < a := by
  have h := nI_ltI (show 0 < 2 ^ 31 by decide) ha
  rw [nI_0] at h
  exact h
theorem w_ileN {a : Nat} (t f : Nat) (h : ifB j pc .le t f = true) (ha : a < 2 ^ 31) (kt : a = 0 → Wp d j t ls st M L Q) (kf : 0 < a → Wp d j f ls st M L Q) : Wp d j pc ls (.int (nI a) :: st) M L Q := w_ile t f h (fun z => kt ((le0_nI ha).mp z)) (fun z => kf (by have : ¬ a = 0 := fun e => z ((le0_nI ha).mpr e); omega))
theorem w_igtN {a : Nat} (t f : Nat) (h : ifB j pc .gt t f = true) (ha : a < 2 ^ 31) (kt : 0 < a → Wp d j t ls st M L Q) (kf : a = 0 → Wp d j f ls st M L Q) : Wp d j pc ls (.int (nI a) :: st) M L Q := w_igt t f h (fun z => kt ((gt0_nI ha).mp z)) (fun z => kf (by have : ¬ 0 < a := fun e => z ((gt0_nI ha).mpr e); omega))
end WpR
