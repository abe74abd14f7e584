/-! what the reference's walks need -/
theorem rg_76 {k : Nat} {x : Int32} (hk : k ≠ 0 ∧ k ≠ 4 ∧ k ≠ 9 ∧ k ≠ 15) : Rg 76 k x := by
  refine ⟨fun a => ?_, fun a => ?_, fun a => ?_, fun a => ?_, fun _ => ⟨fun a => absurd a hk.1, fun a => absurd a hk.2.1, fun a => absurd a hk.2.2.1, fun a => absurd a hk.2.2.2⟩, fun a => ?_, fun a => ?_, fun a => ?_, fun a => ?_, fun a => ?_, fun a => ?_⟩ <;> (exfalso; (try unfold isHs at a); (try unfold isScr at a); omega)
theorem rg_76n {k n B : Nat} (hn : n ≤ B) (hk : (k = 0 ∧ B = 5) ∨ (k = 4 ∧ B = 24) ∨ (k = 9 ∧ B = 11) ∨ (k = 15 ∧ B = 6)) : Rg 76 k (nI n) := by
  refine ⟨fun a => ?_, fun a => ?_, fun a => ?_, fun a => ?_, fun _ => ⟨fun a => ⟨n, by omega, rfl⟩, fun a => ⟨n, by omega, rfl⟩, fun a => ⟨n, by omega, rfl⟩, fun a => ⟨n, by omega, rfl⟩⟩, fun a => ?_, fun a => ?_, fun a => ?_, fun a => ?_, fun a => ?_, fun a => ?_⟩ <;> (exfalso; (try unfold isHs at a); (try unfold isScr at a); omega)
theorem rg_81 {k n : Nat} (hn : n ≤ 24) : Rg 81 k (nI n) := by
  refine ⟨fun a => ?_, fun a => ?_, fun a => ?_, fun a => ?_, fun a => ?_, fun _ => ⟨n, hn, rfl⟩, fun a => ?_, fun a => ?_, fun a => ?_, fun a => ?_, fun a => ?_⟩ <;> (exfalso; (try unfold isHs at a); (try unfold isScr at a); omega)
theorem rg_86 {k n : Nat} (hn : n ≤ 4) : Rg 86 k (nI n) := by
  refine ⟨fun a => ?_, fun a => ?_, fun a => ?_, fun a => ?_, fun a => ?_, fun a => ?_, fun _ => ⟨n, hn, rfl⟩, fun a => ?_, fun a => ?_, fun a => ?_, fun a => ?_⟩ <;> (exfalso; (try unfold isHs at a); (try unfold isScr at a); omega)
theorem rg_85 {k n : Nat} (hn : n ≤ 10) : Rg 85 k (nI n) := by
  refine ⟨fun a => ?_, fun a => ?_, fun a => ?_, fun a => ?_, fun a => ?_, fun a => ?_, fun a => ?_, fun _ => ⟨n, hn, rfl⟩, fun a => ?_, fun a => ?_, fun a => ?_⟩ <;> (exfalso; (try unfold isHs at a); (try unfold isScr at a); omega)
theorem rg_78 {k : Nat} {x : Int32} (h : 10 ≤ k % 22 → k % 22 ≤ 14 → wedv x) : Rg 78 k x := by
  refine ⟨fun a => ?_, fun a => ?_, fun a => ?_, fun a => ?_, fun a => ?_, fun a => ?_, fun a => ?_, fun a => ?_, fun _ => h, fun a => ?_, fun a => ?_⟩ <;> (exfalso; (try unfold isHs at a); (try unfold isScr at a); omega)
theorem rg_82 {k : Nat} {x : Int32} (h : 10 ≤ k % 17 → k % 17 ≤ 14 → wedv x) : Rg 82 k x := by
  refine ⟨fun a => ?_, fun a => ?_, fun a => ?_, fun a => ?_, fun a => ?_, fun a => ?_, fun a => ?_, fun a => ?_, fun a => ?_, fun _ => h, fun a => ?_⟩ <;> (exfalso; (try unfold isHs at a); (try unfold isScr at a); omega)
theorem rg_89 {k : Nat} {x : Int32} (h : 10 ≤ k % 17 → k % 17 ≤ 14 → wedv x) : Rg 89 k x := by
  refine ⟨fun a => ?_, fun a => ?_, fun a => ?_, fun a => ?_, fun a => ?_, fun a => ?_, fun a => ?_, fun a => ?_, fun a => ?_, fun a => ?_, fun _ => h⟩ <;> (exfalso; (try unfold isHs at a); (try unfold isScr at a); omega)
theorem inv_82 {M : Mt} (hI : Inv M) (k : Nat) (h1 : 10 ≤ k % 17) (h2 : k % 17 ≤ 14) : wedv (M 82 k) := (hI 82 k).2.2.2.2.2.2.2.2.2.1 rfl h1 h2
theorem inv_89 {M : Mt} (hI : Inv M) (k : Nat) (h1 : 10 ≤ k % 17) (h2 : k % 17 ≤ 14) : wedv (M 89 k) := (hI 89 k).2.2.2.2.2.2.2.2.2.2 rfl h1 h2
/-- bit k of a -/
def hb (a : Int32) (k : Nat) : Prop := (a >>> (nI k &&& 31)) &&& nI 1 = nI 1
theorem and1 (x : Int32) : x &&& nI 1 = nI 0 ∨ x &&& nI 1 = nI 1 := by
  obtain ⟨j, h1, h2⟩ := pk_andE x (m := nI 1) 1 (by decide)
  rw [h2]
  rcases (by omega : j = 0 ∨ j = 1) with rfl | rfl
  · exact Or.inl rfl
  · exact Or.inr rfl
theorem or_0 (x : Int32) : x ||| nI 0 = x := by
  have : nI 0 = 0 := rfl
  rw [this]
  exact Int32.or_zero
def tb (x : Int32) (i : Nat) : Bool := x.toBitVec.getLsbD i
theorem hb_iff (a : Int32) {k : Nat} (hk : k < 32) : hb a k ↔ tb a k = true := by
  have key : ((a >>> (nI k &&& 31)) &&& nI 1).toBitVec = (BitVec.ofBool (tb a k)).setWidth 32 := by
    apply BitVec.eq_of_getLsbD_eq
    intro i hi
    have hs : ((nI k &&& 31).toBitVec.smod 32).toNat = k := (by decide +kernel : ∀ k, k < 32 → ((nI k &&& 31).toBitVec.smod 32).toNat = k) k hk
    have h1 : (nI 1).toBitVec.getLsbD i = decide (i = 0) := by
      match i with
      | 0 => rfl
      | i + 1 =>
        have : (nI 1).toBitVec = 1#32 := rfl
        rw [this]
        simp
    rw [Int32.toBitVec_and, BitVec.getLsbD_and, h1]
    have h2 : (a >>> (nI k &&& 31)).toBitVec = a.toBitVec.sshiftRight k := by
      show a.toBitVec.sshiftRight' ((nI k &&& 31).toBitVec.smod 32) = _
      rw [BitVec.sshiftRight', hs]
    rw [h2]
    by_cases hi0 : i = 0
    · subst hi0
      have h3 : (a.toBitVec.sshiftRight k).getLsbD 0 = tb a k := by
        rw [BitVec.getLsbD_sshiftRight]
        simp [tb, hk]
      rw [h3]
      cases tb a k <;> rfl
    · simp [hi0]
  unfold hb
  constructor
  · intro h
    rw [h] at key
    cases hc : tb a k with
    | true => rfl
    | false =>
      rw [hc] at key
      exact absurd key (by decide)
  · intro h
    rw [h] at key
    apply Int32.toBitVec_inj.mp
    rw [key]
    decide
theorem hb_bit (a : Int32) {g : Nat} (hg : g < 5) : hb (a ||| (nI 1 <<< (nI g &&& 31))) g := by
  rw [hb_iff _ (by omega)]
  unfold tb
  rw [Int32.toBitVec_or, BitVec.getLsbD_or]
  have : (nI 1 <<< (nI g &&& 31)).toBitVec.getLsbD g = true := by
    rcases (by omega : g = 0 ∨ g = 1 ∨ g = 2 ∨ g = 3 ∨ g = 4) with rfl | rfl | rfl | rfl | rfl <;> decide
  rw [this, Bool.or_true]
/-- no bit, or one of the first five -/
def bits5 (x : Int32) : Prop := x = 0 ∨ ∃ k, k < 5 ∧ hb x k
theorem bits5_or {x : Int32} {g : Nat} (hg : g < 5) : bits5 (x ||| (nI 1 <<< (nI g &&& 31))) := Or.inr ⟨g, hg, hb_bit x hg⟩
theorem no_least {x : Int32} (h1 : bits5 x) (h2 : ¬ x = 0) (h3 : ∀ k, k < 5 → ¬ hb x k) : False := by
  rcases h1 with h | ⟨k, hk, h⟩
  · exact h2 h
  · exact h3 k hk h
theorem cmp_lt {x y : Int64} (h : ¬ lg_cmp x y < 0) : y ≤ x := by
  unfold lg_cmp at h
  by_cases h1 : x > y
  · exact Int64.le_of_lt h1
  · rw [if_neg h1] at h
    by_cases h2 : x = y
    · rw [h2]; exact Int64.le_refl _
    · rw [if_neg h2] at h
      exact absurd (by decide : (-1 : Int32) < 0) h
theorem cmp_gt {x y : Int64} (h : ¬ 0 < lg_cmp x y) : x ≤ y := by
  unfold lg_cmp at h
  by_cases h1 : x > y
  · rw [if_pos h1] at h
    exact absurd (by decide : (0 : Int32) < 1) h
  · exact Int64.not_lt.mp h1
theorem cmp_lt' {x y : Int64} (h : lg_cmp x y < 0) : ¬ y ≤ x := by
  unfold lg_cmp at h
  by_cases h1 : x > y
  · rw [if_pos h1] at h
    exact absurd h (by decide)
  · rw [if_neg h1] at h
    by_cases h2 : x = y
    · rw [if_pos h2] at h
      exact absurd h (by decide)
    · intro h3
      have a1 := Int64.le_iff_toInt_le.mp h3
      have a2 := Int64.le_iff_toInt_le.mp (Int64.not_lt.mp h1)
      exact h2 (Int64.toInt_inj.mp (by omega))
theorem cmp_gt' {x y : Int64} (h : 0 < lg_cmp x y) : ¬ x ≤ y := by
  unfold lg_cmp at h
  by_cases h1 : x > y
  · exact Int64.not_le.mpr h1
  · rw [if_neg h1] at h
    by_cases h2 : x = y
    · rw [if_pos h2] at h
      exact absurd h (by decide)
    · rw [if_neg h2] at h
      exact absurd h (by decide)
theorem in_k {x : Int32} {y z : Int64} {lo hi : Nat} (h1 : y ≤ x.toInt64) (h2 : x.toInt64 ≤ z) (hk : y.toInt = lo ∧ z.toInt = hi ∧ hi < 2 ^ 31) : ∃ k, lo ≤ k ∧ k ≤ hi ∧ x = nI k := by
  have a1 := Int64.le_iff_toInt_le.mp h1
  have a2 := Int64.le_iff_toInt_le.mp h2
  rw [Int32.toInt_toInt64] at a1 a2
  refine ⟨x.toInt.toNat, by omega, by omega, ?_⟩
  apply Int32.toInt_inj.mp
  rw [nI_toInt (by omega)]
  omega
theorem in_no {x : Int32} {y z : Int64} {B : Nat} (h : ¬ (y ≤ x.toInt64 ∧ x.toInt64 ≤ z)) (hk : y.toInt = 0 ∧ z.toInt + 1 = B ∧ B < 2 ^ 31) : ¬ ∃ k, k < B ∧ x = nI k := by
  rintro ⟨k, hk2, rfl⟩
  apply h
  have e := nI_toInt (show k < 2 ^ 31 by omega)
  constructor
  · apply Int64.le_iff_toInt_le.mpr
    rw [Int32.toInt_toInt64]; omega
  · apply Int64.le_iff_toInt_le.mpr
    rw [Int32.toInt_toInt64]; omega
theorem nI_nz {n : Nat} (h : 0 < n) (h2 : n < 2 ^ 31) : ¬ nI n = 0 := by
  intro e
  have h3 := nI_toInt h2
  rw [e] at h3
  have h4 : (0 : Int32).toInt = 0 := by decide
  omega
theorem dec_mu0 {y : Int32} (h : ¬ y < 0) : ((y + Int32.ofInt (-1)).toInt + 1).toNat < (y.toInt + 1).toNat := by
  have h1 : 0 ≤ y.toInt := by
    have h2 := Int32.not_lt.mp h
    have h3 := Int32.le_iff_toInt_le.mp h2
    have h4 : (0 : Int32).toInt = 0 := by decide
    omega
  have h5 : (y + Int32.ofInt (-1)).toInt = y.toInt - 1 := by
    rw [Int32.toInt_add]
    have h6 : (Int32.ofInt (-1)).toInt = -1 := by decide
    have h7 := Int32.toInt_lt y
    have h8 := Int32.le_toInt y
    rw [h6]
    rw [Int.bmod_eq_of_le] <;> omega
  omega
section WpM
variable {d j pc : Nat} {ls st : List Value} {M : Mt} {L : Lt} {Q : Option Value → Mt → Lt → Prop}
theorem w_and1 {x : Int32} (pc' : Nat) (h : isI j pc .iand pc' = true) (kk : ∀ b : Nat, b ≤ 1 → Wp d j pc' ls (.int (nI b) :: st) M L Q) : Wp d j pc ls (.int (nI 1) :: .int x :: st) M L Q := by
  refine w_pure .iand pc' h rfl rfl ?_
  rcases and1 x with e | e
  · rw [e]; exact kk 0 (by decide)
  · rw [e]; exact kk 1 (by decide)
theorem w_ialdK {a n k v : Nat} (pc' : Nat) (h : isI j pc .iaload pc' = true) (hs : shp[a]? = some (100, List.replicate n 0)) (hn : n < 2 ^ 31) (hk : k < n) (hv : M a k = nI v) (kk : Wp d j pc' ls (.int (nI v) :: st) M L Q) : Wp d j pc ls (.int (nI k) :: .ref a :: st) M L Q := by
  refine w_ialdN pc' h hs hn hk ?_
  rw [hv]; exact kk
end WpM
