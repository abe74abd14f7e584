-- X8_act
set_option maxRecDepth 10000 in
theorem k_156 {d : Nat} {M : Mt} {L : Lt} {Q : Option Value → Mt → Lt → Prop} {lv dr : Nat} {a : Int32} {o : Int32} (hI : Inv M) (hlv : lv ≤ 7) (hdr : dr < 5) (ho : o = -9 ∨ ∃ z, z < 5 ∧ o = nI z) (hd : 0 ≤ d) (hq : ∀ (r : Int32) (N : Mt), St (fun i k => (i = 78 ∧ 22 * lv ≤ k ∧ k < 22 * lv + 22)) M N → (r = 0 ∨ r = 1) → Q (some (.int r)) N L) : Wp d 156 0 [.ref 76, .int (nI lv), .int a, .int (nI dr), .int o, .null, .null, .null, .null] [] M L Q := by
  refine (show ∀ N : Mt, N = M → St (fun i k => (i = 78 ∧ 22 * lv ≤ k ∧ k < 22 * lv + 22)) M N → Wp d 156 0 [.ref 76, .int (nI lv), .int a, .int (nI dr), .int o, .null, .null, .null, .null] [] N L Q from ?_) M rfl (St.rf hI)
  intro N hNM hS
  refine w_pushN 22 2 (by decide +kernel) ?_
  refine w_load (.iload_n 1) 3 (by decide +kernel) rfl rfl ?_
  refine w_mulN (22 * lv) 4 (by decide +kernel) rfl ?_
  refine w_store (ls' := [.ref 76, .int (nI lv), .int a, .int (nI dr), .int o, .int (nI (22 * lv)), .null, .null, .null]) (.istore 5) 6 (by decide +kernel) rfl rfl ?_
  refine w_load (.iload_n 2) 7 (by decide +kernel) rfl rfl ?_
  refine w_pushN 16 9 (by decide +kernel) ?_
  refine w_div 10 (by decide +kernel) (by decide) ?_
  refine w_topi (fun v1 ev1 => ?_)
  refine w_store (ls' := [.ref 76, .int (nI lv), .int a, .int (nI dr), .int o, .int (nI (22 * lv)), .int v1, .null, .null]) (.istore 6) 12 (by decide +kernel) rfl rfl ?_
  refine w_load (.iload 4) 14 (by decide +kernel) rfl rfl ?_
  refine w_push (-9) 16 (by decide +kernel) ?_
  refine w_ceq 84 19 (by decide +kernel) (fun h2 => ?_) (fun h2 => ?_)
  · skip
    refine w_pushN 0 85 (by decide +kernel) ?_
    refine w_store (ls' := [.ref 76, .int (nI lv), .int a, .int (nI dr), .int o, .int (nI (22 * lv)), .int v1, .int (nI 0), .null]) (.istore 7) 87 (by decide +kernel) rfl rfl ?_
    refine w_load (.iload 7) 89 (by decide +kernel) rfl rfl ?_
    refine w_ine 109 92 (by decide +kernel) (fun hz => absurd hz (by decide)) (fun _ => ?_)
    refine w_load (.aload_n 0) 93 (by decide +kernel) rfl rfl ?_
    refine w_getR (k := 2) (r := 78) 96 (by decide +kernel) sh_76 rfl ?_
    refine w_load (.iload 5) 98 (by decide +kernel) rfl rfl ?_
    refine w_pushN 5 99 (by decide +kernel) ?_
    refine w_addN (22 * lv + 5) 100 (by decide +kernel) (by omega) ?_
    refine w_load (.iload_n 3) 101 (by decide +kernel) rfl rfl ?_
    refine w_addN (22 * lv + 5 + dr) 102 (by decide +kernel) (by omega) ?_
    refine w_pure .dup2 103 (by decide +kernel) rfl rfl ?_
    refine w_ialdN 104 (by decide +kernel) sh_78 (by omega) (by omega) ?_
    refine w_pushN 1 105 (by decide +kernel) ?_
    refine w_pure .isub 106 (by decide +kernel) rfl rfl ?_
    refine w_iastE 107 (by decide +kernel) sh_78 (by omega) (by omega) hS (rg_78 (fun h1 h2 => by first | omega | exact Or.inl rfl | exact Or.inr ⟨_, by omega, rfl⟩ | exact inv_78 hS.1 _ (by omega) (by omega) | exact inv_82 hS.1 _ (by omega) (by omega) | exact inv_89 hS.1 _ (by omega) (by omega))) (by first | exact rfl | omega | (dsimp only; omega) | (simp only [Hs, Tl, Sc, isHs, isScr, isTs] at *; omega)) (fun Nq4 hS hq4 oq4 mq4 => ?_)
    refine w_pushN 0 108 (by decide +kernel) ?_
    exact w_retZ (by decide +kernel) (Or.inl rfl) (hq _ Nq4 hS (Or.inl rfl))
  · skip
    obtain ⟨k5, hk5, rfl⟩ := ho.resolve_left h2
    refine w_load (.iload 6) 21 (by decide +kernel) rfl rfl ?_
    refine w_pushN 1 22 (by decide +kernel) ?_
    refine w_cne 60 25 (by decide +kernel) (fun h6 => ?_) (fun h6 => ?_)
    · skip
      refine w_load (.iload 6) 62 (by decide +kernel) rfl rfl ?_
      refine w_pushN 2 63 (by decide +kernel) ?_
      refine w_cne 80 66 (by decide +kernel) (fun h7 => ?_) (fun h7 => ?_)
      · skip
        refine w_pushN 1 81 (by decide +kernel) ?_
        refine w_goto 85 (by decide +kernel) ?_
        refine w_store (ls' := [.ref 76, .int (nI lv), .int a, .int (nI dr), .int (nI k5), .int (nI (22 * lv)), .int v1, .int (nI 1), .null]) (.istore 7) 87 (by decide +kernel) rfl rfl ?_
        refine w_load (.iload 7) 89 (by decide +kernel) rfl rfl ?_
        refine w_ine 109 92 (by decide +kernel) (fun _ => ?_) (fun hz => absurd hz (by decide))
        refine w_load (.aload_n 0) 110 (by decide +kernel) rfl rfl ?_
        refine w_getR (k := 2) (r := 78) 113 (by decide +kernel) sh_76 rfl ?_
        refine w_load (.iload 5) 115 (by decide +kernel) rfl rfl ?_
        refine w_pushN 17 117 (by decide +kernel) ?_
        refine w_addN (22 * lv + 17) 118 (by decide +kernel) (by omega) ?_
        refine w_load (.iload_n 3) 119 (by decide +kernel) rfl rfl ?_
        refine w_addN (22 * lv + 17 + dr) 120 (by decide +kernel) (by omega) ?_
        refine w_pure .dup2 121 (by decide +kernel) rfl rfl ?_
        refine w_ialdN 122 (by decide +kernel) sh_78 (by omega) (by omega) ?_
        refine w_pushN 1 123 (by decide +kernel) ?_
        refine w_pure .isub 124 (by decide +kernel) rfl rfl ?_
        refine w_iastE 125 (by decide +kernel) sh_78 (by omega) (by omega) hS (rg_78 (fun h1 h2 => by first | omega | exact Or.inl rfl | exact Or.inr ⟨_, by omega, rfl⟩ | exact inv_78 hS.1 _ (by omega) (by omega) | exact inv_82 hS.1 _ (by omega) (by omega) | exact inv_89 hS.1 _ (by omega) (by omega))) (by first | exact rfl | omega | (dsimp only; omega) | (simp only [Hs, Tl, Sc, isHs, isScr, isTs] at *; omega)) (fun Nq9 hS hq9 oq9 mq9 => ?_)
        refine w_load (.iload 6) 127 (by decide +kernel) rfl rfl ?_
        refine w_ine 204 130 (by decide +kernel) (fun h10 => ?_) (fun h10 => ?_)
        · skip
          refine w_load (.iload 6) 206 (by decide +kernel) rfl rfl ?_
          refine w_pushN 1 207 (by decide +kernel) ?_
          refine w_cne 241 210 (by decide +kernel) (fun h11 => ?_) (fun h11 => ?_)
          · skip
            refine w_load (.iload 6) 243 (by decide +kernel) rfl rfl ?_
            refine w_pushN 2 244 (by decide +kernel) ?_
            refine w_cne 281 247 (by decide +kernel) (fun h12 => ?_) (fun h12 => ?_)
            · skip
              refine w_load (.aload_n 0) 282 (by decide +kernel) rfl rfl ?_
              refine w_getR (k := 2) (r := 78) 285 (by decide +kernel) sh_76 rfl ?_
              refine w_load (.iload 5) 287 (by decide +kernel) rfl rfl ?_
              refine w_load (.iload_n 3) 288 (by decide +kernel) rfl rfl ?_
              refine w_addN (22 * lv + dr) 289 (by decide +kernel) (by omega) ?_
              refine w_load (.iload_n 2) 290 (by decide +kernel) rfl rfl ?_
              refine w_pushN 4 291 (by decide +kernel) ?_
              refine w_rem 292 (by decide +kernel) (by decide) ?_
              refine w_iastE 293 (by decide +kernel) sh_78 (by omega) (by omega) hS (rg_78 (fun h1 h2 => by first | omega | exact Or.inl rfl | exact Or.inr ⟨_, by omega, rfl⟩ | exact inv_78 hS.1 _ (by omega) (by omega) | exact inv_82 hS.1 _ (by omega) (by omega) | exact inv_89 hS.1 _ (by omega) (by omega))) (by first | exact rfl | omega | (dsimp only; omega) | (simp only [Hs, Tl, Sc, isHs, isScr, isTs] at *; omega)) (fun Nq13 hS hq13 oq13 mq13 => ?_)
              refine w_pushN 1 294 (by decide +kernel) ?_
              exact w_retZ (by decide +kernel) (Or.inr rfl) (hq _ Nq13 hS (Or.inr rfl))
            · skip
              refine w_load (.aload_n 0) 248 (by decide +kernel) rfl rfl ?_
              refine w_getR (k := 2) (r := 78) 251 (by decide +kernel) sh_76 rfl ?_
              refine w_load (.iload 5) 253 (by decide +kernel) rfl rfl ?_
              refine w_pushN 5 254 (by decide +kernel) ?_
              refine w_addN (22 * lv + 5) 255 (by decide +kernel) (by omega) ?_
              refine w_load (.iload_n 3) 256 (by decide +kernel) rfl rfl ?_
              refine w_addN (22 * lv + 5 + dr) 257 (by decide +kernel) (by omega) ?_
              refine w_pure .dup2 258 (by decide +kernel) rfl rfl ?_
              refine w_ialdN 259 (by decide +kernel) sh_78 (by omega) (by omega) ?_
              refine w_pushN 1 260 (by decide +kernel) ?_
              refine w_pure .isub 261 (by decide +kernel) rfl rfl ?_
              refine w_iastE 262 (by decide +kernel) sh_78 (by omega) (by omega) hS (rg_78 (fun h1 h2 => by first | omega | exact Or.inl rfl | exact Or.inr ⟨_, by omega, rfl⟩ | exact inv_78 hS.1 _ (by omega) (by omega) | exact inv_82 hS.1 _ (by omega) (by omega) | exact inv_89 hS.1 _ (by omega) (by omega))) (by first | exact rfl | omega | (dsimp only; omega) | (simp only [Hs, Tl, Sc, isHs, isScr, isTs] at *; omega)) (fun Nq14 hS hq14 oq14 mq14 => ?_)
              refine w_load (.aload_n 0) 263 (by decide +kernel) rfl rfl ?_
              refine w_getR (k := 2) (r := 78) 266 (by decide +kernel) sh_76 rfl ?_
              refine w_load (.iload 5) 268 (by decide +kernel) rfl rfl ?_
              refine w_pushN 5 269 (by decide +kernel) ?_
              refine w_addN (22 * lv + 5) 270 (by decide +kernel) (by omega) ?_
              refine w_load (.iload 4) 272 (by decide +kernel) rfl rfl ?_
              refine w_addN (22 * lv + 5 + k5) 273 (by decide +kernel) (by omega) ?_
              refine w_pure .dup2 274 (by decide +kernel) rfl rfl ?_
              refine w_ialdN 275 (by decide +kernel) sh_78 (by omega) (by omega) ?_
              refine w_pushN 1 276 (by decide +kernel) ?_
              refine w_pure .iadd 277 (by decide +kernel) rfl rfl ?_
              refine w_iastE 278 (by decide +kernel) sh_78 (by omega) (by omega) hS (rg_78 (fun h1 h2 => by first | omega | exact Or.inl rfl | exact Or.inr ⟨_, by omega, rfl⟩ | exact inv_78 hS.1 _ (by omega) (by omega) | exact inv_82 hS.1 _ (by omega) (by omega) | exact inv_89 hS.1 _ (by omega) (by omega))) (by first | exact rfl | omega | (dsimp only; omega) | (simp only [Hs, Tl, Sc, isHs, isScr, isTs] at *; omega)) (fun Nq15 hS hq15 oq15 mq15 => ?_)
              refine w_goto 293 (by decide +kernel) ?_
              refine w_pushN 1 294 (by decide +kernel) ?_
              exact w_retZ (by decide +kernel) (Or.inr rfl) (hq _ Nq15 hS (Or.inr rfl))
          · skip
            refine w_load (.aload_n 0) 211 (by decide +kernel) rfl rfl ?_
            refine w_getR (k := 2) (r := 78) 214 (by decide +kernel) sh_76 rfl ?_
            refine w_load (.iload 5) 216 (by decide +kernel) rfl rfl ?_
            refine w_pushN 10 218 (by decide +kernel) ?_
            refine w_addN (22 * lv + 10) 219 (by decide +kernel) (by omega) ?_
            refine w_load (.iload_n 3) 220 (by decide +kernel) rfl rfl ?_
            refine w_addN (22 * lv + 10 + dr) 221 (by decide +kernel) (by omega) ?_
            refine w_load (.iload 4) 223 (by decide +kernel) rfl rfl ?_
            refine w_iastE 224 (by decide +kernel) sh_78 (by omega) (by omega) hS (rg_78 (fun h1 h2 => by first | omega | exact Or.inl rfl | exact Or.inr ⟨_, by omega, rfl⟩ | exact inv_78 hS.1 _ (by omega) (by omega) | exact inv_82 hS.1 _ (by omega) (by omega) | exact inv_89 hS.1 _ (by omega) (by omega))) (by first | exact rfl | omega | (dsimp only; omega) | (simp only [Hs, Tl, Sc, isHs, isScr, isTs] at *; omega)) (fun Nq16 hS hq16 oq16 mq16 => ?_)
            refine w_load (.aload_n 0) 225 (by decide +kernel) rfl rfl ?_
            refine w_getR (k := 2) (r := 78) 228 (by decide +kernel) sh_76 rfl ?_
            refine w_load (.iload 5) 230 (by decide +kernel) rfl rfl ?_
            refine w_pushN 10 232 (by decide +kernel) ?_
            refine w_addN (22 * lv + 10) 233 (by decide +kernel) (by omega) ?_
            refine w_load (.iload 4) 235 (by decide +kernel) rfl rfl ?_
            refine w_addN (22 * lv + 10 + k5) 236 (by decide +kernel) (by omega) ?_
            refine w_load (.iload_n 3) 237 (by decide +kernel) rfl rfl ?_
            refine w_iastE 238 (by decide +kernel) sh_78 (by omega) (by omega) hS (rg_78 (fun h1 h2 => by first | omega | exact Or.inl rfl | exact Or.inr ⟨_, by omega, rfl⟩ | exact inv_78 hS.1 _ (by omega) (by omega) | exact inv_82 hS.1 _ (by omega) (by omega) | exact inv_89 hS.1 _ (by omega) (by omega))) (by first | exact rfl | omega | (dsimp only; omega) | (simp only [Hs, Tl, Sc, isHs, isScr, isTs] at *; omega)) (fun Nq17 hS hq17 oq17 mq17 => ?_)
            refine w_goto 293 (by decide +kernel) ?_
            refine w_pushN 1 294 (by decide +kernel) ?_
            exact w_retZ (by decide +kernel) (Or.inr rfl) (hq _ Nq17 hS (Or.inr rfl))
        · skip
          refine w_load (.aload_n 0) 131 (by decide +kernel) rfl rfl ?_
          refine w_getR (k := 2) (r := 78) 134 (by decide +kernel) sh_76 rfl ?_
          refine w_load (.iload 5) 136 (by decide +kernel) rfl rfl ?_
          refine w_pushN 10 138 (by decide +kernel) ?_
          refine w_addN (22 * lv + 10) 139 (by decide +kernel) (by omega) ?_
          refine w_load (.iload 4) 141 (by decide +kernel) rfl rfl ?_
          refine w_addN (22 * lv + 10 + k5) 142 (by decide +kernel) (by omega) ?_
          refine w_ialdN 143 (by decide +kernel) sh_78 (by omega) (by omega) ?_
          refine w_topi (fun v18 ev18 => ?_)
          refine w_store (ls' := [.ref 76, .int (nI lv), .int a, .int (nI dr), .int (nI k5), .int (nI (22 * lv)), .int v1, .int (nI 1), .int v18]) (.istore 8) 145 (by decide +kernel) rfl rfl ?_
          have hwv18 : wedv v18 := by rw [ev18]; exact inv_78 hS.1 _ (by omega) (by omega)
          refine w_load (.aload_n 0) 146 (by decide +kernel) rfl rfl ?_
          refine w_getR (k := 2) (r := 78) 149 (by decide +kernel) sh_76 rfl ?_
          refine w_load (.iload 5) 151 (by decide +kernel) rfl rfl ?_
          refine w_pushN 15 153 (by decide +kernel) ?_
          refine w_addN (22 * lv + 15) 154 (by decide +kernel) (by omega) ?_
          refine w_pure .dup2 155 (by decide +kernel) rfl rfl ?_
          refine w_ialdN 156 (by decide +kernel) sh_78 (by omega) (by omega) ?_
          refine w_pushN 1 157 (by decide +kernel) ?_
          refine w_load (.iload 4) 159 (by decide +kernel) rfl rfl ?_
          refine w_pure .ishl 160 (by decide +kernel) rfl rfl ?_
          refine w_push (-1) 161 (by decide +kernel) ?_
          refine w_pure .ixor 162 (by decide +kernel) rfl rfl ?_
          refine w_pure .iand 163 (by decide +kernel) rfl rfl ?_
          refine w_iastE 164 (by decide +kernel) sh_78 (by omega) (by omega) hS (rg_78 (fun h1 h2 => by first | omega | exact Or.inl rfl | exact Or.inr ⟨_, by omega, rfl⟩ | exact inv_78 hS.1 _ (by omega) (by omega) | exact inv_82 hS.1 _ (by omega) (by omega) | exact inv_89 hS.1 _ (by omega) (by omega))) (by first | exact rfl | omega | (dsimp only; omega) | (simp only [Hs, Tl, Sc, isHs, isScr, isTs] at *; omega)) (fun Nq19 hS hq19 oq19 mq19 => ?_)
          refine w_load (.aload_n 0) 165 (by decide +kernel) rfl rfl ?_
          refine w_getR (k := 2) (r := 78) 168 (by decide +kernel) sh_76 rfl ?_
          refine w_load (.iload 5) 170 (by decide +kernel) rfl rfl ?_
          refine w_pushN 10 172 (by decide +kernel) ?_
          refine w_addN (22 * lv + 10) 173 (by decide +kernel) (by omega) ?_
          refine w_load (.iload 4) 175 (by decide +kernel) rfl rfl ?_
          refine w_addN (22 * lv + 10 + k5) 176 (by decide +kernel) (by omega) ?_
          refine w_push (-9) 178 (by decide +kernel) ?_
          refine w_iastE 179 (by decide +kernel) sh_78 (by omega) (by omega) hS (rg_78 (fun h1 h2 => by first | omega | exact Or.inl rfl | exact Or.inr ⟨_, by omega, rfl⟩ | exact inv_78 hS.1 _ (by omega) (by omega) | exact inv_82 hS.1 _ (by omega) (by omega) | exact inv_89 hS.1 _ (by omega) (by omega))) (by first | exact rfl | omega | (dsimp only; omega) | (simp only [Hs, Tl, Sc, isHs, isScr, isTs] at *; omega)) (fun Nq20 hS hq20 oq20 mq20 => ?_)
          refine w_load (.iload 8) 181 (by decide +kernel) rfl rfl ?_
          refine w_push (-9) 183 (by decide +kernel) ?_
          refine w_ceq 201 186 (by decide +kernel) (fun h21 => ?_) (fun h21 => ?_)
          · skip
            refine w_goto 293 (by decide +kernel) ?_
            refine w_pushN 1 294 (by decide +kernel) ?_
            exact w_retZ (by decide +kernel) (Or.inr rfl) (hq _ Nq20 hS (Or.inr rfl))
          · skip
            obtain ⟨k22, hk22, hxk22⟩ := hwv18.resolve_left h21
            rw [hxk22]
            refine w_load (.aload_n 0) 187 (by decide +kernel) rfl rfl ?_
            refine w_getR (k := 2) (r := 78) 190 (by decide +kernel) sh_76 rfl ?_
            refine w_load (.iload 5) 192 (by decide +kernel) rfl rfl ?_
            refine w_pushN 10 194 (by decide +kernel) ?_
            refine w_addN (22 * lv + 10) 195 (by decide +kernel) (by omega) ?_
            refine w_load (.iload 8) 197 (by decide +kernel) rfl rfl ?_
            refine w_addN (22 * lv + 10 + k22) 198 (by decide +kernel) (by omega) ?_
            refine w_push (-9) 200 (by decide +kernel) ?_
            refine w_iastE 201 (by decide +kernel) sh_78 (by omega) (by omega) hS (rg_78 (fun h1 h2 => by first | omega | exact Or.inl rfl | exact Or.inr ⟨_, by omega, rfl⟩ | exact inv_78 hS.1 _ (by omega) (by omega) | exact inv_82 hS.1 _ (by omega) (by omega) | exact inv_89 hS.1 _ (by omega) (by omega))) (by first | exact rfl | omega | (dsimp only; omega) | (simp only [Hs, Tl, Sc, isHs, isScr, isTs] at *; omega)) (fun Nq23 hS hq23 oq23 mq23 => ?_)
            refine w_goto 293 (by decide +kernel) ?_
            refine w_pushN 1 294 (by decide +kernel) ?_
            exact w_retZ (by decide +kernel) (Or.inr rfl) (hq _ Nq23 hS (Or.inr rfl))
      · skip
        refine w_load (.aload_n 0) 67 (by decide +kernel) rfl rfl ?_
        refine w_getR (k := 2) (r := 78) 70 (by decide +kernel) sh_76 rfl ?_
        refine w_load (.iload 5) 72 (by decide +kernel) rfl rfl ?_
        refine w_pushN 5 73 (by decide +kernel) ?_
        refine w_addN (22 * lv + 5) 74 (by decide +kernel) (by omega) ?_
        refine w_load (.iload_n 3) 75 (by decide +kernel) rfl rfl ?_
        refine w_addN (22 * lv + 5 + dr) 76 (by decide +kernel) (by omega) ?_
        refine w_ialdN 77 (by decide +kernel) sh_78 (by omega) (by omega) ?_
        refine w_ile 84 80 (by decide +kernel) (fun h24 => ?_) (fun h24 => ?_)
        · skip
          refine w_pushN 0 85 (by decide +kernel) ?_
          refine w_store (ls' := [.ref 76, .int (nI lv), .int a, .int (nI dr), .int (nI k5), .int (nI (22 * lv)), .int v1, .int (nI 0), .null]) (.istore 7) 87 (by decide +kernel) rfl rfl ?_
          refine w_load (.iload 7) 89 (by decide +kernel) rfl rfl ?_
          refine w_ine 109 92 (by decide +kernel) (fun hz => absurd hz (by decide)) (fun _ => ?_)
          refine w_load (.aload_n 0) 93 (by decide +kernel) rfl rfl ?_
          refine w_getR (k := 2) (r := 78) 96 (by decide +kernel) sh_76 rfl ?_
          refine w_load (.iload 5) 98 (by decide +kernel) rfl rfl ?_
          refine w_pushN 5 99 (by decide +kernel) ?_
          refine w_addN (22 * lv + 5) 100 (by decide +kernel) (by omega) ?_
          refine w_load (.iload_n 3) 101 (by decide +kernel) rfl rfl ?_
          refine w_addN (22 * lv + 5 + dr) 102 (by decide +kernel) (by omega) ?_
          refine w_pure .dup2 103 (by decide +kernel) rfl rfl ?_
          refine w_ialdN 104 (by decide +kernel) sh_78 (by omega) (by omega) ?_
          refine w_pushN 1 105 (by decide +kernel) ?_
          refine w_pure .isub 106 (by decide +kernel) rfl rfl ?_
          refine w_iastE 107 (by decide +kernel) sh_78 (by omega) (by omega) hS (rg_78 (fun h1 h2 => by first | omega | exact Or.inl rfl | exact Or.inr ⟨_, by omega, rfl⟩ | exact inv_78 hS.1 _ (by omega) (by omega) | exact inv_82 hS.1 _ (by omega) (by omega) | exact inv_89 hS.1 _ (by omega) (by omega))) (by first | exact rfl | omega | (dsimp only; omega) | (simp only [Hs, Tl, Sc, isHs, isScr, isTs] at *; omega)) (fun Nq26 hS hq26 oq26 mq26 => ?_)
          refine w_pushN 0 108 (by decide +kernel) ?_
          exact w_retZ (by decide +kernel) (Or.inl rfl) (hq _ Nq26 hS (Or.inl rfl))
        · skip
          refine w_pushN 1 81 (by decide +kernel) ?_
          refine w_goto 85 (by decide +kernel) ?_
          refine w_store (ls' := [.ref 76, .int (nI lv), .int a, .int (nI dr), .int (nI k5), .int (nI (22 * lv)), .int v1, .int (nI 1), .null]) (.istore 7) 87 (by decide +kernel) rfl rfl ?_
          refine w_load (.iload 7) 89 (by decide +kernel) rfl rfl ?_
          refine w_ine 109 92 (by decide +kernel) (fun _ => ?_) (fun hz => absurd hz (by decide))
          refine w_load (.aload_n 0) 110 (by decide +kernel) rfl rfl ?_
          refine w_getR (k := 2) (r := 78) 113 (by decide +kernel) sh_76 rfl ?_
          refine w_load (.iload 5) 115 (by decide +kernel) rfl rfl ?_
          refine w_pushN 17 117 (by decide +kernel) ?_
          refine w_addN (22 * lv + 17) 118 (by decide +kernel) (by omega) ?_
          refine w_load (.iload_n 3) 119 (by decide +kernel) rfl rfl ?_
          refine w_addN (22 * lv + 17 + dr) 120 (by decide +kernel) (by omega) ?_
          refine w_pure .dup2 121 (by decide +kernel) rfl rfl ?_
          refine w_ialdN 122 (by decide +kernel) sh_78 (by omega) (by omega) ?_
          refine w_pushN 1 123 (by decide +kernel) ?_
          refine w_pure .isub 124 (by decide +kernel) rfl rfl ?_
          refine w_iastE 125 (by decide +kernel) sh_78 (by omega) (by omega) hS (rg_78 (fun h1 h2 => by first | omega | exact Or.inl rfl | exact Or.inr ⟨_, by omega, rfl⟩ | exact inv_78 hS.1 _ (by omega) (by omega) | exact inv_82 hS.1 _ (by omega) (by omega) | exact inv_89 hS.1 _ (by omega) (by omega))) (by first | exact rfl | omega | (dsimp only; omega) | (simp only [Hs, Tl, Sc, isHs, isScr, isTs] at *; omega)) (fun Nq28 hS hq28 oq28 mq28 => ?_)
          refine w_load (.iload 6) 127 (by decide +kernel) rfl rfl ?_
          refine w_ine 204 130 (by decide +kernel) (fun h29 => ?_) (fun h29 => ?_)
          · skip
            refine w_load (.iload 6) 206 (by decide +kernel) rfl rfl ?_
            refine w_pushN 1 207 (by decide +kernel) ?_
            refine w_cne 241 210 (by decide +kernel) (fun h30 => ?_) (fun h30 => ?_)
            · skip
              refine w_load (.iload 6) 243 (by decide +kernel) rfl rfl ?_
              refine w_pushN 2 244 (by decide +kernel) ?_
              refine w_cne 281 247 (by decide +kernel) (fun h31 => ?_) (fun h31 => ?_)
              · skip
                refine w_load (.aload_n 0) 282 (by decide +kernel) rfl rfl ?_
                refine w_getR (k := 2) (r := 78) 285 (by decide +kernel) sh_76 rfl ?_
                refine w_load (.iload 5) 287 (by decide +kernel) rfl rfl ?_
                refine w_load (.iload_n 3) 288 (by decide +kernel) rfl rfl ?_
                refine w_addN (22 * lv + dr) 289 (by decide +kernel) (by omega) ?_
                refine w_load (.iload_n 2) 290 (by decide +kernel) rfl rfl ?_
                refine w_pushN 4 291 (by decide +kernel) ?_
                refine w_rem 292 (by decide +kernel) (by decide) ?_
                refine w_iastE 293 (by decide +kernel) sh_78 (by omega) (by omega) hS (rg_78 (fun h1 h2 => by first | omega | exact Or.inl rfl | exact Or.inr ⟨_, by omega, rfl⟩ | exact inv_78 hS.1 _ (by omega) (by omega) | exact inv_82 hS.1 _ (by omega) (by omega) | exact inv_89 hS.1 _ (by omega) (by omega))) (by first | exact rfl | omega | (dsimp only; omega) | (simp only [Hs, Tl, Sc, isHs, isScr, isTs] at *; omega)) (fun Nq32 hS hq32 oq32 mq32 => ?_)
                refine w_pushN 1 294 (by decide +kernel) ?_
                exact w_retZ (by decide +kernel) (Or.inr rfl) (hq _ Nq32 hS (Or.inr rfl))
              · skip
                refine w_load (.aload_n 0) 248 (by decide +kernel) rfl rfl ?_
                refine w_getR (k := 2) (r := 78) 251 (by decide +kernel) sh_76 rfl ?_
                refine w_load (.iload 5) 253 (by decide +kernel) rfl rfl ?_
                refine w_pushN 5 254 (by decide +kernel) ?_
                refine w_addN (22 * lv + 5) 255 (by decide +kernel) (by omega) ?_
                refine w_load (.iload_n 3) 256 (by decide +kernel) rfl rfl ?_
                refine w_addN (22 * lv + 5 + dr) 257 (by decide +kernel) (by omega) ?_
                refine w_pure .dup2 258 (by decide +kernel) rfl rfl ?_
                refine w_ialdN 259 (by decide +kernel) sh_78 (by omega) (by omega) ?_
                refine w_pushN 1 260 (by decide +kernel) ?_
                refine w_pure .isub 261 (by decide +kernel) rfl rfl ?_
                refine w_iastE 262 (by decide +kernel) sh_78 (by omega) (by omega) hS (rg_78 (fun h1 h2 => by first | omega | exact Or.inl rfl | exact Or.inr ⟨_, by omega, rfl⟩ | exact inv_78 hS.1 _ (by omega) (by omega) | exact inv_82 hS.1 _ (by omega) (by omega) | exact inv_89 hS.1 _ (by omega) (by omega))) (by first | exact rfl | omega | (dsimp only; omega) | (simp only [Hs, Tl, Sc, isHs, isScr, isTs] at *; omega)) (fun Nq33 hS hq33 oq33 mq33 => ?_)
                refine w_load (.aload_n 0) 263 (by decide +kernel) rfl rfl ?_
                refine w_getR (k := 2) (r := 78) 266 (by decide +kernel) sh_76 rfl ?_
                refine w_load (.iload 5) 268 (by decide +kernel) rfl rfl ?_
                refine w_pushN 5 269 (by decide +kernel) ?_
                refine w_addN (22 * lv + 5) 270 (by decide +kernel) (by omega) ?_
                refine w_load (.iload 4) 272 (by decide +kernel) rfl rfl ?_
                refine w_addN (22 * lv + 5 + k5) 273 (by decide +kernel) (by omega) ?_
                refine w_pure .dup2 274 (by decide +kernel) rfl rfl ?_
                refine w_ialdN 275 (by decide +kernel) sh_78 (by omega) (by omega) ?_
                refine w_pushN 1 276 (by decide +kernel) ?_
                refine w_pure .iadd 277 (by decide +kernel) rfl rfl ?_
                refine w_iastE 278 (by decide +kernel) sh_78 (by omega) (by omega) hS (rg_78 (fun h1 h2 => by first | omega | exact Or.inl rfl | exact Or.inr ⟨_, by omega, rfl⟩ | exact inv_78 hS.1 _ (by omega) (by omega) | exact inv_82 hS.1 _ (by omega) (by omega) | exact inv_89 hS.1 _ (by omega) (by omega))) (by first | exact rfl | omega | (dsimp only; omega) | (simp only [Hs, Tl, Sc, isHs, isScr, isTs] at *; omega)) (fun Nq34 hS hq34 oq34 mq34 => ?_)
                refine w_goto 293 (by decide +kernel) ?_
                refine w_pushN 1 294 (by decide +kernel) ?_
                exact w_retZ (by decide +kernel) (Or.inr rfl) (hq _ Nq34 hS (Or.inr rfl))
            · skip
              refine w_load (.aload_n 0) 211 (by decide +kernel) rfl rfl ?_
              refine w_getR (k := 2) (r := 78) 214 (by decide +kernel) sh_76 rfl ?_
              refine w_load (.iload 5) 216 (by decide +kernel) rfl rfl ?_
              refine w_pushN 10 218 (by decide +kernel) ?_
              refine w_addN (22 * lv + 10) 219 (by decide +kernel) (by omega) ?_
              refine w_load (.iload_n 3) 220 (by decide +kernel) rfl rfl ?_
              refine w_addN (22 * lv + 10 + dr) 221 (by decide +kernel) (by omega) ?_
              refine w_load (.iload 4) 223 (by decide +kernel) rfl rfl ?_
              refine w_iastE 224 (by decide +kernel) sh_78 (by omega) (by omega) hS (rg_78 (fun h1 h2 => by first | omega | exact Or.inl rfl | exact Or.inr ⟨_, by omega, rfl⟩ | exact inv_78 hS.1 _ (by omega) (by omega) | exact inv_82 hS.1 _ (by omega) (by omega) | exact inv_89 hS.1 _ (by omega) (by omega))) (by first | exact rfl | omega | (dsimp only; omega) | (simp only [Hs, Tl, Sc, isHs, isScr, isTs] at *; omega)) (fun Nq35 hS hq35 oq35 mq35 => ?_)
              refine w_load (.aload_n 0) 225 (by decide +kernel) rfl rfl ?_
              refine w_getR (k := 2) (r := 78) 228 (by decide +kernel) sh_76 rfl ?_
              refine w_load (.iload 5) 230 (by decide +kernel) rfl rfl ?_
              refine w_pushN 10 232 (by decide +kernel) ?_
              refine w_addN (22 * lv + 10) 233 (by decide +kernel) (by omega) ?_
              refine w_load (.iload 4) 235 (by decide +kernel) rfl rfl ?_
              refine w_addN (22 * lv + 10 + k5) 236 (by decide +kernel) (by omega) ?_
              refine w_load (.iload_n 3) 237 (by decide +kernel) rfl rfl ?_
              refine w_iastE 238 (by decide +kernel) sh_78 (by omega) (by omega) hS (rg_78 (fun h1 h2 => by first | omega | exact Or.inl rfl | exact Or.inr ⟨_, by omega, rfl⟩ | exact inv_78 hS.1 _ (by omega) (by omega) | exact inv_82 hS.1 _ (by omega) (by omega) | exact inv_89 hS.1 _ (by omega) (by omega))) (by first | exact rfl | omega | (dsimp only; omega) | (simp only [Hs, Tl, Sc, isHs, isScr, isTs] at *; omega)) (fun Nq36 hS hq36 oq36 mq36 => ?_)
              refine w_goto 293 (by decide +kernel) ?_
              refine w_pushN 1 294 (by decide +kernel) ?_
              exact w_retZ (by decide +kernel) (Or.inr rfl) (hq _ Nq36 hS (Or.inr rfl))
          · skip
            refine w_load (.aload_n 0) 131 (by decide +kernel) rfl rfl ?_
            refine w_getR (k := 2) (r := 78) 134 (by decide +kernel) sh_76 rfl ?_
            refine w_load (.iload 5) 136 (by decide +kernel) rfl rfl ?_
            refine w_pushN 10 138 (by decide +kernel) ?_
            refine w_addN (22 * lv + 10) 139 (by decide +kernel) (by omega) ?_
            refine w_load (.iload 4) 141 (by decide +kernel) rfl rfl ?_
            refine w_addN (22 * lv + 10 + k5) 142 (by decide +kernel) (by omega) ?_
            refine w_ialdN 143 (by decide +kernel) sh_78 (by omega) (by omega) ?_
            refine w_topi (fun v37 ev37 => ?_)
            refine w_store (ls' := [.ref 76, .int (nI lv), .int a, .int (nI dr), .int (nI k5), .int (nI (22 * lv)), .int v1, .int (nI 1), .int v37]) (.istore 8) 145 (by decide +kernel) rfl rfl ?_
            have hwv37 : wedv v37 := by rw [ev37]; exact inv_78 hS.1 _ (by omega) (by omega)
            refine w_load (.aload_n 0) 146 (by decide +kernel) rfl rfl ?_
            refine w_getR (k := 2) (r := 78) 149 (by decide +kernel) sh_76 rfl ?_
            refine w_load (.iload 5) 151 (by decide +kernel) rfl rfl ?_
            refine w_pushN 15 153 (by decide +kernel) ?_
            refine w_addN (22 * lv + 15) 154 (by decide +kernel) (by omega) ?_
            refine w_pure .dup2 155 (by decide +kernel) rfl rfl ?_
            refine w_ialdN 156 (by decide +kernel) sh_78 (by omega) (by omega) ?_
            refine w_pushN 1 157 (by decide +kernel) ?_
            refine w_load (.iload 4) 159 (by decide +kernel) rfl rfl ?_
            refine w_pure .ishl 160 (by decide +kernel) rfl rfl ?_
            refine w_push (-1) 161 (by decide +kernel) ?_
            refine w_pure .ixor 162 (by decide +kernel) rfl rfl ?_
            refine w_pure .iand 163 (by decide +kernel) rfl rfl ?_
            refine w_iastE 164 (by decide +kernel) sh_78 (by omega) (by omega) hS (rg_78 (fun h1 h2 => by first | omega | exact Or.inl rfl | exact Or.inr ⟨_, by omega, rfl⟩ | exact inv_78 hS.1 _ (by omega) (by omega) | exact inv_82 hS.1 _ (by omega) (by omega) | exact inv_89 hS.1 _ (by omega) (by omega))) (by first | exact rfl | omega | (dsimp only; omega) | (simp only [Hs, Tl, Sc, isHs, isScr, isTs] at *; omega)) (fun Nq38 hS hq38 oq38 mq38 => ?_)
            refine w_load (.aload_n 0) 165 (by decide +kernel) rfl rfl ?_
            refine w_getR (k := 2) (r := 78) 168 (by decide +kernel) sh_76 rfl ?_
            refine w_load (.iload 5) 170 (by decide +kernel) rfl rfl ?_
            refine w_pushN 10 172 (by decide +kernel) ?_
            refine w_addN (22 * lv + 10) 173 (by decide +kernel) (by omega) ?_
            refine w_load (.iload 4) 175 (by decide +kernel) rfl rfl ?_
            refine w_addN (22 * lv + 10 + k5) 176 (by decide +kernel) (by omega) ?_
            refine w_push (-9) 178 (by decide +kernel) ?_
            refine w_iastE 179 (by decide +kernel) sh_78 (by omega) (by omega) hS (rg_78 (fun h1 h2 => by first | omega | exact Or.inl rfl | exact Or.inr ⟨_, by omega, rfl⟩ | exact inv_78 hS.1 _ (by omega) (by omega) | exact inv_82 hS.1 _ (by omega) (by omega) | exact inv_89 hS.1 _ (by omega) (by omega))) (by first | exact rfl | omega | (dsimp only; omega) | (simp only [Hs, Tl, Sc, isHs, isScr, isTs] at *; omega)) (fun Nq39 hS hq39 oq39 mq39 => ?_)
            refine w_load (.iload 8) 181 (by decide +kernel) rfl rfl ?_
            refine w_push (-9) 183 (by decide +kernel) ?_
            refine w_ceq 201 186 (by decide +kernel) (fun h40 => ?_) (fun h40 => ?_)
            · skip
              refine w_goto 293 (by decide +kernel) ?_
              refine w_pushN 1 294 (by decide +kernel) ?_
              exact w_retZ (by decide +kernel) (Or.inr rfl) (hq _ Nq39 hS (Or.inr rfl))
            · skip
              obtain ⟨k41, hk41, hxk41⟩ := hwv37.resolve_left h40
              rw [hxk41]
              refine w_load (.aload_n 0) 187 (by decide +kernel) rfl rfl ?_
              refine w_getR (k := 2) (r := 78) 190 (by decide +kernel) sh_76 rfl ?_
              refine w_load (.iload 5) 192 (by decide +kernel) rfl rfl ?_
              refine w_pushN 10 194 (by decide +kernel) ?_
              refine w_addN (22 * lv + 10) 195 (by decide +kernel) (by omega) ?_
              refine w_load (.iload 8) 197 (by decide +kernel) rfl rfl ?_
              refine w_addN (22 * lv + 10 + k41) 198 (by decide +kernel) (by omega) ?_
              refine w_push (-9) 200 (by decide +kernel) ?_
              refine w_iastE 201 (by decide +kernel) sh_78 (by omega) (by omega) hS (rg_78 (fun h1 h2 => by first | omega | exact Or.inl rfl | exact Or.inr ⟨_, by omega, rfl⟩ | exact inv_78 hS.1 _ (by omega) (by omega) | exact inv_82 hS.1 _ (by omega) (by omega) | exact inv_89 hS.1 _ (by omega) (by omega))) (by first | exact rfl | omega | (dsimp only; omega) | (simp only [Hs, Tl, Sc, isHs, isScr, isTs] at *; omega)) (fun Nq42 hS hq42 oq42 mq42 => ?_)
              refine w_goto 293 (by decide +kernel) ?_
              refine w_pushN 1 294 (by decide +kernel) ?_
              exact w_retZ (by decide +kernel) (Or.inr rfl) (hq _ Nq42 hS (Or.inr rfl))
    · skip
      refine w_load (.aload_n 0) 26 (by decide +kernel) rfl rfl ?_
      refine w_getR (k := 2) (r := 78) 29 (by decide +kernel) sh_76 rfl ?_
      refine w_load (.iload 5) 31 (by decide +kernel) rfl rfl ?_
      refine w_pushN 10 33 (by decide +kernel) ?_
      refine w_addN (22 * lv + 10) 34 (by decide +kernel) (by omega) ?_
      refine w_load (.iload_n 3) 35 (by decide +kernel) rfl rfl ?_
      refine w_addN (22 * lv + 10 + dr) 36 (by decide +kernel) (by omega) ?_
      refine w_ialdN 37 (by decide +kernel) sh_78 (by omega) (by omega) ?_
      refine w_push (-9) 39 (by decide +kernel) ?_
      refine w_cne 84 42 (by decide +kernel) (fun h43 => ?_) (fun h43 => ?_)
      · skip
        refine w_pushN 0 85 (by decide +kernel) ?_
        refine w_store (ls' := [.ref 76, .int (nI lv), .int a, .int (nI dr), .int (nI k5), .int (nI (22 * lv)), .int v1, .int (nI 0), .null]) (.istore 7) 87 (by decide +kernel) rfl rfl ?_
        refine w_load (.iload 7) 89 (by decide +kernel) rfl rfl ?_
        refine w_ine 109 92 (by decide +kernel) (fun hz => absurd hz (by decide)) (fun _ => ?_)
        refine w_load (.aload_n 0) 93 (by decide +kernel) rfl rfl ?_
        refine w_getR (k := 2) (r := 78) 96 (by decide +kernel) sh_76 rfl ?_
        refine w_load (.iload 5) 98 (by decide +kernel) rfl rfl ?_
        refine w_pushN 5 99 (by decide +kernel) ?_
        refine w_addN (22 * lv + 5) 100 (by decide +kernel) (by omega) ?_
        refine w_load (.iload_n 3) 101 (by decide +kernel) rfl rfl ?_
        refine w_addN (22 * lv + 5 + dr) 102 (by decide +kernel) (by omega) ?_
        refine w_pure .dup2 103 (by decide +kernel) rfl rfl ?_
        refine w_ialdN 104 (by decide +kernel) sh_78 (by omega) (by omega) ?_
        refine w_pushN 1 105 (by decide +kernel) ?_
        refine w_pure .isub 106 (by decide +kernel) rfl rfl ?_
        refine w_iastE 107 (by decide +kernel) sh_78 (by omega) (by omega) hS (rg_78 (fun h1 h2 => by first | omega | exact Or.inl rfl | exact Or.inr ⟨_, by omega, rfl⟩ | exact inv_78 hS.1 _ (by omega) (by omega) | exact inv_82 hS.1 _ (by omega) (by omega) | exact inv_89 hS.1 _ (by omega) (by omega))) (by first | exact rfl | omega | (dsimp only; omega) | (simp only [Hs, Tl, Sc, isHs, isScr, isTs] at *; omega)) (fun Nq45 hS hq45 oq45 mq45 => ?_)
        refine w_pushN 0 108 (by decide +kernel) ?_
        exact w_retZ (by decide +kernel) (Or.inl rfl) (hq _ Nq45 hS (Or.inl rfl))
      · skip
        refine w_load (.aload_n 0) 43 (by decide +kernel) rfl rfl ?_
        refine w_getR (k := 2) (r := 78) 46 (by decide +kernel) sh_76 rfl ?_
        refine w_load (.iload 5) 48 (by decide +kernel) rfl rfl ?_
        refine w_pushN 10 50 (by decide +kernel) ?_
        refine w_addN (22 * lv + 10) 51 (by decide +kernel) (by omega) ?_
        refine w_load (.iload 4) 53 (by decide +kernel) rfl rfl ?_
        refine w_addN (22 * lv + 10 + k5) 54 (by decide +kernel) (by omega) ?_
        refine w_ialdN 55 (by decide +kernel) sh_78 (by omega) (by omega) ?_
        refine w_push (-9) 57 (by decide +kernel) ?_
        refine w_cne 84 60 (by decide +kernel) (fun h46 => ?_) (fun h46 => ?_)
        · skip
          refine w_pushN 0 85 (by decide +kernel) ?_
          refine w_store (ls' := [.ref 76, .int (nI lv), .int a, .int (nI dr), .int (nI k5), .int (nI (22 * lv)), .int v1, .int (nI 0), .null]) (.istore 7) 87 (by decide +kernel) rfl rfl ?_
          refine w_load (.iload 7) 89 (by decide +kernel) rfl rfl ?_
          refine w_ine 109 92 (by decide +kernel) (fun hz => absurd hz (by decide)) (fun _ => ?_)
          refine w_load (.aload_n 0) 93 (by decide +kernel) rfl rfl ?_
          refine w_getR (k := 2) (r := 78) 96 (by decide +kernel) sh_76 rfl ?_
          refine w_load (.iload 5) 98 (by decide +kernel) rfl rfl ?_
          refine w_pushN 5 99 (by decide +kernel) ?_
          refine w_addN (22 * lv + 5) 100 (by decide +kernel) (by omega) ?_
          refine w_load (.iload_n 3) 101 (by decide +kernel) rfl rfl ?_
          refine w_addN (22 * lv + 5 + dr) 102 (by decide +kernel) (by omega) ?_
          refine w_pure .dup2 103 (by decide +kernel) rfl rfl ?_
          refine w_ialdN 104 (by decide +kernel) sh_78 (by omega) (by omega) ?_
          refine w_pushN 1 105 (by decide +kernel) ?_
          refine w_pure .isub 106 (by decide +kernel) rfl rfl ?_
          refine w_iastE 107 (by decide +kernel) sh_78 (by omega) (by omega) hS (rg_78 (fun h1 h2 => by first | omega | exact Or.inl rfl | exact Or.inr ⟨_, by omega, rfl⟩ | exact inv_78 hS.1 _ (by omega) (by omega) | exact inv_82 hS.1 _ (by omega) (by omega) | exact inv_89 hS.1 _ (by omega) (by omega))) (by first | exact rfl | omega | (dsimp only; omega) | (simp only [Hs, Tl, Sc, isHs, isScr, isTs] at *; omega)) (fun Nq48 hS hq48 oq48 mq48 => ?_)
          refine w_pushN 0 108 (by decide +kernel) ?_
          exact w_retZ (by decide +kernel) (Or.inl rfl) (hq _ Nq48 hS (Or.inl rfl))
        · skip
          refine w_load (.iload 6) 62 (by decide +kernel) rfl rfl ?_
          refine w_pushN 2 63 (by decide +kernel) ?_
          refine w_cne 80 66 (by decide +kernel) (fun h49 => ?_) (fun h49 => ?_)
          · skip
            refine w_pushN 1 81 (by decide +kernel) ?_
            refine w_goto 85 (by decide +kernel) ?_
            refine w_store (ls' := [.ref 76, .int (nI lv), .int a, .int (nI dr), .int (nI k5), .int (nI (22 * lv)), .int v1, .int (nI 1), .null]) (.istore 7) 87 (by decide +kernel) rfl rfl ?_
            refine w_load (.iload 7) 89 (by decide +kernel) rfl rfl ?_
            refine w_ine 109 92 (by decide +kernel) (fun _ => ?_) (fun hz => absurd hz (by decide))
            refine w_load (.aload_n 0) 110 (by decide +kernel) rfl rfl ?_
            refine w_getR (k := 2) (r := 78) 113 (by decide +kernel) sh_76 rfl ?_
            refine w_load (.iload 5) 115 (by decide +kernel) rfl rfl ?_
            refine w_pushN 17 117 (by decide +kernel) ?_
            refine w_addN (22 * lv + 17) 118 (by decide +kernel) (by omega) ?_
            refine w_load (.iload_n 3) 119 (by decide +kernel) rfl rfl ?_
            refine w_addN (22 * lv + 17 + dr) 120 (by decide +kernel) (by omega) ?_
            refine w_pure .dup2 121 (by decide +kernel) rfl rfl ?_
            refine w_ialdN 122 (by decide +kernel) sh_78 (by omega) (by omega) ?_
            refine w_pushN 1 123 (by decide +kernel) ?_
            refine w_pure .isub 124 (by decide +kernel) rfl rfl ?_
            refine w_iastE 125 (by decide +kernel) sh_78 (by omega) (by omega) hS (rg_78 (fun h1 h2 => by first | omega | exact Or.inl rfl | exact Or.inr ⟨_, by omega, rfl⟩ | exact inv_78 hS.1 _ (by omega) (by omega) | exact inv_82 hS.1 _ (by omega) (by omega) | exact inv_89 hS.1 _ (by omega) (by omega))) (by first | exact rfl | omega | (dsimp only; omega) | (simp only [Hs, Tl, Sc, isHs, isScr, isTs] at *; omega)) (fun Nq51 hS hq51 oq51 mq51 => ?_)
            refine w_load (.iload 6) 127 (by decide +kernel) rfl rfl ?_
            refine w_ine 204 130 (by decide +kernel) (fun h52 => ?_) (fun h52 => ?_)
            · skip
              refine w_load (.iload 6) 206 (by decide +kernel) rfl rfl ?_
              refine w_pushN 1 207 (by decide +kernel) ?_
              refine w_cne 241 210 (by decide +kernel) (fun h53 => ?_) (fun h53 => ?_)
              · skip
                refine w_load (.iload 6) 243 (by decide +kernel) rfl rfl ?_
                refine w_pushN 2 244 (by decide +kernel) ?_
                refine w_cne 281 247 (by decide +kernel) (fun h54 => ?_) (fun h54 => ?_)
                · skip
                  refine w_load (.aload_n 0) 282 (by decide +kernel) rfl rfl ?_
                  refine w_getR (k := 2) (r := 78) 285 (by decide +kernel) sh_76 rfl ?_
                  refine w_load (.iload 5) 287 (by decide +kernel) rfl rfl ?_
                  refine w_load (.iload_n 3) 288 (by decide +kernel) rfl rfl ?_
                  refine w_addN (22 * lv + dr) 289 (by decide +kernel) (by omega) ?_
                  refine w_load (.iload_n 2) 290 (by decide +kernel) rfl rfl ?_
                  refine w_pushN 4 291 (by decide +kernel) ?_
                  refine w_rem 292 (by decide +kernel) (by decide) ?_
                  refine w_iastE 293 (by decide +kernel) sh_78 (by omega) (by omega) hS (rg_78 (fun h1 h2 => by first | omega | exact Or.inl rfl | exact Or.inr ⟨_, by omega, rfl⟩ | exact inv_78 hS.1 _ (by omega) (by omega) | exact inv_82 hS.1 _ (by omega) (by omega) | exact inv_89 hS.1 _ (by omega) (by omega))) (by first | exact rfl | omega | (dsimp only; omega) | (simp only [Hs, Tl, Sc, isHs, isScr, isTs] at *; omega)) (fun Nq55 hS hq55 oq55 mq55 => ?_)
                  refine w_pushN 1 294 (by decide +kernel) ?_
                  exact w_retZ (by decide +kernel) (Or.inr rfl) (hq _ Nq55 hS (Or.inr rfl))
                · skip
                  refine w_load (.aload_n 0) 248 (by decide +kernel) rfl rfl ?_
                  refine w_getR (k := 2) (r := 78) 251 (by decide +kernel) sh_76 rfl ?_
                  refine w_load (.iload 5) 253 (by decide +kernel) rfl rfl ?_
                  refine w_pushN 5 254 (by decide +kernel) ?_
                  refine w_addN (22 * lv + 5) 255 (by decide +kernel) (by omega) ?_
                  refine w_load (.iload_n 3) 256 (by decide +kernel) rfl rfl ?_
                  refine w_addN (22 * lv + 5 + dr) 257 (by decide +kernel) (by omega) ?_
                  refine w_pure .dup2 258 (by decide +kernel) rfl rfl ?_
                  refine w_ialdN 259 (by decide +kernel) sh_78 (by omega) (by omega) ?_
                  refine w_pushN 1 260 (by decide +kernel) ?_
                  refine w_pure .isub 261 (by decide +kernel) rfl rfl ?_
                  refine w_iastE 262 (by decide +kernel) sh_78 (by omega) (by omega) hS (rg_78 (fun h1 h2 => by first | omega | exact Or.inl rfl | exact Or.inr ⟨_, by omega, rfl⟩ | exact inv_78 hS.1 _ (by omega) (by omega) | exact inv_82 hS.1 _ (by omega) (by omega) | exact inv_89 hS.1 _ (by omega) (by omega))) (by first | exact rfl | omega | (dsimp only; omega) | (simp only [Hs, Tl, Sc, isHs, isScr, isTs] at *; omega)) (fun Nq56 hS hq56 oq56 mq56 => ?_)
                  refine w_load (.aload_n 0) 263 (by decide +kernel) rfl rfl ?_
                  refine w_getR (k := 2) (r := 78) 266 (by decide +kernel) sh_76 rfl ?_
                  refine w_load (.iload 5) 268 (by decide +kernel) rfl rfl ?_
                  refine w_pushN 5 269 (by decide +kernel) ?_
                  refine w_addN (22 * lv + 5) 270 (by decide +kernel) (by omega) ?_
                  refine w_load (.iload 4) 272 (by decide +kernel) rfl rfl ?_
                  refine w_addN (22 * lv + 5 + k5) 273 (by decide +kernel) (by omega) ?_
                  refine w_pure .dup2 274 (by decide +kernel) rfl rfl ?_
                  refine w_ialdN 275 (by decide +kernel) sh_78 (by omega) (by omega) ?_
                  refine w_pushN 1 276 (by decide +kernel) ?_
                  refine w_pure .iadd 277 (by decide +kernel) rfl rfl ?_
                  refine w_iastE 278 (by decide +kernel) sh_78 (by omega) (by omega) hS (rg_78 (fun h1 h2 => by first | omega | exact Or.inl rfl | exact Or.inr ⟨_, by omega, rfl⟩ | exact inv_78 hS.1 _ (by omega) (by omega) | exact inv_82 hS.1 _ (by omega) (by omega) | exact inv_89 hS.1 _ (by omega) (by omega))) (by first | exact rfl | omega | (dsimp only; omega) | (simp only [Hs, Tl, Sc, isHs, isScr, isTs] at *; omega)) (fun Nq57 hS hq57 oq57 mq57 => ?_)
                  refine w_goto 293 (by decide +kernel) ?_
                  refine w_pushN 1 294 (by decide +kernel) ?_
                  exact w_retZ (by decide +kernel) (Or.inr rfl) (hq _ Nq57 hS (Or.inr rfl))
              · skip
                refine w_load (.aload_n 0) 211 (by decide +kernel) rfl rfl ?_
                refine w_getR (k := 2) (r := 78) 214 (by decide +kernel) sh_76 rfl ?_
                refine w_load (.iload 5) 216 (by decide +kernel) rfl rfl ?_
                refine w_pushN 10 218 (by decide +kernel) ?_
                refine w_addN (22 * lv + 10) 219 (by decide +kernel) (by omega) ?_
                refine w_load (.iload_n 3) 220 (by decide +kernel) rfl rfl ?_
                refine w_addN (22 * lv + 10 + dr) 221 (by decide +kernel) (by omega) ?_
                refine w_load (.iload 4) 223 (by decide +kernel) rfl rfl ?_
                refine w_iastE 224 (by decide +kernel) sh_78 (by omega) (by omega) hS (rg_78 (fun h1 h2 => by first | omega | exact Or.inl rfl | exact Or.inr ⟨_, by omega, rfl⟩ | exact inv_78 hS.1 _ (by omega) (by omega) | exact inv_82 hS.1 _ (by omega) (by omega) | exact inv_89 hS.1 _ (by omega) (by omega))) (by first | exact rfl | omega | (dsimp only; omega) | (simp only [Hs, Tl, Sc, isHs, isScr, isTs] at *; omega)) (fun Nq58 hS hq58 oq58 mq58 => ?_)
                refine w_load (.aload_n 0) 225 (by decide +kernel) rfl rfl ?_
                refine w_getR (k := 2) (r := 78) 228 (by decide +kernel) sh_76 rfl ?_
                refine w_load (.iload 5) 230 (by decide +kernel) rfl rfl ?_
                refine w_pushN 10 232 (by decide +kernel) ?_
                refine w_addN (22 * lv + 10) 233 (by decide +kernel) (by omega) ?_
                refine w_load (.iload 4) 235 (by decide +kernel) rfl rfl ?_
                refine w_addN (22 * lv + 10 + k5) 236 (by decide +kernel) (by omega) ?_
                refine w_load (.iload_n 3) 237 (by decide +kernel) rfl rfl ?_
                refine w_iastE 238 (by decide +kernel) sh_78 (by omega) (by omega) hS (rg_78 (fun h1 h2 => by first | omega | exact Or.inl rfl | exact Or.inr ⟨_, by omega, rfl⟩ | exact inv_78 hS.1 _ (by omega) (by omega) | exact inv_82 hS.1 _ (by omega) (by omega) | exact inv_89 hS.1 _ (by omega) (by omega))) (by first | exact rfl | omega | (dsimp only; omega) | (simp only [Hs, Tl, Sc, isHs, isScr, isTs] at *; omega)) (fun Nq59 hS hq59 oq59 mq59 => ?_)
                refine w_goto 293 (by decide +kernel) ?_
                refine w_pushN 1 294 (by decide +kernel) ?_
                exact w_retZ (by decide +kernel) (Or.inr rfl) (hq _ Nq59 hS (Or.inr rfl))
            · skip
              refine w_load (.aload_n 0) 131 (by decide +kernel) rfl rfl ?_
              refine w_getR (k := 2) (r := 78) 134 (by decide +kernel) sh_76 rfl ?_
              refine w_load (.iload 5) 136 (by decide +kernel) rfl rfl ?_
              refine w_pushN 10 138 (by decide +kernel) ?_
              refine w_addN (22 * lv + 10) 139 (by decide +kernel) (by omega) ?_
              refine w_load (.iload 4) 141 (by decide +kernel) rfl rfl ?_
              refine w_addN (22 * lv + 10 + k5) 142 (by decide +kernel) (by omega) ?_
              refine w_ialdN 143 (by decide +kernel) sh_78 (by omega) (by omega) ?_
              refine w_topi (fun v60 ev60 => ?_)
              refine w_store (ls' := [.ref 76, .int (nI lv), .int a, .int (nI dr), .int (nI k5), .int (nI (22 * lv)), .int v1, .int (nI 1), .int v60]) (.istore 8) 145 (by decide +kernel) rfl rfl ?_
              have hwv60 : wedv v60 := by rw [ev60]; exact inv_78 hS.1 _ (by omega) (by omega)
              refine w_load (.aload_n 0) 146 (by decide +kernel) rfl rfl ?_
              refine w_getR (k := 2) (r := 78) 149 (by decide +kernel) sh_76 rfl ?_
              refine w_load (.iload 5) 151 (by decide +kernel) rfl rfl ?_
              refine w_pushN 15 153 (by decide +kernel) ?_
              refine w_addN (22 * lv + 15) 154 (by decide +kernel) (by omega) ?_
              refine w_pure .dup2 155 (by decide +kernel) rfl rfl ?_
              refine w_ialdN 156 (by decide +kernel) sh_78 (by omega) (by omega) ?_
              refine w_pushN 1 157 (by decide +kernel) ?_
              refine w_load (.iload 4) 159 (by decide +kernel) rfl rfl ?_
              refine w_pure .ishl 160 (by decide +kernel) rfl rfl ?_
              refine w_push (-1) 161 (by decide +kernel) ?_
              refine w_pure .ixor 162 (by decide +kernel) rfl rfl ?_
              refine w_pure .iand 163 (by decide +kernel) rfl rfl ?_
              refine w_iastE 164 (by decide +kernel) sh_78 (by omega) (by omega) hS (rg_78 (fun h1 h2 => by first | omega | exact Or.inl rfl | exact Or.inr ⟨_, by omega, rfl⟩ | exact inv_78 hS.1 _ (by omega) (by omega) | exact inv_82 hS.1 _ (by omega) (by omega) | exact inv_89 hS.1 _ (by omega) (by omega))) (by first | exact rfl | omega | (dsimp only; omega) | (simp only [Hs, Tl, Sc, isHs, isScr, isTs] at *; omega)) (fun Nq61 hS hq61 oq61 mq61 => ?_)
              refine w_load (.aload_n 0) 165 (by decide +kernel) rfl rfl ?_
              refine w_getR (k := 2) (r := 78) 168 (by decide +kernel) sh_76 rfl ?_
              refine w_load (.iload 5) 170 (by decide +kernel) rfl rfl ?_
              refine w_pushN 10 172 (by decide +kernel) ?_
              refine w_addN (22 * lv + 10) 173 (by decide +kernel) (by omega) ?_
              refine w_load (.iload 4) 175 (by decide +kernel) rfl rfl ?_
              refine w_addN (22 * lv + 10 + k5) 176 (by decide +kernel) (by omega) ?_
              refine w_push (-9) 178 (by decide +kernel) ?_
              refine w_iastE 179 (by decide +kernel) sh_78 (by omega) (by omega) hS (rg_78 (fun h1 h2 => by first | omega | exact Or.inl rfl | exact Or.inr ⟨_, by omega, rfl⟩ | exact inv_78 hS.1 _ (by omega) (by omega) | exact inv_82 hS.1 _ (by omega) (by omega) | exact inv_89 hS.1 _ (by omega) (by omega))) (by first | exact rfl | omega | (dsimp only; omega) | (simp only [Hs, Tl, Sc, isHs, isScr, isTs] at *; omega)) (fun Nq62 hS hq62 oq62 mq62 => ?_)
              refine w_load (.iload 8) 181 (by decide +kernel) rfl rfl ?_
              refine w_push (-9) 183 (by decide +kernel) ?_
              refine w_ceq 201 186 (by decide +kernel) (fun h63 => ?_) (fun h63 => ?_)
              · skip
                refine w_goto 293 (by decide +kernel) ?_
                refine w_pushN 1 294 (by decide +kernel) ?_
                exact w_retZ (by decide +kernel) (Or.inr rfl) (hq _ Nq62 hS (Or.inr rfl))
              · skip
                obtain ⟨k64, hk64, hxk64⟩ := hwv60.resolve_left h63
                rw [hxk64]
                refine w_load (.aload_n 0) 187 (by decide +kernel) rfl rfl ?_
                refine w_getR (k := 2) (r := 78) 190 (by decide +kernel) sh_76 rfl ?_
                refine w_load (.iload 5) 192 (by decide +kernel) rfl rfl ?_
                refine w_pushN 10 194 (by decide +kernel) ?_
                refine w_addN (22 * lv + 10) 195 (by decide +kernel) (by omega) ?_
                refine w_load (.iload 8) 197 (by decide +kernel) rfl rfl ?_
                refine w_addN (22 * lv + 10 + k64) 198 (by decide +kernel) (by omega) ?_
                refine w_push (-9) 200 (by decide +kernel) ?_
                refine w_iastE 201 (by decide +kernel) sh_78 (by omega) (by omega) hS (rg_78 (fun h1 h2 => by first | omega | exact Or.inl rfl | exact Or.inr ⟨_, by omega, rfl⟩ | exact inv_78 hS.1 _ (by omega) (by omega) | exact inv_82 hS.1 _ (by omega) (by omega) | exact inv_89 hS.1 _ (by omega) (by omega))) (by first | exact rfl | omega | (dsimp only; omega) | (simp only [Hs, Tl, Sc, isHs, isScr, isTs] at *; omega)) (fun Nq65 hS hq65 oq65 mq65 => ?_)
                refine w_goto 293 (by decide +kernel) ?_
                refine w_pushN 1 294 (by decide +kernel) ?_
                exact w_retZ (by decide +kernel) (Or.inr rfl) (hq _ Nq65 hS (Or.inr rfl))
          · skip
            refine w_load (.aload_n 0) 67 (by decide +kernel) rfl rfl ?_
            refine w_getR (k := 2) (r := 78) 70 (by decide +kernel) sh_76 rfl ?_
            refine w_load (.iload 5) 72 (by decide +kernel) rfl rfl ?_
            refine w_pushN 5 73 (by decide +kernel) ?_
            refine w_addN (22 * lv + 5) 74 (by decide +kernel) (by omega) ?_
            refine w_load (.iload_n 3) 75 (by decide +kernel) rfl rfl ?_
            refine w_addN (22 * lv + 5 + dr) 76 (by decide +kernel) (by omega) ?_
            refine w_ialdN 77 (by decide +kernel) sh_78 (by omega) (by omega) ?_
            refine w_ile 84 80 (by decide +kernel) (fun h66 => ?_) (fun h66 => ?_)
            · skip
              refine w_pushN 0 85 (by decide +kernel) ?_
              refine w_store (ls' := [.ref 76, .int (nI lv), .int a, .int (nI dr), .int (nI k5), .int (nI (22 * lv)), .int v1, .int (nI 0), .null]) (.istore 7) 87 (by decide +kernel) rfl rfl ?_
              refine w_load (.iload 7) 89 (by decide +kernel) rfl rfl ?_
              refine w_ine 109 92 (by decide +kernel) (fun hz => absurd hz (by decide)) (fun _ => ?_)
              refine w_load (.aload_n 0) 93 (by decide +kernel) rfl rfl ?_
              refine w_getR (k := 2) (r := 78) 96 (by decide +kernel) sh_76 rfl ?_
              refine w_load (.iload 5) 98 (by decide +kernel) rfl rfl ?_
              refine w_pushN 5 99 (by decide +kernel) ?_
              refine w_addN (22 * lv + 5) 100 (by decide +kernel) (by omega) ?_
              refine w_load (.iload_n 3) 101 (by decide +kernel) rfl rfl ?_
              refine w_addN (22 * lv + 5 + dr) 102 (by decide +kernel) (by omega) ?_
              refine w_pure .dup2 103 (by decide +kernel) rfl rfl ?_
              refine w_ialdN 104 (by decide +kernel) sh_78 (by omega) (by omega) ?_
              refine w_pushN 1 105 (by decide +kernel) ?_
              refine w_pure .isub 106 (by decide +kernel) rfl rfl ?_
              refine w_iastE 107 (by decide +kernel) sh_78 (by omega) (by omega) hS (rg_78 (fun h1 h2 => by first | omega | exact Or.inl rfl | exact Or.inr ⟨_, by omega, rfl⟩ | exact inv_78 hS.1 _ (by omega) (by omega) | exact inv_82 hS.1 _ (by omega) (by omega) | exact inv_89 hS.1 _ (by omega) (by omega))) (by first | exact rfl | omega | (dsimp only; omega) | (simp only [Hs, Tl, Sc, isHs, isScr, isTs] at *; omega)) (fun Nq68 hS hq68 oq68 mq68 => ?_)
              refine w_pushN 0 108 (by decide +kernel) ?_
              exact w_retZ (by decide +kernel) (Or.inl rfl) (hq _ Nq68 hS (Or.inl rfl))
            · skip
              refine w_pushN 1 81 (by decide +kernel) ?_
              refine w_goto 85 (by decide +kernel) ?_
              refine w_store (ls' := [.ref 76, .int (nI lv), .int a, .int (nI dr), .int (nI k5), .int (nI (22 * lv)), .int v1, .int (nI 1), .null]) (.istore 7) 87 (by decide +kernel) rfl rfl ?_
              refine w_load (.iload 7) 89 (by decide +kernel) rfl rfl ?_
              refine w_ine 109 92 (by decide +kernel) (fun _ => ?_) (fun hz => absurd hz (by decide))
              refine w_load (.aload_n 0) 110 (by decide +kernel) rfl rfl ?_
              refine w_getR (k := 2) (r := 78) 113 (by decide +kernel) sh_76 rfl ?_
              refine w_load (.iload 5) 115 (by decide +kernel) rfl rfl ?_
              refine w_pushN 17 117 (by decide +kernel) ?_
              refine w_addN (22 * lv + 17) 118 (by decide +kernel) (by omega) ?_
              refine w_load (.iload_n 3) 119 (by decide +kernel) rfl rfl ?_
              refine w_addN (22 * lv + 17 + dr) 120 (by decide +kernel) (by omega) ?_
              refine w_pure .dup2 121 (by decide +kernel) rfl rfl ?_
              refine w_ialdN 122 (by decide +kernel) sh_78 (by omega) (by omega) ?_
              refine w_pushN 1 123 (by decide +kernel) ?_
              refine w_pure .isub 124 (by decide +kernel) rfl rfl ?_
              refine w_iastE 125 (by decide +kernel) sh_78 (by omega) (by omega) hS (rg_78 (fun h1 h2 => by first | omega | exact Or.inl rfl | exact Or.inr ⟨_, by omega, rfl⟩ | exact inv_78 hS.1 _ (by omega) (by omega) | exact inv_82 hS.1 _ (by omega) (by omega) | exact inv_89 hS.1 _ (by omega) (by omega))) (by first | exact rfl | omega | (dsimp only; omega) | (simp only [Hs, Tl, Sc, isHs, isScr, isTs] at *; omega)) (fun Nq70 hS hq70 oq70 mq70 => ?_)
              refine w_load (.iload 6) 127 (by decide +kernel) rfl rfl ?_
              refine w_ine 204 130 (by decide +kernel) (fun h71 => ?_) (fun h71 => ?_)
              · skip
                refine w_load (.iload 6) 206 (by decide +kernel) rfl rfl ?_
                refine w_pushN 1 207 (by decide +kernel) ?_
                refine w_cne 241 210 (by decide +kernel) (fun h72 => ?_) (fun h72 => ?_)
                · skip
                  refine w_load (.iload 6) 243 (by decide +kernel) rfl rfl ?_
                  refine w_pushN 2 244 (by decide +kernel) ?_
                  refine w_cne 281 247 (by decide +kernel) (fun h73 => ?_) (fun h73 => ?_)
                  · skip
                    refine w_load (.aload_n 0) 282 (by decide +kernel) rfl rfl ?_
                    refine w_getR (k := 2) (r := 78) 285 (by decide +kernel) sh_76 rfl ?_
                    refine w_load (.iload 5) 287 (by decide +kernel) rfl rfl ?_
                    refine w_load (.iload_n 3) 288 (by decide +kernel) rfl rfl ?_
                    refine w_addN (22 * lv + dr) 289 (by decide +kernel) (by omega) ?_
                    refine w_load (.iload_n 2) 290 (by decide +kernel) rfl rfl ?_
                    refine w_pushN 4 291 (by decide +kernel) ?_
                    refine w_rem 292 (by decide +kernel) (by decide) ?_
                    refine w_iastE 293 (by decide +kernel) sh_78 (by omega) (by omega) hS (rg_78 (fun h1 h2 => by first | omega | exact Or.inl rfl | exact Or.inr ⟨_, by omega, rfl⟩ | exact inv_78 hS.1 _ (by omega) (by omega) | exact inv_82 hS.1 _ (by omega) (by omega) | exact inv_89 hS.1 _ (by omega) (by omega))) (by first | exact rfl | omega | (dsimp only; omega) | (simp only [Hs, Tl, Sc, isHs, isScr, isTs] at *; omega)) (fun Nq74 hS hq74 oq74 mq74 => ?_)
                    refine w_pushN 1 294 (by decide +kernel) ?_
                    exact w_retZ (by decide +kernel) (Or.inr rfl) (hq _ Nq74 hS (Or.inr rfl))
                  · skip
                    refine w_load (.aload_n 0) 248 (by decide +kernel) rfl rfl ?_
                    refine w_getR (k := 2) (r := 78) 251 (by decide +kernel) sh_76 rfl ?_
                    refine w_load (.iload 5) 253 (by decide +kernel) rfl rfl ?_
                    refine w_pushN 5 254 (by decide +kernel) ?_
                    refine w_addN (22 * lv + 5) 255 (by decide +kernel) (by omega) ?_
                    refine w_load (.iload_n 3) 256 (by decide +kernel) rfl rfl ?_
                    refine w_addN (22 * lv + 5 + dr) 257 (by decide +kernel) (by omega) ?_
                    refine w_pure .dup2 258 (by decide +kernel) rfl rfl ?_
                    refine w_ialdN 259 (by decide +kernel) sh_78 (by omega) (by omega) ?_
                    refine w_pushN 1 260 (by decide +kernel) ?_
                    refine w_pure .isub 261 (by decide +kernel) rfl rfl ?_
                    refine w_iastE 262 (by decide +kernel) sh_78 (by omega) (by omega) hS (rg_78 (fun h1 h2 => by first | omega | exact Or.inl rfl | exact Or.inr ⟨_, by omega, rfl⟩ | exact inv_78 hS.1 _ (by omega) (by omega) | exact inv_82 hS.1 _ (by omega) (by omega) | exact inv_89 hS.1 _ (by omega) (by omega))) (by first | exact rfl | omega | (dsimp only; omega) | (simp only [Hs, Tl, Sc, isHs, isScr, isTs] at *; omega)) (fun Nq75 hS hq75 oq75 mq75 => ?_)
                    refine w_load (.aload_n 0) 263 (by decide +kernel) rfl rfl ?_
                    refine w_getR (k := 2) (r := 78) 266 (by decide +kernel) sh_76 rfl ?_
                    refine w_load (.iload 5) 268 (by decide +kernel) rfl rfl ?_
                    refine w_pushN 5 269 (by decide +kernel) ?_
                    refine w_addN (22 * lv + 5) 270 (by decide +kernel) (by omega) ?_
                    refine w_load (.iload 4) 272 (by decide +kernel) rfl rfl ?_
                    refine w_addN (22 * lv + 5 + k5) 273 (by decide +kernel) (by omega) ?_
                    refine w_pure .dup2 274 (by decide +kernel) rfl rfl ?_
                    refine w_ialdN 275 (by decide +kernel) sh_78 (by omega) (by omega) ?_
                    refine w_pushN 1 276 (by decide +kernel) ?_
                    refine w_pure .iadd 277 (by decide +kernel) rfl rfl ?_
                    refine w_iastE 278 (by decide +kernel) sh_78 (by omega) (by omega) hS (rg_78 (fun h1 h2 => by first | omega | exact Or.inl rfl | exact Or.inr ⟨_, by omega, rfl⟩ | exact inv_78 hS.1 _ (by omega) (by omega) | exact inv_82 hS.1 _ (by omega) (by omega) | exact inv_89 hS.1 _ (by omega) (by omega))) (by first | exact rfl | omega | (dsimp only; omega) | (simp only [Hs, Tl, Sc, isHs, isScr, isTs] at *; omega)) (fun Nq76 hS hq76 oq76 mq76 => ?_)
                    refine w_goto 293 (by decide +kernel) ?_
                    refine w_pushN 1 294 (by decide +kernel) ?_
                    exact w_retZ (by decide +kernel) (Or.inr rfl) (hq _ Nq76 hS (Or.inr rfl))
                · skip
                  refine w_load (.aload_n 0) 211 (by decide +kernel) rfl rfl ?_
                  refine w_getR (k := 2) (r := 78) 214 (by decide +kernel) sh_76 rfl ?_
                  refine w_load (.iload 5) 216 (by decide +kernel) rfl rfl ?_
                  refine w_pushN 10 218 (by decide +kernel) ?_
                  refine w_addN (22 * lv + 10) 219 (by decide +kernel) (by omega) ?_
                  refine w_load (.iload_n 3) 220 (by decide +kernel) rfl rfl ?_
                  refine w_addN (22 * lv + 10 + dr) 221 (by decide +kernel) (by omega) ?_
                  refine w_load (.iload 4) 223 (by decide +kernel) rfl rfl ?_
                  refine w_iastE 224 (by decide +kernel) sh_78 (by omega) (by omega) hS (rg_78 (fun h1 h2 => by first | omega | exact Or.inl rfl | exact Or.inr ⟨_, by omega, rfl⟩ | exact inv_78 hS.1 _ (by omega) (by omega) | exact inv_82 hS.1 _ (by omega) (by omega) | exact inv_89 hS.1 _ (by omega) (by omega))) (by first | exact rfl | omega | (dsimp only; omega) | (simp only [Hs, Tl, Sc, isHs, isScr, isTs] at *; omega)) (fun Nq77 hS hq77 oq77 mq77 => ?_)
                  refine w_load (.aload_n 0) 225 (by decide +kernel) rfl rfl ?_
                  refine w_getR (k := 2) (r := 78) 228 (by decide +kernel) sh_76 rfl ?_
                  refine w_load (.iload 5) 230 (by decide +kernel) rfl rfl ?_
                  refine w_pushN 10 232 (by decide +kernel) ?_
                  refine w_addN (22 * lv + 10) 233 (by decide +kernel) (by omega) ?_
                  refine w_load (.iload 4) 235 (by decide +kernel) rfl rfl ?_
                  refine w_addN (22 * lv + 10 + k5) 236 (by decide +kernel) (by omega) ?_
                  refine w_load (.iload_n 3) 237 (by decide +kernel) rfl rfl ?_
                  refine w_iastE 238 (by decide +kernel) sh_78 (by omega) (by omega) hS (rg_78 (fun h1 h2 => by first | omega | exact Or.inl rfl | exact Or.inr ⟨_, by omega, rfl⟩ | exact inv_78 hS.1 _ (by omega) (by omega) | exact inv_82 hS.1 _ (by omega) (by omega) | exact inv_89 hS.1 _ (by omega) (by omega))) (by first | exact rfl | omega | (dsimp only; omega) | (simp only [Hs, Tl, Sc, isHs, isScr, isTs] at *; omega)) (fun Nq78 hS hq78 oq78 mq78 => ?_)
                  refine w_goto 293 (by decide +kernel) ?_
                  refine w_pushN 1 294 (by decide +kernel) ?_
                  exact w_retZ (by decide +kernel) (Or.inr rfl) (hq _ Nq78 hS (Or.inr rfl))
              · skip
                refine w_load (.aload_n 0) 131 (by decide +kernel) rfl rfl ?_
                refine w_getR (k := 2) (r := 78) 134 (by decide +kernel) sh_76 rfl ?_
                refine w_load (.iload 5) 136 (by decide +kernel) rfl rfl ?_
                refine w_pushN 10 138 (by decide +kernel) ?_
                refine w_addN (22 * lv + 10) 139 (by decide +kernel) (by omega) ?_
                refine w_load (.iload 4) 141 (by decide +kernel) rfl rfl ?_
                refine w_addN (22 * lv + 10 + k5) 142 (by decide +kernel) (by omega) ?_
                refine w_ialdN 143 (by decide +kernel) sh_78 (by omega) (by omega) ?_
                refine w_topi (fun v79 ev79 => ?_)
                refine w_store (ls' := [.ref 76, .int (nI lv), .int a, .int (nI dr), .int (nI k5), .int (nI (22 * lv)), .int v1, .int (nI 1), .int v79]) (.istore 8) 145 (by decide +kernel) rfl rfl ?_
                have hwv79 : wedv v79 := by rw [ev79]; exact inv_78 hS.1 _ (by omega) (by omega)
                refine w_load (.aload_n 0) 146 (by decide +kernel) rfl rfl ?_
                refine w_getR (k := 2) (r := 78) 149 (by decide +kernel) sh_76 rfl ?_
                refine w_load (.iload 5) 151 (by decide +kernel) rfl rfl ?_
                refine w_pushN 15 153 (by decide +kernel) ?_
                refine w_addN (22 * lv + 15) 154 (by decide +kernel) (by omega) ?_
                refine w_pure .dup2 155 (by decide +kernel) rfl rfl ?_
                refine w_ialdN 156 (by decide +kernel) sh_78 (by omega) (by omega) ?_
                refine w_pushN 1 157 (by decide +kernel) ?_
                refine w_load (.iload 4) 159 (by decide +kernel) rfl rfl ?_
                refine w_pure .ishl 160 (by decide +kernel) rfl rfl ?_
                refine w_push (-1) 161 (by decide +kernel) ?_
                refine w_pure .ixor 162 (by decide +kernel) rfl rfl ?_
                refine w_pure .iand 163 (by decide +kernel) rfl rfl ?_
                refine w_iastE 164 (by decide +kernel) sh_78 (by omega) (by omega) hS (rg_78 (fun h1 h2 => by first | omega | exact Or.inl rfl | exact Or.inr ⟨_, by omega, rfl⟩ | exact inv_78 hS.1 _ (by omega) (by omega) | exact inv_82 hS.1 _ (by omega) (by omega) | exact inv_89 hS.1 _ (by omega) (by omega))) (by first | exact rfl | omega | (dsimp only; omega) | (simp only [Hs, Tl, Sc, isHs, isScr, isTs] at *; omega)) (fun Nq80 hS hq80 oq80 mq80 => ?_)
                refine w_load (.aload_n 0) 165 (by decide +kernel) rfl rfl ?_
                refine w_getR (k := 2) (r := 78) 168 (by decide +kernel) sh_76 rfl ?_
                refine w_load (.iload 5) 170 (by decide +kernel) rfl rfl ?_
                refine w_pushN 10 172 (by decide +kernel) ?_
                refine w_addN (22 * lv + 10) 173 (by decide +kernel) (by omega) ?_
                refine w_load (.iload 4) 175 (by decide +kernel) rfl rfl ?_
                refine w_addN (22 * lv + 10 + k5) 176 (by decide +kernel) (by omega) ?_
                refine w_push (-9) 178 (by decide +kernel) ?_
                refine w_iastE 179 (by decide +kernel) sh_78 (by omega) (by omega) hS (rg_78 (fun h1 h2 => by first | omega | exact Or.inl rfl | exact Or.inr ⟨_, by omega, rfl⟩ | exact inv_78 hS.1 _ (by omega) (by omega) | exact inv_82 hS.1 _ (by omega) (by omega) | exact inv_89 hS.1 _ (by omega) (by omega))) (by first | exact rfl | omega | (dsimp only; omega) | (simp only [Hs, Tl, Sc, isHs, isScr, isTs] at *; omega)) (fun Nq81 hS hq81 oq81 mq81 => ?_)
                refine w_load (.iload 8) 181 (by decide +kernel) rfl rfl ?_
                refine w_push (-9) 183 (by decide +kernel) ?_
                refine w_ceq 201 186 (by decide +kernel) (fun h82 => ?_) (fun h82 => ?_)
                · skip
                  refine w_goto 293 (by decide +kernel) ?_
                  refine w_pushN 1 294 (by decide +kernel) ?_
                  exact w_retZ (by decide +kernel) (Or.inr rfl) (hq _ Nq81 hS (Or.inr rfl))
                · skip
                  obtain ⟨k83, hk83, hxk83⟩ := hwv79.resolve_left h82
                  rw [hxk83]
                  refine w_load (.aload_n 0) 187 (by decide +kernel) rfl rfl ?_
                  refine w_getR (k := 2) (r := 78) 190 (by decide +kernel) sh_76 rfl ?_
                  refine w_load (.iload 5) 192 (by decide +kernel) rfl rfl ?_
                  refine w_pushN 10 194 (by decide +kernel) ?_
                  refine w_addN (22 * lv + 10) 195 (by decide +kernel) (by omega) ?_
                  refine w_load (.iload 8) 197 (by decide +kernel) rfl rfl ?_
                  refine w_addN (22 * lv + 10 + k83) 198 (by decide +kernel) (by omega) ?_
                  refine w_push (-9) 200 (by decide +kernel) ?_
                  refine w_iastE 201 (by decide +kernel) sh_78 (by omega) (by omega) hS (rg_78 (fun h1 h2 => by first | omega | exact Or.inl rfl | exact Or.inr ⟨_, by omega, rfl⟩ | exact inv_78 hS.1 _ (by omega) (by omega) | exact inv_82 hS.1 _ (by omega) (by omega) | exact inv_89 hS.1 _ (by omega) (by omega))) (by first | exact rfl | omega | (dsimp only; omega) | (simp only [Hs, Tl, Sc, isHs, isScr, isTs] at *; omega)) (fun Nq84 hS hq84 oq84 mq84 => ?_)
                  refine w_goto 293 (by decide +kernel) ?_
                  refine w_pushN 1 294 (by decide +kernel) ?_
                  exact w_retZ (by decide +kernel) (Or.inr rfl) (hq _ Nq84 hS (Or.inr rfl))
-- X8_deed
set_option maxRecDepth 10000 in
theorem k_157 {d : Nat} {M : Mt} {L : Lt} {Q : Option Value → Mt → Lt → Prop} {lv : Nat} {a : Int32} (hI : Inv M) (hlv : lv ≤ 7) (hd : 2 ≤ d) (hq : ∀ (r : Int32) (N : Mt), St (fun i k => (i = 78 ∧ 22 * lv ≤ k ∧ k < 22 * lv + 22) ∨ (i = 76 ∧ k = 7)) M N → (r = 0 ∨ r = 1) → Q (some (.int r)) N L) : Wp d 157 0 [.ref 76, .int (nI lv), .int a, .null, .null, .null, .null] [] M L Q := by
  refine (show ∀ N : Mt, N = M → St (fun i k => (i = 78 ∧ 22 * lv ≤ k ∧ k < 22 * lv + 22) ∨ (i = 76 ∧ k = 7)) M N → Wp d 157 0 [.ref 76, .int (nI lv), .int a, .null, .null, .null, .null] [] N L Q from ?_) M rfl (St.rf hI)
  intro N hNM hS
  refine w_load (.aload_n 0) 1 (by decide +kernel) rfl rfl ?_
  refine w_load (.iload_n 1) 2 (by decide +kernel) rfl rfl ?_
  refine w_load (.iload_n 2) 3 (by decide +kernel) rfl rfl ?_
  refine w_pushN 4 4 (by decide +kernel) ?_
  refine w_div 5 (by decide +kernel) (by decide) ?_
  refine w_pushN 4 6 (by decide +kernel) ?_
  refine w_rem 7 (by decide +kernel) (by decide) ?_
  refine w_callV2 152 8 6 10 (by decide +kernel) sh_76 (Nat.le_of_ble_eq_true rfl) rfl rfl (by decide) (by omega) ?_
  refine k_152 hS.1 (by omega) (by omega) (fun r1 hr1 => ?_)
  dsimp only [Option.toList, List.cons_append, List.nil_append]
  refine w_store (ls' := [.ref 76, .int (nI lv), .int a, .int r1, .null, .null, .null]) (.istore_n 3) 11 (by decide +kernel) rfl rfl ?_
  refine w_load (.aload_n 0) 12 (by decide +kernel) rfl rfl ?_
  refine w_load (.iload_n 1) 13 (by decide +kernel) rfl rfl ?_
  refine w_load (.iload_n 3) 14 (by decide +kernel) rfl rfl ?_
  refine w_callV2 155 8 5 17 (by decide +kernel) sh_76 (Nat.le_of_ble_eq_true rfl) rfl rfl (by decide) (by omega) ?_
  refine k_155 hS.1 (by omega) (by omega) (fun r2 hr2 => ?_)
  dsimp only [Option.toList, List.cons_append, List.nil_append]
  refine w_store (ls' := [.ref 76, .int (nI lv), .int a, .int r1, .int r2, .null, .null]) (.istore 4) 19 (by decide +kernel) rfl rfl ?_
  refine w_load (.iload 4) 21 (by decide +kernel) rfl rfl ?_
  refine w_ine 60 24 (by decide +kernel) (fun h3 => ?_) (fun h3 => ?_)
  · skip
    refine w_load (.iload 4) 62 (by decide +kernel) rfl rfl ?_
    refine w_callS1 154 2 65 (by decide +kernel) (Nat.le_of_ble_eq_true rfl) rfl (by decide) (by omega) ?_
    refine k_154 hS.1  (by omega) (fun r4 hr4 => ?_)
    dsimp only [Option.toList, List.cons_append, List.nil_append]
    rcases hr4 with ⟨kr4, hkr4, rfl⟩ | ⟨rfl, hnor4⟩
    · skip
      refine w_store (ls' := [.ref 76, .int (nI lv), .int a, .int r1, .int r2, .int (nI kr4), .null]) (.istore 5) 67 (by decide +kernel) rfl rfl ?_
      refine w_load (.aload_n 0) 68 (by decide +kernel) rfl rfl ?_
      refine w_load (.iload_n 1) 69 (by decide +kernel) rfl rfl ?_
      refine w_load (.iload_n 2) 70 (by decide +kernel) rfl rfl ?_
      refine w_load (.iload 5) 72 (by decide +kernel) rfl rfl ?_
      refine w_load (.aload_n 0) 73 (by decide +kernel) rfl rfl ?_
      refine w_load (.iload_n 1) 74 (by decide +kernel) rfl rfl ?_
      refine w_load (.iload_n 2) 75 (by decide +kernel) rfl rfl ?_
      refine w_pushN 4 76 (by decide +kernel) ?_
      refine w_rem 77 (by decide +kernel) (by decide) ?_
      refine w_callV2 152 8 6 80 (by decide +kernel) sh_76 (Nat.le_of_ble_eq_true rfl) rfl rfl (by decide) (by omega) ?_
      refine k_152 hS.1 (by omega) (by omega) (fun r5 hr5 => ?_)
      dsimp only [Option.toList, List.cons_append, List.nil_append]
      refine w_pushN 1 81 (by decide +kernel) ?_
      refine w_load (.iload 5) 83 (by decide +kernel) rfl rfl ?_
      refine w_pure .ishl 84 (by decide +kernel) rfl rfl ?_
      refine w_push (-1) 85 (by decide +kernel) ?_
      refine w_pure .ixor 86 (by decide +kernel) rfl rfl ?_
      refine w_pure .iand 87 (by decide +kernel) rfl rfl ?_
      refine w_callS1 154 2 90 (by decide +kernel) (Nat.le_of_ble_eq_true rfl) rfl (by decide) (by omega) ?_
      refine k_154 hS.1  (by omega) (fun r6 hr6 => ?_)
      dsimp only [Option.toList, List.cons_append, List.nil_append]
      rcases hr6 with ⟨kr6, hkr6, rfl⟩ | ⟨rfl, hnor6⟩
      · skip
        refine w_callV4 156 8 9 93 (by decide +kernel) sh_76 (Nat.le_of_ble_eq_true rfl) rfl rfl rfl rfl (by decide) (by omega) ?_
        refine k_156 hS.1 (by omega) (by omega) (Or.inr ⟨_, by omega, rfl⟩) (by omega) (fun r7 Nr7 hTr7 hr7 => ?_)
        have hS := hS.tr hTr7 (by intro i k; first | exact rfl | exact fun h => h.elim | omega | (dsimp only; omega) | (simp only [Hs, Tl, Sc, isHs, isScr, isTs] at *; omega))
        dsimp only [Option.toList, List.cons_append, List.nil_append]
        refine w_store (ls' := [.ref 76, .int (nI lv), .int a, .int r1, .int r2, .int (nI kr4), .int r7]) (.istore 6) 95 (by decide +kernel) rfl rfl ?_
        refine w_load (.aload_n 0) 96 (by decide +kernel) rfl rfl ?_
        refine w_pure .dup 97 (by decide +kernel) rfl rfl ?_
        refine w_getI (k := 7) 100 (by decide +kernel) sh_76 rfl ?_
        refine w_load (.iload 6) 102 (by decide +kernel) rfl rfl ?_
        refine w_ieq 109 105 (by decide +kernel) (fun h8 => ?_) (fun h8 => ?_)
        · skip
          refine w_pushN 1 110 (by decide +kernel) ?_
          refine w_pure .iadd 111 (by decide +kernel) rfl rfl ?_
          refine w_putE (k := 7) 114 (by decide +kernel) sh_76 rfl hS (rg_76 (by decide)) (by first | exact rfl | omega | (dsimp only; omega) | (simp only [Hs, Tl, Sc, isHs, isScr, isTs] at *; omega)) (fun Nq9 hS hq9 oq9 mq9 => ?_)
          refine w_load (.iload 6) 116 (by decide +kernel) rfl rfl ?_
          exact w_retZ (by decide +kernel) (by assumption) (hq _ Nq9 hS (by assumption))
        · skip
          refine w_pushN 0 106 (by decide +kernel) ?_
          refine w_goto 110 (by decide +kernel) ?_
          refine w_pure .iadd 111 (by decide +kernel) rfl rfl ?_
          refine w_putE (k := 7) 114 (by decide +kernel) sh_76 rfl hS (rg_76 (by decide)) (by first | exact rfl | omega | (dsimp only; omega) | (simp only [Hs, Tl, Sc, isHs, isScr, isTs] at *; omega)) (fun Nq10 hS hq10 oq10 mq10 => ?_)
          refine w_load (.iload 6) 116 (by decide +kernel) rfl rfl ?_
          exact w_retZ (by decide +kernel) (by assumption) (hq _ Nq10 hS (by assumption))
      · skip
        refine w_callV4 156 8 9 93 (by decide +kernel) sh_76 (Nat.le_of_ble_eq_true rfl) rfl rfl rfl rfl (by decide) (by omega) ?_
        refine k_156 hS.1 (by omega) (by omega) (Or.inl rfl) (by omega) (fun r11 Nr11 hTr11 hr11 => ?_)
        have hS := hS.tr hTr11 (by intro i k; first | exact rfl | exact fun h => h.elim | omega | (dsimp only; omega) | (simp only [Hs, Tl, Sc, isHs, isScr, isTs] at *; omega))
        dsimp only [Option.toList, List.cons_append, List.nil_append]
        refine w_store (ls' := [.ref 76, .int (nI lv), .int a, .int r1, .int r2, .int (nI kr4), .int r11]) (.istore 6) 95 (by decide +kernel) rfl rfl ?_
        refine w_load (.aload_n 0) 96 (by decide +kernel) rfl rfl ?_
        refine w_pure .dup 97 (by decide +kernel) rfl rfl ?_
        refine w_getI (k := 7) 100 (by decide +kernel) sh_76 rfl ?_
        refine w_load (.iload 6) 102 (by decide +kernel) rfl rfl ?_
        refine w_ieq 109 105 (by decide +kernel) (fun h12 => ?_) (fun h12 => ?_)
        · skip
          refine w_pushN 1 110 (by decide +kernel) ?_
          refine w_pure .iadd 111 (by decide +kernel) rfl rfl ?_
          refine w_putE (k := 7) 114 (by decide +kernel) sh_76 rfl hS (rg_76 (by decide)) (by first | exact rfl | omega | (dsimp only; omega) | (simp only [Hs, Tl, Sc, isHs, isScr, isTs] at *; omega)) (fun Nq13 hS hq13 oq13 mq13 => ?_)
          refine w_load (.iload 6) 116 (by decide +kernel) rfl rfl ?_
          exact w_retZ (by decide +kernel) (by assumption) (hq _ Nq13 hS (by assumption))
        · skip
          refine w_pushN 0 106 (by decide +kernel) ?_
          refine w_goto 110 (by decide +kernel) ?_
          refine w_pure .iadd 111 (by decide +kernel) rfl rfl ?_
          refine w_putE (k := 7) 114 (by decide +kernel) sh_76 rfl hS (rg_76 (by decide)) (by first | exact rfl | omega | (dsimp only; omega) | (simp only [Hs, Tl, Sc, isHs, isScr, isTs] at *; omega)) (fun Nq14 hS hq14 oq14 mq14 => ?_)
          refine w_load (.iload 6) 116 (by decide +kernel) rfl rfl ?_
          exact w_retZ (by decide +kernel) (by assumption) (hq _ Nq14 hS (by assumption))
    · skip
      exact (no_least (by assumption) (by assumption) hnor4).elim
  · skip
    refine w_load (.iload_n 3) 25 (by decide +kernel) rfl rfl ?_
    refine w_ieq 58 28 (by decide +kernel) (fun h15 => ?_) (fun h15 => ?_)
    · skip
      refine w_pushN 0 59 (by decide +kernel) ?_
      exact w_retZ (by decide +kernel) (Or.inl rfl) (hq _ N hS (Or.inl rfl))
    · skip
      refine w_load (.aload_n 0) 29 (by decide +kernel) rfl rfl ?_
      refine w_getR (k := 2) (r := 78) 32 (by decide +kernel) sh_76 rfl ?_
      refine w_pushN 22 34 (by decide +kernel) ?_
      refine w_load (.iload_n 1) 35 (by decide +kernel) rfl rfl ?_
      refine w_mulN (22 * lv) 36 (by decide +kernel) rfl ?_
      refine w_pushN 5 37 (by decide +kernel) ?_
      refine w_addN (22 * lv + 5) 38 (by decide +kernel) (by omega) ?_
      refine w_load (.iload_n 3) 39 (by decide +kernel) rfl rfl ?_
      refine w_callS1 154 2 42 (by decide +kernel) (Nat.le_of_ble_eq_true rfl) rfl (by decide) (by omega) ?_
      refine k_154 hS.1  (by omega) (fun r16 hr16 => ?_)
      dsimp only [Option.toList, List.cons_append, List.nil_append]
      rcases hr16 with ⟨kr16, hkr16, rfl⟩ | ⟨rfl, hnor16⟩
      · skip
        refine w_addN (22 * lv + 5 + kr16) 43 (by decide +kernel) (by omega) ?_
        refine w_pure .dup2 44 (by decide +kernel) rfl rfl ?_
        refine w_ialdN 45 (by decide +kernel) sh_78 (by omega) (by omega) ?_
        refine w_pushN 1 46 (by decide +kernel) ?_
        refine w_pure .isub 47 (by decide +kernel) rfl rfl ?_
        refine w_iastE 48 (by decide +kernel) sh_78 (by omega) (by omega) hS (rg_78 (fun h1 h2 => by first | omega | exact Or.inl rfl | exact Or.inr ⟨_, by omega, rfl⟩ | exact inv_78 hS.1 _ (by omega) (by omega) | exact inv_82 hS.1 _ (by omega) (by omega) | exact inv_89 hS.1 _ (by omega) (by omega))) (by first | exact rfl | omega | (dsimp only; omega) | (simp only [Hs, Tl, Sc, isHs, isScr, isTs] at *; omega)) (fun Nq17 hS hq17 oq17 mq17 => ?_)
        refine w_load (.aload_n 0) 49 (by decide +kernel) rfl rfl ?_
        refine w_pure .dup 50 (by decide +kernel) rfl rfl ?_
        refine w_getI (k := 7) 53 (by decide +kernel) sh_76 rfl ?_
        refine w_pushN 1 54 (by decide +kernel) ?_
        refine w_pure .iadd 55 (by decide +kernel) rfl rfl ?_
        refine w_putE (k := 7) 58 (by decide +kernel) sh_76 rfl hS (rg_76 (by decide)) (by first | exact rfl | omega | (dsimp only; omega) | (simp only [Hs, Tl, Sc, isHs, isScr, isTs] at *; omega)) (fun Nq18 hS hq18 oq18 mq18 => ?_)
        refine w_pushN 0 59 (by decide +kernel) ?_
        exact w_retZ (by decide +kernel) (Or.inl rfl) (hq _ Nq18 hS (Or.inl rfl))
      · skip
        exact (no_least (by assumption) (by assumption) hnor16).elim
-- X8_dusk
set_option maxRecDepth 10000 in
theorem k_158 {d : Nat} {M : Mt} {L : Lt} {Q : Option Value → Mt → Lt → Prop} {lv : Nat}  (hI : Inv M) (hlv : lv ≤ 7) (hd : 0 ≤ d) (hq : ∀ (N : Mt), St (fun i k => (i = 78 ∧ 22 * lv ≤ k ∧ k < 22 * lv + 22) ∨ (i = 76 ∧ k = 7)) M N → True → Q none N L) : Wp d 158 0 [.ref 76, .int (nI lv), .null] [] M L Q := by
  refine (show ∀ N : Mt, N = M → St (fun i k => (i = 78 ∧ 22 * lv ≤ k ∧ k < 22 * lv + 22) ∨ (i = 76 ∧ k = 7)) M N → Wp d 158 0 [.ref 76, .int (nI lv), .null] [] N L Q from ?_) M rfl (St.rf hI)
  intro N hNM hS
  refine w_pushN 0 1 (by decide +kernel) ?_
  refine w_store (ls' := [.ref 76, .int (nI lv), .int (nI 0)]) (.istore_n 2) 2 (by decide +kernel) rfl rfl ?_
  have LP_2 : ∀ (kk : Nat) (N_2 : Mt) (g2 : Nat), St (fun i k => (i = 78 ∧ 22 * lv ≤ k ∧ k < 22 * lv + 22) ∨ (i = 76 ∧ k = 7)) M N_2 → g2 ≤ 5 → 5 - g2 < kk → Wp d 158 2 [.ref 76, .int (nI lv), .int (nI g2)] [] N_2 L Q := by
    intro kk
    induction kk with
    | zero => intro N_2 g2 hS hi0_2 hm_2; exact absurd hm_2 (Nat.not_lt_zero _)
    | succ kk ih_2 =>
      intro N_2 g2 hS hi0_2 hm_2
      refine w_load (.iload_n 2) 3 (by decide +kernel) rfl rfl ?_
      refine w_pushN 5 4 (by decide +kernel) ?_
      refine w_cgeN 33 7 (by decide +kernel) (by omega) (by omega) (fun h1 => ?_) (fun h1 => ?_)
      · skip
        refine w_load (.aload_n 0) 34 (by decide +kernel) rfl rfl ?_
        refine w_pushN 0 35 (by decide +kernel) ?_
        refine w_putE (k := 7) 38 (by decide +kernel) sh_76 rfl hS (rg_76 (by decide)) (by first | exact rfl | omega | (dsimp only; omega) | (simp only [Hs, Tl, Sc, isHs, isScr, isTs] at *; omega)) (fun Nq2 hS hq2 oq2 mq2 => ?_)
        exact w_retV (by decide +kernel) (hq Nq2 hS trivial)
      · skip
        refine w_load (.aload_n 0) 8 (by decide +kernel) rfl rfl ?_
        refine w_getR (k := 2) (r := 78) 11 (by decide +kernel) sh_76 rfl ?_
        refine w_pushN 22 13 (by decide +kernel) ?_
        refine w_load (.iload_n 1) 14 (by decide +kernel) rfl rfl ?_
        refine w_mulN (22 * lv) 15 (by decide +kernel) rfl ?_
        refine w_pushN 17 17 (by decide +kernel) ?_
        refine w_addN (22 * lv + 17) 18 (by decide +kernel) (by omega) ?_
        refine w_load (.iload_n 2) 19 (by decide +kernel) rfl rfl ?_
        refine w_addN (22 * lv + 17 + g2) 20 (by decide +kernel) (by omega) ?_
        refine w_load (.aload_n 0) 21 (by decide +kernel) rfl rfl ?_
        refine w_getR (k := 1) (r := 77) 24 (by decide +kernel) sh_76 rfl ?_
        refine w_load (.iload_n 2) 25 (by decide +kernel) rfl rfl ?_
        refine w_ialdN 26 (by decide +kernel) sh_77 (by omega) (by omega) ?_
        refine w_iastE 27 (by decide +kernel) sh_78 (by omega) (by omega) hS (rg_78 (fun h1 h2 => by first | omega | exact Or.inl rfl | exact Or.inr ⟨_, by omega, rfl⟩ | exact inv_78 hS.1 _ (by omega) (by omega) | exact inv_82 hS.1 _ (by omega) (by omega) | exact inv_89 hS.1 _ (by omega) (by omega))) (by first | exact rfl | omega | (dsimp only; omega) | (simp only [Hs, Tl, Sc, isHs, isScr, isTs] at *; omega)) (fun Nq3 hS hq3 oq3 mq3 => ?_)
        refine w_iincN (z := 2) (g2 + 1) 30 (by decide +kernel) rfl (Nat.le_of_ble_eq_true rfl) rfl rfl ?_
        show Wp _ _ _ [.ref 76, .int (nI lv), .int (nI (g2 + 1))] _ _ _ _
        refine w_goto 2 (by decide +kernel) ?_
        exact ih_2 Nq3 (g2 + 1) hS (by omega) (by omega)
  exact LP_2 _ N 0 hS (by omega) (Nat.lt_succ_self _)
-- X8_tellOn
set_option maxRecDepth 10000 in
theorem k_159 {d : Nat} {M : Mt} {L : Lt} {Q : Option Value → Mt → Lt → Prop} {lv t : Nat} {a : Int32} (hI : Inv M) (hlv : lv ≤ 7) (ht : t < 3) (hd : 3 ≤ d) (hq : ∀ (r : Int32) (N : Mt), St (fun i k => (i = 78 ∧ 22 * lv ≤ k ∧ k < 22 * lv + 22) ∨ (i = 76 ∧ k = 7)) M N → True → Q (some (.int r)) N L) : Wp d 159 0 [.ref 76, .int (nI lv), .int (nI t), .int a, .null, .null, .null] [] M L Q := by
  refine (show ∀ N : Mt, N = M → St (fun i k => (i = 78 ∧ 22 * lv ≤ k ∧ k < 22 * lv + 22) ∨ (i = 76 ∧ k = 7)) M N → Wp d 159 0 [.ref 76, .int (nI lv), .int (nI t), .int a, .null, .null, .null] [] N L Q from ?_) M rfl (St.rf hI)
  intro N hNM hS
  refine w_load (.aload_n 0) 1 (by decide +kernel) rfl rfl ?_
  refine w_load (.iload_n 1) 2 (by decide +kernel) rfl rfl ?_
  refine w_callV1 158 8 3 5 (by decide +kernel) sh_76 (Nat.le_of_ble_eq_true rfl) rfl (by decide) (by omega) ?_
  refine k_158 hS.1 (by omega) (by omega) (fun Nr1 hTr1 hr1 => ?_)
  have hS := hS.tr hTr1 (by intro i k; first | exact rfl | exact fun h => h.elim | omega | (dsimp only; omega) | (simp only [Hs, Tl, Sc, isHs, isScr, isTs] at *; omega))
  dsimp only [Option.toList, List.nil_append]
  refine w_pushN 0 6 (by decide +kernel) ?_
  refine w_store (ls' := [.ref 76, .int (nI lv), .int (nI t), .int a, .int (nI 0), .null, .null]) (.istore 4) 8 (by decide +kernel) rfl rfl ?_
  refine w_load (.aload_n 0) 9 (by decide +kernel) rfl rfl ?_
  refine w_load (.iload_n 2) 10 (by decide +kernel) rfl rfl ?_
  refine w_callV1 148 8 3 13 (by decide +kernel) sh_76 (Nat.le_of_ble_eq_true rfl) rfl (by decide) (by omega) ?_
  obtain ⟨n2, hn2, en2⟩ := inv_81 hS.1 t
  refine k_148 hS.1 (by omega) (by omega) en2 (by omega) (fun r3 hr3 => ?_)
  dsimp only [Option.toList, List.cons_append, List.nil_append]
  rcases hr3 with ⟨kr3, hsr3, rfl⟩
  · skip
    have hlr3 := hsr3.1
    refine w_store (ls' := [.ref 76, .int (nI lv), .int (nI t), .int a, .int (nI 0), .int (nI ((kr3 / 3))), .null]) (.istore 5) 15 (by decide +kernel) rfl rfl ?_
    refine w_pushN 0 16 (by decide +kernel) ?_
    refine w_store (ls' := [.ref 76, .int (nI lv), .int (nI t), .int a, .int (nI 0), .int (nI ((kr3 / 3))), .int (nI 0)]) (.istore 6) 18 (by decide +kernel) rfl rfl ?_
    have LP_18 : ∀ (kk : Nat) (N_18 : Mt) (x4_18 : Int32) (g6 : Nat), St (fun i k => (i = 78 ∧ 22 * lv ≤ k ∧ k < 22 * lv + 22) ∨ (i = 76 ∧ k = 7)) M N_18 → g6 ≤ 8 → 8 - g6 < kk → Wp d 159 18 [.ref 76, .int (nI lv), .int (nI t), .int a, .int x4_18, .int (nI ((kr3 / 3))), .int (nI g6)] [] N_18 L Q := by
      intro kk
      induction kk with
      | zero => intro N_18 x4_18 g6 hS hi0_18 hm_18; exact absurd hm_18 (Nat.not_lt_zero _)
      | succ kk ih_18 =>
        intro N_18 x4_18 g6 hS hi0_18 hm_18
        refine w_load (.iload 6) 20 (by decide +kernel) rfl rfl ?_
        refine w_load (.iload 5) 22 (by decide +kernel) rfl rfl ?_
        refine w_cgeN 64 25 (by decide +kernel) (by omega) (by omega) (fun h4 => ?_) (fun h4 => ?_)
        · skip
          refine w_load (.aload_n 0) 65 (by decide +kernel) rfl rfl ?_
          refine w_getR (k := 2) (r := 78) 68 (by decide +kernel) sh_76 rfl ?_
          refine w_pushN 22 70 (by decide +kernel) ?_
          refine w_load (.iload_n 1) 71 (by decide +kernel) rfl rfl ?_
          refine w_mulN (22 * lv) 72 (by decide +kernel) rfl ?_
          refine w_pushN 16 74 (by decide +kernel) ?_
          refine w_addN (22 * lv + 16) 75 (by decide +kernel) (by omega) ?_
          refine w_pure .dup2 76 (by decide +kernel) rfl rfl ?_
          refine w_ialdN 77 (by decide +kernel) sh_78 (by omega) (by omega) ?_
          refine w_pushN 1 78 (by decide +kernel) ?_
          refine w_pure .iadd 79 (by decide +kernel) rfl rfl ?_
          refine w_iastE 80 (by decide +kernel) sh_78 (by omega) (by omega) hS (rg_78 (fun h1 h2 => by first | omega | exact Or.inl rfl | exact Or.inr ⟨_, by omega, rfl⟩ | exact inv_78 hS.1 _ (by omega) (by omega) | exact inv_82 hS.1 _ (by omega) (by omega) | exact inv_89 hS.1 _ (by omega) (by omega))) (by first | exact rfl | omega | (dsimp only; omega) | (simp only [Hs, Tl, Sc, isHs, isScr, isTs] at *; omega)) (fun Nq5 hS hq5 oq5 mq5 => ?_)
          refine w_load (.iload 4) 82 (by decide +kernel) rfl rfl ?_
          exact w_ret (by decide +kernel) (hq _ Nq5 hS trivial)
        · skip
          refine w_load (.iload_n 3) 26 (by decide +kernel) rfl rfl ?_
          refine w_load (.iload 6) 28 (by decide +kernel) rfl rfl ?_
          refine w_callS2 135 2 31 (by decide +kernel) (Nat.le_of_ble_eq_true rfl) rfl rfl (by decide) (by omega) ?_
          refine k_135 hS.1  (by omega) (fun r6 hr6 => ?_)
          dsimp only [Option.toList, List.cons_append, List.nil_append]
          rcases hr6 with ⟨rfl, hbr6⟩ | ⟨rfl, hbr6⟩
          · skip
            refine w_ine 58 34 (by decide +kernel) (fun _ => ?_) (fun hz => absurd hz (by decide))
            refine w_iincN (z := 6) (g6 + 1) 61 (by decide +kernel) rfl (Nat.le_of_ble_eq_true rfl) rfl rfl ?_
            show Wp _ _ _ [.ref 76, .int (nI lv), .int (nI t), .int a, .int x4_18, .int (nI ((kr3 / 3))), .int (nI (g6 + 1))] _ _ _ _
            refine w_goto 18 (by decide +kernel) ?_
            exact ih_18 N_18 _ (g6 + 1) hS (by omega) (by omega)
          · skip
            refine w_ine 58 34 (by decide +kernel) (fun hz => absurd hz (by decide)) (fun _ => ?_)
            refine w_load (.aload_n 0) 35 (by decide +kernel) rfl rfl ?_
            refine w_load (.iload_n 1) 36 (by decide +kernel) rfl rfl ?_
            refine w_load (.aload_n 0) 37 (by decide +kernel) rfl rfl ?_
            refine w_load (.iload_n 2) 38 (by decide +kernel) rfl rfl ?_
            refine w_load (.iload 6) 40 (by decide +kernel) rfl rfl ?_
            refine w_callV2 149 8 4 43 (by decide +kernel) sh_76 (Nat.le_of_ble_eq_true rfl) rfl rfl (by decide) (by omega) ?_
            refine k_149 hS.1 (by omega) (by omega) (by omega) (fun r9 hr9 => ?_)
            dsimp only [Option.toList, List.cons_append, List.nil_append]
            refine w_callV2 157 8 7 46 (by decide +kernel) sh_76 (Nat.le_of_ble_eq_true rfl) rfl rfl (by decide) (by omega) ?_
            refine k_157 hS.1 (by omega) (by omega) (fun r10 Nr10 hTr10 hr10 => ?_)
            have hS := hS.tr hTr10 (by intro i k; first | exact rfl | exact fun h => h.elim | omega | (dsimp only; omega) | (simp only [Hs, Tl, Sc, isHs, isScr, isTs] at *; omega))
            dsimp only [Option.toList, List.cons_append, List.nil_append]
            refine w_ieq 58 49 (by decide +kernel) (fun h11 => ?_) (fun h11 => ?_)
            · skip
              refine w_iincN (z := 6) (g6 + 1) 61 (by decide +kernel) rfl (Nat.le_of_ble_eq_true rfl) rfl rfl ?_
              show Wp _ _ _ [.ref 76, .int (nI lv), .int (nI t), .int a, .int x4_18, .int (nI ((kr3 / 3))), .int (nI (g6 + 1))] _ _ _ _
              refine w_goto 18 (by decide +kernel) ?_
              exact ih_18 Nr10 _ (g6 + 1) hS (by omega) (by omega)
            · skip
              refine w_load (.iload 4) 51 (by decide +kernel) rfl rfl ?_
              refine w_pushN 1 52 (by decide +kernel) ?_
              refine w_load (.iload 6) 54 (by decide +kernel) rfl rfl ?_
              refine w_pure .ishl 55 (by decide +kernel) rfl rfl ?_
              refine w_pure .ior 56 (by decide +kernel) rfl rfl ?_
              refine w_topi (fun v12 ev12 => ?_)
              refine w_store (ls' := [.ref 76, .int (nI lv), .int (nI t), .int a, .int v12, .int (nI ((kr3 / 3))), .int (nI g6)]) (.istore 4) 58 (by decide +kernel) rfl rfl ?_
              refine w_iincN (z := 6) (g6 + 1) 61 (by decide +kernel) rfl (Nat.le_of_ble_eq_true rfl) rfl rfl ?_
              show Wp _ _ _ [.ref 76, .int (nI lv), .int (nI t), .int a, .int v12, .int (nI ((kr3 / 3))), .int (nI (g6 + 1))] _ _ _ _
              refine w_goto 18 (by decide +kernel) ?_
              exact ih_18 Nr10 _ (g6 + 1) hS (by omega) (by omega)
    exact LP_18 _ Nr1 _ 0 hS (by omega) (Nat.lt_succ_self _)
-- X8_lay
set_option maxRecDepth 10000 in
theorem k_160 {d : Nat} {M : Mt} {L : Lt} {Q : Option Value → Mt → Lt → Prop} {f t : Nat}  (hI : Inv M) (hf : f ≤ 7) (ht : t ≤ 7) (hd : 0 ≤ d) (hq : ∀ (N : Mt), St (fun i k => (i = 78 ∧ 22 * t ≤ k ∧ k < 22 * t + 22)) M N → True → Q none N L) : Wp d 160 0 [.ref 76, .int (nI f), .int (nI t), .null] [] M L Q := by
  refine (show ∀ N : Mt, N = M → St (fun i k => (i = 78 ∧ 22 * t ≤ k ∧ k < 22 * t + 22)) M N → Wp d 160 0 [.ref 76, .int (nI f), .int (nI t), .null] [] N L Q from ?_) M rfl (St.rf hI)
  intro N hNM hS
  refine w_pushN 0 1 (by decide +kernel) ?_
  refine w_store (ls' := [.ref 76, .int (nI f), .int (nI t), .int (nI 0)]) (.istore_n 3) 2 (by decide +kernel) rfl rfl ?_
  have LP_2 : ∀ (kk : Nat) (N_2 : Mt) (g3 : Nat), St (fun i k => (i = 78 ∧ 22 * t ≤ k ∧ k < 22 * t + 22)) M N_2 → g3 ≤ 22 → 22 - g3 < kk → Wp d 160 2 [.ref 76, .int (nI f), .int (nI t), .int (nI g3)] [] N_2 L Q := by
    intro kk
    induction kk with
    | zero => intro N_2 g3 hS hi0_2 hm_2; exact absurd hm_2 (Nat.not_lt_zero _)
    | succ kk ih_2 =>
      intro N_2 g3 hS hi0_2 hm_2
      refine w_load (.iload_n 3) 3 (by decide +kernel) rfl rfl ?_
      refine w_pushN 22 5 (by decide +kernel) ?_
      refine w_cgeN 36 8 (by decide +kernel) (by omega) (by omega) (fun h1 => ?_) (fun h1 => ?_)
      · skip
        exact w_retV (by decide +kernel) (hq N_2 hS trivial)
      · skip
        refine w_load (.aload_n 0) 9 (by decide +kernel) rfl rfl ?_
        refine w_getR (k := 2) (r := 78) 12 (by decide +kernel) sh_76 rfl ?_
        refine w_pushN 22 14 (by decide +kernel) ?_
        refine w_load (.iload_n 2) 15 (by decide +kernel) rfl rfl ?_
        refine w_mulN (22 * t) 16 (by decide +kernel) rfl ?_
        refine w_load (.iload_n 3) 17 (by decide +kernel) rfl rfl ?_
        refine w_addN (22 * t + g3) 18 (by decide +kernel) (by omega) ?_
        refine w_load (.aload_n 0) 19 (by decide +kernel) rfl rfl ?_
        refine w_getR (k := 2) (r := 78) 22 (by decide +kernel) sh_76 rfl ?_
        refine w_pushN 22 24 (by decide +kernel) ?_
        refine w_load (.iload_n 1) 25 (by decide +kernel) rfl rfl ?_
        refine w_mulN (22 * f) 26 (by decide +kernel) rfl ?_
        refine w_load (.iload_n 3) 27 (by decide +kernel) rfl rfl ?_
        refine w_addN (22 * f + g3) 28 (by decide +kernel) (by omega) ?_
        refine w_ialdN 29 (by decide +kernel) sh_78 (by omega) (by omega) ?_
        refine w_iastE 30 (by decide +kernel) sh_78 (by omega) (by omega) hS (rg_78 (fun h1 h2 => by first | omega | exact Or.inl rfl | exact Or.inr ⟨_, by omega, rfl⟩ | exact inv_78 hS.1 _ (by omega) (by omega) | exact inv_82 hS.1 _ (by omega) (by omega) | exact inv_89 hS.1 _ (by omega) (by omega))) (by first | exact rfl | omega | (dsimp only; omega) | (simp only [Hs, Tl, Sc, isHs, isScr, isTs] at *; omega)) (fun Nq2 hS hq2 oq2 mq2 => ?_)
        refine w_iincN (z := 3) (g3 + 1) 33 (by decide +kernel) rfl (Nat.le_of_ble_eq_true rfl) rfl rfl ?_
        show Wp _ _ _ [.ref 76, .int (nI f), .int (nI t), .int (nI (g3 + 1))] _ _ _ _
        refine w_goto 2 (by decide +kernel) ?_
        exact ih_2 Nq2 (g3 + 1) hS (by omega) (by omega)
  exact LP_2 _ N 0 hS (by omega) (Nat.lt_succ_self _)
-- X8_dead
set_option maxRecDepth 10000 in
theorem k_165 {d : Nat} {M : Mt} {L : Lt} {Q : Option Value → Mt → Lt → Prop} {lv : Nat}  (hI : Inv M) (hlv : lv ≤ 7) (hd : 0 ≤ d) (hq : ∀ (r : Int32), True → Q (some (.int r)) M L) : Wp d 165 0 [.ref 76, .int (nI lv)] [] M L Q := by
  refine w_pushN 1 1 (by decide +kernel) ?_
  refine w_load (.aload_n 0) 2 (by decide +kernel) rfl rfl ?_
  refine w_getN (B := 5) (k := 0) 5 (by decide +kernel) sh_76 rfl (inv_g hI) (fun n1 hn1 en1 => ?_)
  refine w_pure .ishl 6 (by decide +kernel) rfl rfl ?_
  refine w_pushN 1 7 (by decide +kernel) ?_
  refine w_pure .isub 8 (by decide +kernel) rfl rfl ?_
  refine w_load (.aload_n 0) 9 (by decide +kernel) rfl rfl ?_
  refine w_getR (k := 2) (r := 78) 12 (by decide +kernel) sh_76 rfl ?_
  refine w_pushN 22 14 (by decide +kernel) ?_
  refine w_load (.iload_n 1) 15 (by decide +kernel) rfl rfl ?_
  refine w_mulN (22 * lv) 16 (by decide +kernel) rfl ?_
  refine w_pushN 15 18 (by decide +kernel) ?_
  refine w_addN (22 * lv + 15) 19 (by decide +kernel) (by omega) ?_
  refine w_ialdN 20 (by decide +kernel) sh_78 (by omega) (by omega) ?_
  refine w_push (-1) 21 (by decide +kernel) ?_
  refine w_pure .ixor 22 (by decide +kernel) rfl rfl ?_
  refine w_pure .iand 23 (by decide +kernel) rfl rfl ?_
  exact w_ret (by decide +kernel) (hq _ trivial)
-- X8_allCoins
set_option maxRecDepth 10000 in
theorem k_166 {d : Nat} {M : Mt} {L : Lt} {Q : Option Value → Mt → Lt → Prop} {lv : Nat}  (hI : Inv M) (hlv : lv ≤ 7) (hd : 0 ≤ d) (hq : ∀ (r : Int32), True → Q (some (.int r)) M L) : Wp d 166 0 [.ref 76, .int (nI lv), .null, .null] [] M L Q := by
  refine w_pushN 1000 3 (by decide +kernel) ?_
  refine w_store (ls' := [.ref 76, .int (nI lv), .int (nI 1000), .null]) (.istore_n 2) 4 (by decide +kernel) rfl rfl ?_
  refine w_pushN 0 5 (by decide +kernel) ?_
  refine w_store (ls' := [.ref 76, .int (nI lv), .int (nI 1000), .int (nI 0)]) (.istore_n 3) 6 (by decide +kernel) rfl rfl ?_
  have LP_6 : ∀ (kk : Nat) (x2_6 : Int32) (g3 : Nat), g3 ≤ 5 → 5 - g3 < kk → Wp d 166 6 [.ref 76, .int (nI lv), .int x2_6, .int (nI g3)] [] M L Q := by
    intro kk
    induction kk with
    | zero => intro x2_6 g3 hi0_6 hm_6; exact absurd hm_6 (Nat.not_lt_zero _)
    | succ kk ih_6 =>
      intro x2_6 g3 hi0_6 hm_6
      refine w_load (.iload_n 3) 7 (by decide +kernel) rfl rfl ?_
      refine w_load (.aload_n 0) 8 (by decide +kernel) rfl rfl ?_
      refine w_getN (B := 5) (k := 0) 11 (by decide +kernel) sh_76 rfl (inv_g hI) (fun n1 hn1 en1 => ?_)
      refine w_cgeN 36 14 (by decide +kernel) (by omega) (by omega) (fun h2 => ?_) (fun h2 => ?_)
      · skip
        refine w_load (.iload_n 2) 37 (by decide +kernel) rfl rfl ?_
        exact w_ret (by decide +kernel) (hq _ trivial)
      · skip
        refine w_load (.iload_n 2) 15 (by decide +kernel) rfl rfl ?_
        refine w_load (.aload_n 0) 16 (by decide +kernel) rfl rfl ?_
        refine w_getR (k := 2) (r := 78) 19 (by decide +kernel) sh_76 rfl ?_
        refine w_pushN 22 21 (by decide +kernel) ?_
        refine w_load (.iload_n 1) 22 (by decide +kernel) rfl rfl ?_
        refine w_mulN (22 * lv) 23 (by decide +kernel) rfl ?_
        refine w_pushN 5 24 (by decide +kernel) ?_
        refine w_addN (22 * lv + 5) 25 (by decide +kernel) (by omega) ?_
        refine w_load (.iload_n 3) 26 (by decide +kernel) rfl rfl ?_
        refine w_addN (22 * lv + 5 + g3) 27 (by decide +kernel) (by omega) ?_
        refine w_ialdN 28 (by decide +kernel) sh_78 (by omega) (by omega) ?_
        refine w_pure .iadd 29 (by decide +kernel) rfl rfl ?_
        refine w_topi (fun v3 ev3 => ?_)
        refine w_store (ls' := [.ref 76, .int (nI lv), .int v3, .int (nI g3)]) (.istore_n 2) 30 (by decide +kernel) rfl rfl ?_
        refine w_iincN (z := 3) (g3 + 1) 33 (by decide +kernel) rfl (Nat.le_of_ble_eq_true rfl) rfl rfl ?_
        show Wp _ _ _ [.ref 76, .int (nI lv), .int v3, .int (nI (g3 + 1))] _ _ _ _
        refine w_goto 6 (by decide +kernel) ?_
        exact ih_6 _ (g3 + 1) (by omega) (by omega)
  exact LP_6 _ _ 0 (by omega) (Nat.lt_succ_self _)
-- X8_would
set_option maxRecDepth 10000 in
theorem k_167 {d : Nat} {M : Mt} {L : Lt} {Q : Option Value → Mt → Lt → Prop} {a : Int32} {b : Int32} (hI : Inv M)  (hd : 4 ≤ d) (hq : ∀ (r : Int32) (N : Mt), St (fun i k => (i = 78 ∧ 22 ≤ k) ∨ i = 83 ∨ i = 84 ∨ (i = 76 ∧ (k = 7 ∨ k = 11))) M N → True → Q (some (.int r)) N L) : Wp d 167 0 [.ref 76, .int a, .int b, .null] [] M L Q := by
  refine (show ∀ N : Mt, N = M → St (fun i k => (i = 78 ∧ 22 ≤ k) ∨ i = 83 ∨ i = 84 ∨ (i = 76 ∧ (k = 7 ∨ k = 11))) M N → Wp d 167 0 [.ref 76, .int a, .int b, .null] [] N L Q from ?_) M rfl (St.rf hI)
  intro N hNM hS
  refine w_load (.iload_n 1) 1 (by decide +kernel) rfl rfl ?_
  refine w_callS1 142 1 4 (by decide +kernel) (Nat.le_of_ble_eq_true rfl) rfl (by decide) (by omega) ?_
  refine k_142 hS.1  (by omega) (fun r1 hr1 => ?_)
  dsimp only [Option.toList, List.cons_append, List.nil_append]
  rcases hr1 with ⟨rfl, k2, hk2, rfl⟩ | ⟨rfl, hnok2⟩
  · skip
    refine w_ine 9 7 (by decide +kernel) (fun _ => ?_) (fun hz => absurd hz (by decide))
    refine w_load (.iload_n 2) 10 (by decide +kernel) rfl rfl ?_
    refine w_pure .i2l 11 (by decide +kernel) rfl rfl ?_
    refine w_pushL (0) 12 (by decide +kernel) ?_
    refine w_pushL (3) 15 (by decide +kernel) ?_
    refine w_callSL 134 6 18 (by decide +kernel) (Nat.le_of_ble_eq_true rfl) rfl (by omega) ?_
    refine k_134 hS.1  (by omega) (fun r4 hr4 => ?_)
    dsimp only [Option.toList, List.cons_append, List.nil_append]
    rcases hr4 with ⟨rfl, hlok6, hhik6⟩ | ⟨rfl, hnok6⟩
    · skip
      obtain ⟨k6, hlk6, hhk6, rfl⟩ := in_k (lo := 0) (hi := 3) hlok6 hhik6 (by decide)
      refine w_ine 24 21 (by decide +kernel) (fun _ => ?_) (fun hz => absurd hz (by decide))
      refine w_load (.aload_n 0) 25 (by decide +kernel) rfl rfl ?_
      refine w_pushN 0 26 (by decide +kernel) ?_
      refine w_pushN 1 27 (by decide +kernel) ?_
      refine w_callV2 160 8 4 30 (by decide +kernel) sh_76 (Nat.le_of_ble_eq_true rfl) rfl rfl (by decide) (by omega) ?_
      refine k_160 hS.1 (by omega) (by omega) (by omega) (fun Nr8 hTr8 hr8 => ?_)
      have hS := hS.tr hTr8 (by intro i k; first | exact rfl | exact fun h => h.elim | omega | (dsimp only; omega) | (simp only [Hs, Tl, Sc, isHs, isScr, isTs] at *; omega))
      dsimp only [Option.toList, List.nil_append]
      refine w_load (.aload_n 0) 31 (by decide +kernel) rfl rfl ?_
      refine w_pushN 1 32 (by decide +kernel) ?_
      refine w_load (.iload_n 1) 33 (by decide +kernel) rfl rfl ?_
      refine w_pushN 0 34 (by decide +kernel) ?_
      refine w_callV3 159 8 7 37 (by decide +kernel) sh_76 (Nat.le_of_ble_eq_true rfl) rfl rfl rfl (by decide) (by omega) ?_
      refine k_159 hS.1 (by omega) (by omega) (by omega) (fun r9 Nr9 hTr9 hr9 => ?_)
      have hS := hS.tr hTr9 (by intro i k; first | exact rfl | exact fun h => h.elim | omega | (dsimp only; omega) | (simp only [Hs, Tl, Sc, isHs, isScr, isTs] at *; omega))
      dsimp only [Option.toList, List.cons_append, List.nil_append]
      refine w_store (ls' := [.ref 76, .int (nI k2), .int (nI k6), .int r9]) (.istore_n 3) 38 (by decide +kernel) rfl rfl ?_
      refine w_load (.iload_n 2) 39 (by decide +kernel) rfl rfl ?_
      refine w_ineN 46 42 (by decide +kernel) (by omega) (fun h10 => ?_) (fun h10 => ?_)
      · skip
        refine w_load (.iload_n 2) 47 (by decide +kernel) rfl rfl ?_
        refine w_pushN 1 48 (by decide +kernel) ?_
        refine w_cneN 58 51 (by decide +kernel) (by omega) (by omega) (fun h11 => ?_) (fun h11 => ?_)
        · skip
          refine w_load (.iload_n 2) 59 (by decide +kernel) rfl rfl ?_
          refine w_pushN 2 60 (by decide +kernel) ?_
          refine w_cneN 71 63 (by decide +kernel) (by omega) (by omega) (fun h12 => ?_) (fun h12 => ?_)
          · skip
            refine w_load (.aload_n 0) 72 (by decide +kernel) rfl rfl ?_
            refine w_pushN 1 73 (by decide +kernel) ?_
            refine w_callV1 166 8 4 76 (by decide +kernel) sh_76 (Nat.le_of_ble_eq_true rfl) rfl (by decide) (by omega) ?_
            refine k_166 hS.1 (by omega) (by omega) (fun r13 hr13 => ?_)
            dsimp only [Option.toList, List.cons_append, List.nil_append]
            exact w_ret (by decide +kernel) (hq _ Nr9 hS trivial)
          · skip
            refine w_load (.aload_n 0) 64 (by decide +kernel) rfl rfl ?_
            refine w_pushN 1 65 (by decide +kernel) ?_
            refine w_callV1 165 8 2 68 (by decide +kernel) sh_76 (Nat.le_of_ble_eq_true rfl) rfl (by decide) (by omega) ?_
            refine k_165 hS.1 (by omega) (by omega) (fun r14 hr14 => ?_)
            dsimp only [Option.toList, List.cons_append, List.nil_append]
            refine w_goto 76 (by decide +kernel) ?_
            exact w_ret (by decide +kernel) (hq _ Nr9 hS trivial)
        · skip
          refine w_load (.aload_n 0) 52 (by decide +kernel) rfl rfl ?_
          refine w_getI (k := 7) 55 (by decide +kernel) sh_76 rfl ?_
          refine w_goto 76 (by decide +kernel) ?_
          exact w_ret (by decide +kernel) (hq _ Nr9 hS trivial)
      · skip
        refine w_load (.iload_n 3) 43 (by decide +kernel) rfl rfl ?_
        refine w_goto 76 (by decide +kernel) ?_
        exact w_ret (by decide +kernel) (hq _ Nr9 hS trivial)
    · skip
      refine w_ine 24 21 (by decide +kernel) (fun hz => absurd hz (by decide)) (fun _ => ?_)
      refine w_push (-2) 23 (by decide +kernel) ?_
      exact w_ret (by decide +kernel) (hq _ N hS trivial)
  · skip
    refine w_ine 9 7 (by decide +kernel) (fun hz => absurd hz (by decide)) (fun _ => ?_)
    refine w_push (-1) 8 (by decide +kernel) ?_
    exact w_ret (by decide +kernel) (hq _ N hS trivial)
-- X8_coins
set_option maxRecDepth 10000 in
theorem k_168 {d : Nat} {M : Mt} {L : Lt} {Q : Option Value → Mt → Lt → Prop} {a : Int32} {g : Int32} (hI : Inv M)  (hd : 4 ≤ d) (hq : ∀ (r : Int32) (N : Mt), St (fun i k => (i = 78 ∧ 22 ≤ k) ∨ i = 83 ∨ i = 84 ∨ (i = 76 ∧ (k = 7 ∨ k = 11))) M N → True → Q (some (.int r)) N L) : Wp d 168 0 [.ref 76, .int a, .int g] [] M L Q := by
  refine (show ∀ N : Mt, N = M → St (fun i k => (i = 78 ∧ 22 ≤ k) ∨ i = 83 ∨ i = 84 ∨ (i = 76 ∧ (k = 7 ∨ k = 11))) M N → Wp d 168 0 [.ref 76, .int a, .int g] [] N L Q from ?_) M rfl (St.rf hI)
  intro N hNM hS
  refine w_load (.iload_n 1) 1 (by decide +kernel) rfl rfl ?_
  refine w_callS1 142 1 4 (by decide +kernel) (Nat.le_of_ble_eq_true rfl) rfl (by decide) (by omega) ?_
  refine k_142 hS.1  (by omega) (fun r1 hr1 => ?_)
  dsimp only [Option.toList, List.cons_append, List.nil_append]
  rcases hr1 with ⟨rfl, k2, hk2, rfl⟩ | ⟨rfl, hnok2⟩
  · skip
    refine w_ieq 15 7 (by decide +kernel) (fun hz => absurd hz (by decide)) (fun _ => ?_)
    refine w_load (.aload_n 0) 8 (by decide +kernel) rfl rfl ?_
    refine w_load (.iload_n 2) 9 (by decide +kernel) rfl rfl ?_
    refine w_callV1 150 8 2 12 (by decide +kernel) sh_76 (Nat.le_of_ble_eq_true rfl) rfl (by decide) (by omega) ?_
    obtain ⟨n4, hn4, en4⟩ := inv_g hS.1
    refine k_150 hS.1 (by omega) en4 (by omega) (fun r5 hr5 => ?_)
    dsimp only [Option.toList, List.cons_append, List.nil_append]
    rcases hr5 with ⟨rfl, k6, hk6, rfl⟩ | ⟨rfl, hnok6⟩
    · skip
      refine w_ine 17 15 (by decide +kernel) (fun _ => ?_) (fun hz => absurd hz (by decide))
      refine w_load (.aload_n 0) 18 (by decide +kernel) rfl rfl ?_
      refine w_pushN 0 19 (by decide +kernel) ?_
      refine w_pushN 1 20 (by decide +kernel) ?_
      refine w_callV2 160 8 4 23 (by decide +kernel) sh_76 (Nat.le_of_ble_eq_true rfl) rfl rfl (by decide) (by omega) ?_
      refine k_160 hS.1 (by omega) (by omega) (by omega) (fun Nr8 hTr8 hr8 => ?_)
      have kn9 := (hTr8.2 (76) 0 (by (try dsimp only); omega)).trans en4
      have hS := hS.tr hTr8 (by intro i k; first | exact rfl | exact fun h => h.elim | omega | (dsimp only; omega) | (simp only [Hs, Tl, Sc, isHs, isScr, isTs] at *; omega))
      dsimp only [Option.toList, List.nil_append]
      refine w_load (.aload_n 0) 24 (by decide +kernel) rfl rfl ?_
      refine w_pushN 1 25 (by decide +kernel) ?_
      refine w_load (.iload_n 1) 26 (by decide +kernel) rfl rfl ?_
      refine w_pushN 0 27 (by decide +kernel) ?_
      refine w_callV3 159 8 7 30 (by decide +kernel) sh_76 (Nat.le_of_ble_eq_true rfl) rfl rfl rfl (by decide) (by omega) ?_
      refine k_159 hS.1 (by omega) (by omega) (by omega) (fun r10 Nr10 hTr10 hr10 => ?_)
      have kn11 := (hTr10.2 (76) 0 (by (try dsimp only); omega)).trans kn9
      have hS := hS.tr hTr10 (by intro i k; first | exact rfl | exact fun h => h.elim | omega | (dsimp only; omega) | (simp only [Hs, Tl, Sc, isHs, isScr, isTs] at *; omega))
      dsimp only [Option.toList, List.cons_append, List.nil_append]
      refine w_pure .pop 31 (by decide +kernel) rfl rfl ?_
      refine w_pushN 100 33 (by decide +kernel) ?_
      refine w_load (.aload_n 0) 34 (by decide +kernel) rfl rfl ?_
      refine w_getR (k := 2) (r := 78) 37 (by decide +kernel) sh_76 rfl ?_
      refine w_pushN 27 39 (by decide +kernel) ?_
      refine w_load (.iload_n 2) 40 (by decide +kernel) rfl rfl ?_
      refine w_addN (27 + k6) 41 (by decide +kernel) (by omega) ?_
      refine w_ialdN 42 (by decide +kernel) sh_78 (by omega) (by omega) ?_
      refine w_pure .iadd 43 (by decide +kernel) rfl rfl ?_
      exact w_ret (by decide +kernel) (hq _ Nr10 hS trivial)
    · skip
      refine w_ine 17 15 (by decide +kernel) (fun hz => absurd hz (by decide)) (fun _ => ?_)
      refine w_push (-1) 16 (by decide +kernel) ?_
      exact w_ret (by decide +kernel) (hq _ N hS trivial)
  · skip
    refine w_ieq 15 7 (by decide +kernel) (fun _ => ?_) (fun hz => absurd hz (by decide))
    refine w_push (-1) 16 (by decide +kernel) ?_
    exact w_ret (by decide +kernel) (hq _ N hS trivial)
-- X8_ends
set_option maxRecDepth 10000 in
theorem k_169 {d : Nat} {M : Mt} {L : Lt} {Q : Option Value → Mt → Lt → Prop} {lv g : Nat} {e : Int32} {v : Int32} (hI : Inv M) (hlv : lv ≤ 7) (hg : g < 5) (hd : 1 ≤ d) (hq : ∀ (r : Int32), (r = 0 ∨ r = 1) → Q (some (.int r)) M L) : Wp d 169 0 [.ref 76, .int (nI lv), .int (nI g), .int e, .int v, .null] [] M L Q := by
  refine w_pushN 22 2 (by decide +kernel) ?_
  refine w_load (.iload_n 1) 3 (by decide +kernel) rfl rfl ?_
  refine w_mulN (22 * lv) 4 (by decide +kernel) rfl ?_
  refine w_store (ls' := [.ref 76, .int (nI lv), .int (nI g), .int e, .int v, .int (nI (22 * lv))]) (.istore 5) 6 (by decide +kernel) rfl rfl ?_
  refine w_load (.iload_n 3) 7 (by decide +kernel) rfl rfl ?_
  refine w_tab (show insAt 169 7 = some (.tableswitch 93 0 2 #[25, 48, 71]) by decide +kernel) (fun h1 => ⟨100, rfl, ?_⟩) (fun z2 h1 h1b => ?_)
  · skip
    refine w_load (.aload_n 0) 101 (by decide +kernel) rfl rfl ?_
    refine w_getR (k := 2) (r := 78) 104 (by decide +kernel) sh_76 rfl ?_
    refine w_load (.iload 5) 106 (by decide +kernel) rfl rfl ?_
    refine w_load (.iload_n 2) 107 (by decide +kernel) rfl rfl ?_
    refine w_addN (22 * lv + g) 108 (by decide +kernel) (by omega) ?_
    refine w_ialdN 109 (by decide +kernel) sh_78 (by omega) (by omega) ?_
    refine w_load (.iload 4) 111 (by decide +kernel) rfl rfl ?_
    refine w_cne 118 114 (by decide +kernel) (fun h3 => ?_) (fun h3 => ?_)
    · skip
      refine w_pushN 0 119 (by decide +kernel) ?_
      exact w_retZ (by decide +kernel) (Or.inl rfl) (hq _ (Or.inl rfl))
    · skip
      refine w_pushN 1 115 (by decide +kernel) ?_
      refine w_goto 119 (by decide +kernel) ?_
      exact w_retZ (by decide +kernel) (Or.inr rfl) (hq _ (Or.inr rfl))
  · rcases (by omega : z2 = 0 ∨ z2 = 1 ∨ z2 = 2) with rfl | rfl | rfl
    · refine ⟨_, 32, rfl, rfl, ?_⟩
      refine w_load (.aload_n 0) 33 (by decide +kernel) rfl rfl ?_
      refine w_getR (k := 2) (r := 78) 36 (by decide +kernel) sh_76 rfl ?_
      refine w_load (.iload 5) 38 (by decide +kernel) rfl rfl ?_
      refine w_pushN 15 40 (by decide +kernel) ?_
      refine w_addN (22 * lv + 15) 41 (by decide +kernel) (by omega) ?_
      refine w_ialdN 42 (by decide +kernel) sh_78 (by omega) (by omega) ?_
      refine w_load (.iload_n 2) 43 (by decide +kernel) rfl rfl ?_
      refine w_callS2 135 2 46 (by decide +kernel) (Nat.le_of_ble_eq_true rfl) rfl rfl (by decide) (by omega) ?_
      refine k_135 hI  (by omega) (fun r4 hr4 => ?_)
      dsimp only [Option.toList, List.cons_append, List.nil_append]
      rcases hr4 with ⟨rfl, hbr4⟩ | ⟨rfl, hbr4⟩
      · skip
        refine w_ine 53 49 (by decide +kernel) (fun _ => ?_) (fun hz => absurd hz (by decide))
        refine w_pushN 0 54 (by decide +kernel) ?_
        exact w_retZ (by decide +kernel) (Or.inl rfl) (hq _ (Or.inl rfl))
      · skip
        refine w_ine 53 49 (by decide +kernel) (fun hz => absurd hz (by decide)) (fun _ => ?_)
        refine w_pushN 1 50 (by decide +kernel) ?_
        refine w_goto 54 (by decide +kernel) ?_
        exact w_retZ (by decide +kernel) (Or.inr rfl) (hq _ (Or.inr rfl))
    · refine ⟨_, 55, rfl, rfl, ?_⟩
      refine w_load (.aload_n 0) 56 (by decide +kernel) rfl rfl ?_
      refine w_getR (k := 2) (r := 78) 59 (by decide +kernel) sh_76 rfl ?_
      refine w_load (.iload 5) 61 (by decide +kernel) rfl rfl ?_
      refine w_pushN 10 63 (by decide +kernel) ?_
      refine w_addN (22 * lv + 10) 64 (by decide +kernel) (by omega) ?_
      refine w_load (.iload_n 2) 65 (by decide +kernel) rfl rfl ?_
      refine w_addN (22 * lv + 10 + g) 66 (by decide +kernel) (by omega) ?_
      refine w_ialdN 67 (by decide +kernel) sh_78 (by omega) (by omega) ?_
      refine w_load (.iload 4) 69 (by decide +kernel) rfl rfl ?_
      refine w_cne 76 72 (by decide +kernel) (fun h7 => ?_) (fun h7 => ?_)
      · skip
        refine w_pushN 0 77 (by decide +kernel) ?_
        exact w_retZ (by decide +kernel) (Or.inl rfl) (hq _ (Or.inl rfl))
      · skip
        refine w_pushN 1 73 (by decide +kernel) ?_
        refine w_goto 77 (by decide +kernel) ?_
        exact w_retZ (by decide +kernel) (Or.inr rfl) (hq _ (Or.inr rfl))
    · refine ⟨_, 78, rfl, rfl, ?_⟩
      refine w_load (.aload_n 0) 79 (by decide +kernel) rfl rfl ?_
      refine w_getR (k := 2) (r := 78) 82 (by decide +kernel) sh_76 rfl ?_
      refine w_load (.iload 5) 84 (by decide +kernel) rfl rfl ?_
      refine w_pushN 5 85 (by decide +kernel) ?_
      refine w_addN (22 * lv + 5) 86 (by decide +kernel) (by omega) ?_
      refine w_load (.iload_n 2) 87 (by decide +kernel) rfl rfl ?_
      refine w_addN (22 * lv + 5 + g) 88 (by decide +kernel) (by omega) ?_
      refine w_ialdN 89 (by decide +kernel) sh_78 (by omega) (by omega) ?_
      refine w_load (.iload 4) 91 (by decide +kernel) rfl rfl ?_
      refine w_clt 98 94 (by decide +kernel) (fun h8 => ?_) (fun h8 => ?_)
      · skip
        refine w_pushN 0 99 (by decide +kernel) ?_
        exact w_retZ (by decide +kernel) (Or.inl rfl) (hq _ (Or.inl rfl))
      · skip
        refine w_pushN 1 95 (by decide +kernel) ?_
        refine w_goto 99 (by decide +kernel) ?_
        exact w_retZ (by decide +kernel) (Or.inr rfl) (hq _ (Or.inr rfl))
-- X8_refusedEnd
set_option maxRecDepth 10000 in
theorem k_170 {d : Nat} {M : Mt} {L : Lt} {Q : Option Value → Mt → Lt → Prop} {g : Int32} {e : Int32} {v : Int32} (hI : Inv M)  (hd : 2 ≤ d) (hq : ∀ (r : Int32), ((r = 0 ∧ ∃ k, k < 5 ∧ g = nI k) ∨ ¬ r = 0) → Q (some (.int r)) M L) : Wp d 170 0 [.ref 76, .int g, .int e, .int v, .null] [] M L Q := by
  refine w_load (.iload_n 2) 1 (by decide +kernel) rfl rfl ?_
  refine w_ieq 51 4 (by decide +kernel) (fun h1 => ?_) (fun h1 => ?_)
  · skip
    refine w_pushN 1 52 (by decide +kernel) ?_
    refine w_goto 56 (by decide +kernel) ?_
    refine w_store (ls' := [.ref 76, .int g, .int e, .int v, .int (nI 1)]) (.istore 4) 58 (by decide +kernel) rfl rfl ?_
    refine w_load (.iload_n 2) 59 (by decide +kernel) rfl rfl ?_
    refine w_pure .i2l 60 (by decide +kernel) rfl rfl ?_
    refine w_pushL (0) 61 (by decide +kernel) ?_
    refine w_pushL (3) 64 (by decide +kernel) ?_
    refine w_callSL 134 6 67 (by decide +kernel) (Nat.le_of_ble_eq_true rfl) rfl (by omega) ?_
    refine k_134 hI  (by omega) (fun r2 hr2 => ?_)
    dsimp only [Option.toList, List.cons_append, List.nil_append]
    rcases hr2 with ⟨rfl, hlok4, hhik4⟩ | ⟨rfl, hnok4⟩
    · skip
      obtain ⟨k4, hlk4, hhk4, rfl⟩ := in_k (lo := 0) (hi := 3) hlok4 hhik4 (by decide)
      refine w_ieq 75 70 (by decide +kernel) (fun hz => absurd hz (by decide)) (fun _ => ?_)
      refine w_load (.iload 4) 72 (by decide +kernel) rfl rfl ?_
      refine w_ine 80 75 (by decide +kernel) (fun _ => ?_) (fun hz => absurd hz (by decide))
      refine w_load (.aload_n 0) 81 (by decide +kernel) rfl rfl ?_
      refine w_load (.iload_n 1) 82 (by decide +kernel) rfl rfl ?_
      refine w_callV1 150 8 2 85 (by decide +kernel) sh_76 (Nat.le_of_ble_eq_true rfl) rfl (by decide) (by omega) ?_
      obtain ⟨n7, hn7, en7⟩ := inv_g hI
      refine k_150 hI (by omega) en7 (by omega) (fun r8 hr8 => ?_)
      dsimp only [Option.toList, List.cons_append, List.nil_append]
      rcases hr8 with ⟨rfl, k9, hk9, rfl⟩ | ⟨rfl, hnok9⟩
      · skip
        refine w_ine 92 88 (by decide +kernel) (fun _ => ?_) (fun hz => absurd hz (by decide))
        refine w_pushN 0 93 (by decide +kernel) ?_
        exact w_ret (by decide +kernel) (hq _ (Or.inl ⟨rfl, _, by omega, rfl⟩))
      · skip
        refine w_ine 92 88 (by decide +kernel) (fun hz => absurd hz (by decide)) (fun _ => ?_)
        refine w_push (-1) 89 (by decide +kernel) ?_
        refine w_goto 93 (by decide +kernel) ?_
        exact w_ret (by decide +kernel) (hq _ (Or.inr (by decide)))
    · skip
      refine w_ieq 75 70 (by decide +kernel) (fun _ => ?_) (fun hz => absurd hz (by decide))
      refine w_push (-2) 77 (by decide +kernel) ?_
      refine w_goto 93 (by decide +kernel) ?_
      exact w_ret (by decide +kernel) (hq _ (Or.inr (by decide)))
  · skip
    refine w_load (.iload_n 2) 5 (by decide +kernel) rfl rfl ?_
    refine w_pushN 1 6 (by decide +kernel) ?_
    refine w_cne 17 9 (by decide +kernel) (fun h13 => ?_) (fun h13 => ?_)
    · skip
      refine w_load (.iload_n 2) 18 (by decide +kernel) rfl rfl ?_
      refine w_pushN 2 19 (by decide +kernel) ?_
      refine w_cne 34 22 (by decide +kernel) (fun h14 => ?_) (fun h14 => ?_)
      · skip
        refine w_load (.iload_n 2) 35 (by decide +kernel) rfl rfl ?_
        refine w_pushN 3 36 (by decide +kernel) ?_
        refine w_cne 55 39 (by decide +kernel) (fun h15 => ?_) (fun h15 => ?_)
        · skip
          refine w_pushN 0 56 (by decide +kernel) ?_
          refine w_store (ls' := [.ref 76, .int g, .int e, .int v, .int (nI 0)]) (.istore 4) 58 (by decide +kernel) rfl rfl ?_
          refine w_load (.iload_n 2) 59 (by decide +kernel) rfl rfl ?_
          refine w_pure .i2l 60 (by decide +kernel) rfl rfl ?_
          refine w_pushL (0) 61 (by decide +kernel) ?_
          refine w_pushL (3) 64 (by decide +kernel) ?_
          refine w_callSL 134 6 67 (by decide +kernel) (Nat.le_of_ble_eq_true rfl) rfl (by omega) ?_
          refine k_134 hI  (by omega) (fun r16 hr16 => ?_)
          dsimp only [Option.toList, List.cons_append, List.nil_append]
          rcases hr16 with ⟨rfl, hlok18, hhik18⟩ | ⟨rfl, hnok18⟩
          · skip
            obtain ⟨k18, hlk18, hhk18, rfl⟩ := in_k (lo := 0) (hi := 3) hlok18 hhik18 (by decide)
            refine w_ieq 75 70 (by decide +kernel) (fun hz => absurd hz (by decide)) (fun _ => ?_)
            refine w_load (.iload 4) 72 (by decide +kernel) rfl rfl ?_
            refine w_ine 80 75 (by decide +kernel) (fun hz => absurd hz (by decide)) (fun _ => ?_)
            refine w_push (-2) 77 (by decide +kernel) ?_
            refine w_goto 93 (by decide +kernel) ?_
            exact w_ret (by decide +kernel) (hq _ (Or.inr (by decide)))
          · skip
            refine w_ieq 75 70 (by decide +kernel) (fun _ => ?_) (fun hz => absurd hz (by decide))
            refine w_push (-2) 77 (by decide +kernel) ?_
            refine w_goto 93 (by decide +kernel) ?_
            exact w_ret (by decide +kernel) (hq _ (Or.inr (by decide)))
        · skip
          refine w_load (.iload_n 3) 40 (by decide +kernel) rfl rfl ?_
          refine w_pure .i2l 41 (by decide +kernel) rfl rfl ?_
          refine w_pushL (0) 42 (by decide +kernel) ?_
          refine w_pushL (3) 45 (by decide +kernel) ?_
          refine w_callSL 134 6 48 (by decide +kernel) (Nat.le_of_ble_eq_true rfl) rfl (by omega) ?_
          refine k_134 hI  (by omega) (fun r22 hr22 => ?_)
          dsimp only [Option.toList, List.cons_append, List.nil_append]
          rcases hr22 with ⟨rfl, hlok24, hhik24⟩ | ⟨rfl, hnok24⟩
          · skip
            obtain ⟨k24, hlk24, hhk24, rfl⟩ := in_k (lo := 0) (hi := 3) hlok24 hhik24 (by decide)
            refine w_ieq 55 51 (by decide +kernel) (fun hz => absurd hz (by decide)) (fun _ => ?_)
            refine w_pushN 1 52 (by decide +kernel) ?_
            refine w_goto 56 (by decide +kernel) ?_
            refine w_store (ls' := [.ref 76, .int g, .int e, .int (nI k24), .int (nI 1)]) (.istore 4) 58 (by decide +kernel) rfl rfl ?_
            refine w_load (.iload_n 2) 59 (by decide +kernel) rfl rfl ?_
            refine w_pure .i2l 60 (by decide +kernel) rfl rfl ?_
            refine w_pushL (0) 61 (by decide +kernel) ?_
            refine w_pushL (3) 64 (by decide +kernel) ?_
            refine w_callSL 134 6 67 (by decide +kernel) (Nat.le_of_ble_eq_true rfl) rfl (by omega) ?_
            refine k_134 hI  (by omega) (fun r26 hr26 => ?_)
            dsimp only [Option.toList, List.cons_append, List.nil_append]
            rcases hr26 with ⟨rfl, hlok28, hhik28⟩ | ⟨rfl, hnok28⟩
            · skip
              obtain ⟨k28, hlk28, hhk28, rfl⟩ := in_k (lo := 0) (hi := 3) hlok28 hhik28 (by decide)
              refine w_ieq 75 70 (by decide +kernel) (fun hz => absurd hz (by decide)) (fun _ => ?_)
              refine w_load (.iload 4) 72 (by decide +kernel) rfl rfl ?_
              refine w_ine 80 75 (by decide +kernel) (fun _ => ?_) (fun hz => absurd hz (by decide))
              refine w_load (.aload_n 0) 81 (by decide +kernel) rfl rfl ?_
              refine w_load (.iload_n 1) 82 (by decide +kernel) rfl rfl ?_
              refine w_callV1 150 8 2 85 (by decide +kernel) sh_76 (Nat.le_of_ble_eq_true rfl) rfl (by decide) (by omega) ?_
              obtain ⟨n31, hn31, en31⟩ := inv_g hI
              refine k_150 hI (by omega) en31 (by omega) (fun r32 hr32 => ?_)
              dsimp only [Option.toList, List.cons_append, List.nil_append]
              rcases hr32 with ⟨rfl, k33, hk33, rfl⟩ | ⟨rfl, hnok33⟩
              · skip
                refine w_ine 92 88 (by decide +kernel) (fun _ => ?_) (fun hz => absurd hz (by decide))
                refine w_pushN 0 93 (by decide +kernel) ?_
                exact w_ret (by decide +kernel) (hq _ (Or.inl ⟨rfl, _, by omega, rfl⟩))
              · skip
                refine w_ine 92 88 (by decide +kernel) (fun hz => absurd hz (by decide)) (fun _ => ?_)
                refine w_push (-1) 89 (by decide +kernel) ?_
                refine w_goto 93 (by decide +kernel) ?_
                exact w_ret (by decide +kernel) (hq _ (Or.inr (by decide)))
            · skip
              refine w_ieq 75 70 (by decide +kernel) (fun _ => ?_) (fun hz => absurd hz (by decide))
              refine w_push (-2) 77 (by decide +kernel) ?_
              refine w_goto 93 (by decide +kernel) ?_
              exact w_ret (by decide +kernel) (hq _ (Or.inr (by decide)))
          · skip
            refine w_ieq 55 51 (by decide +kernel) (fun _ => ?_) (fun hz => absurd hz (by decide))
            refine w_pushN 0 56 (by decide +kernel) ?_
            refine w_store (ls' := [.ref 76, .int g, .int e, .int v, .int (nI 0)]) (.istore 4) 58 (by decide +kernel) rfl rfl ?_
            refine w_load (.iload_n 2) 59 (by decide +kernel) rfl rfl ?_
            refine w_pure .i2l 60 (by decide +kernel) rfl rfl ?_
            refine w_pushL (0) 61 (by decide +kernel) ?_
            refine w_pushL (3) 64 (by decide +kernel) ?_
            refine w_callSL 134 6 67 (by decide +kernel) (Nat.le_of_ble_eq_true rfl) rfl (by omega) ?_
            refine k_134 hI  (by omega) (fun r38 hr38 => ?_)
            dsimp only [Option.toList, List.cons_append, List.nil_append]
            rcases hr38 with ⟨rfl, hlok40, hhik40⟩ | ⟨rfl, hnok40⟩
            · skip
              obtain ⟨k40, hlk40, hhk40, rfl⟩ := in_k (lo := 0) (hi := 3) hlok40 hhik40 (by decide)
              refine w_ieq 75 70 (by decide +kernel) (fun hz => absurd hz (by decide)) (fun _ => ?_)
              refine w_load (.iload 4) 72 (by decide +kernel) rfl rfl ?_
              refine w_ine 80 75 (by decide +kernel) (fun hz => absurd hz (by decide)) (fun _ => ?_)
              refine w_push (-2) 77 (by decide +kernel) ?_
              refine w_goto 93 (by decide +kernel) ?_
              exact w_ret (by decide +kernel) (hq _ (Or.inr (by decide)))
            · skip
              refine w_ieq 75 70 (by decide +kernel) (fun _ => ?_) (fun hz => absurd hz (by decide))
              refine w_push (-2) 77 (by decide +kernel) ?_
              refine w_goto 93 (by decide +kernel) ?_
              exact w_ret (by decide +kernel) (hq _ (Or.inr (by decide)))
      · skip
        refine w_load (.iload_n 3) 23 (by decide +kernel) rfl rfl ?_
        refine w_pure .i2l 24 (by decide +kernel) rfl rfl ?_
        refine w_pushL (0) 25 (by decide +kernel) ?_
        refine w_pushL (20) 28 (by decide +kernel) ?_
        refine w_callSL 134 6 31 (by decide +kernel) (Nat.le_of_ble_eq_true rfl) rfl (by omega) ?_
        refine k_134 hI  (by omega) (fun r44 hr44 => ?_)
        dsimp only [Option.toList, List.cons_append, List.nil_append]
        rcases hr44 with ⟨rfl, hlok46, hhik46⟩ | ⟨rfl, hnok46⟩
        · skip
          obtain ⟨k46, hlk46, hhk46, rfl⟩ := in_k (lo := 0) (hi := 20) hlok46 hhik46 (by decide)
          refine w_ine 51 34 (by decide +kernel) (fun _ => ?_) (fun hz => absurd hz (by decide))
          refine w_pushN 1 52 (by decide +kernel) ?_
          refine w_goto 56 (by decide +kernel) ?_
          refine w_store (ls' := [.ref 76, .int g, .int e, .int (nI k46), .int (nI 1)]) (.istore 4) 58 (by decide +kernel) rfl rfl ?_
          refine w_load (.iload_n 2) 59 (by decide +kernel) rfl rfl ?_
          refine w_pure .i2l 60 (by decide +kernel) rfl rfl ?_
          refine w_pushL (0) 61 (by decide +kernel) ?_
          refine w_pushL (3) 64 (by decide +kernel) ?_
          refine w_callSL 134 6 67 (by decide +kernel) (Nat.le_of_ble_eq_true rfl) rfl (by omega) ?_
          refine k_134 hI  (by omega) (fun r48 hr48 => ?_)
          dsimp only [Option.toList, List.cons_append, List.nil_append]
          rcases hr48 with ⟨rfl, hlok50, hhik50⟩ | ⟨rfl, hnok50⟩
          · skip
            obtain ⟨k50, hlk50, hhk50, rfl⟩ := in_k (lo := 0) (hi := 3) hlok50 hhik50 (by decide)
            refine w_ieq 75 70 (by decide +kernel) (fun hz => absurd hz (by decide)) (fun _ => ?_)
            refine w_load (.iload 4) 72 (by decide +kernel) rfl rfl ?_
            refine w_ine 80 75 (by decide +kernel) (fun _ => ?_) (fun hz => absurd hz (by decide))
            refine w_load (.aload_n 0) 81 (by decide +kernel) rfl rfl ?_
            refine w_load (.iload_n 1) 82 (by decide +kernel) rfl rfl ?_
            refine w_callV1 150 8 2 85 (by decide +kernel) sh_76 (Nat.le_of_ble_eq_true rfl) rfl (by decide) (by omega) ?_
            obtain ⟨n53, hn53, en53⟩ := inv_g hI
            refine k_150 hI (by omega) en53 (by omega) (fun r54 hr54 => ?_)
            dsimp only [Option.toList, List.cons_append, List.nil_append]
            rcases hr54 with ⟨rfl, k55, hk55, rfl⟩ | ⟨rfl, hnok55⟩
            · skip
              refine w_ine 92 88 (by decide +kernel) (fun _ => ?_) (fun hz => absurd hz (by decide))
              refine w_pushN 0 93 (by decide +kernel) ?_
              exact w_ret (by decide +kernel) (hq _ (Or.inl ⟨rfl, _, by omega, rfl⟩))
            · skip
              refine w_ine 92 88 (by decide +kernel) (fun hz => absurd hz (by decide)) (fun _ => ?_)
              refine w_push (-1) 89 (by decide +kernel) ?_
              refine w_goto 93 (by decide +kernel) ?_
              exact w_ret (by decide +kernel) (hq _ (Or.inr (by decide)))
          · skip
            refine w_ieq 75 70 (by decide +kernel) (fun _ => ?_) (fun hz => absurd hz (by decide))
            refine w_push (-2) 77 (by decide +kernel) ?_
            refine w_goto 93 (by decide +kernel) ?_
            exact w_ret (by decide +kernel) (hq _ (Or.inr (by decide)))
        · skip
          refine w_ine 51 34 (by decide +kernel) (fun hz => absurd hz (by decide)) (fun _ => ?_)
          refine w_load (.iload_n 2) 35 (by decide +kernel) rfl rfl ?_
          refine w_pushN 3 36 (by decide +kernel) ?_
          refine w_cne 55 39 (by decide +kernel) (fun h60 => ?_) (fun h60 => ?_)
          · skip
            refine w_pushN 0 56 (by decide +kernel) ?_
            refine w_store (ls' := [.ref 76, .int g, .int e, .int v, .int (nI 0)]) (.istore 4) 58 (by decide +kernel) rfl rfl ?_
            refine w_load (.iload_n 2) 59 (by decide +kernel) rfl rfl ?_
            refine w_pure .i2l 60 (by decide +kernel) rfl rfl ?_
            refine w_pushL (0) 61 (by decide +kernel) ?_
            refine w_pushL (3) 64 (by decide +kernel) ?_
            refine w_callSL 134 6 67 (by decide +kernel) (Nat.le_of_ble_eq_true rfl) rfl (by omega) ?_
            refine k_134 hI  (by omega) (fun r61 hr61 => ?_)
            dsimp only [Option.toList, List.cons_append, List.nil_append]
            rcases hr61 with ⟨rfl, hlok63, hhik63⟩ | ⟨rfl, hnok63⟩
            · skip
              obtain ⟨k63, hlk63, hhk63, rfl⟩ := in_k (lo := 0) (hi := 3) hlok63 hhik63 (by decide)
              refine w_ieq 75 70 (by decide +kernel) (fun hz => absurd hz (by decide)) (fun _ => ?_)
              refine w_load (.iload 4) 72 (by decide +kernel) rfl rfl ?_
              refine w_ine 80 75 (by decide +kernel) (fun hz => absurd hz (by decide)) (fun _ => ?_)
              refine w_push (-2) 77 (by decide +kernel) ?_
              refine w_goto 93 (by decide +kernel) ?_
              exact w_ret (by decide +kernel) (hq _ (Or.inr (by decide)))
            · skip
              refine w_ieq 75 70 (by decide +kernel) (fun _ => ?_) (fun hz => absurd hz (by decide))
              refine w_push (-2) 77 (by decide +kernel) ?_
              refine w_goto 93 (by decide +kernel) ?_
              exact w_ret (by decide +kernel) (hq _ (Or.inr (by decide)))
          · skip
            refine w_load (.iload_n 3) 40 (by decide +kernel) rfl rfl ?_
            refine w_pure .i2l 41 (by decide +kernel) rfl rfl ?_
            refine w_pushL (0) 42 (by decide +kernel) ?_
            refine w_pushL (3) 45 (by decide +kernel) ?_
            refine w_callSL 134 6 48 (by decide +kernel) (Nat.le_of_ble_eq_true rfl) rfl (by omega) ?_
            refine k_134 hI  (by omega) (fun r67 hr67 => ?_)
            dsimp only [Option.toList, List.cons_append, List.nil_append]
            rcases hr67 with ⟨rfl, hlok69, hhik69⟩ | ⟨rfl, hnok69⟩
            · skip
              obtain ⟨k69, hlk69, hhk69, rfl⟩ := in_k (lo := 0) (hi := 3) hlok69 hhik69 (by decide)
              refine w_ieq 55 51 (by decide +kernel) (fun hz => absurd hz (by decide)) (fun _ => ?_)
              refine w_pushN 1 52 (by decide +kernel) ?_
              refine w_goto 56 (by decide +kernel) ?_
              refine w_store (ls' := [.ref 76, .int g, .int e, .int (nI k69), .int (nI 1)]) (.istore 4) 58 (by decide +kernel) rfl rfl ?_
              refine w_load (.iload_n 2) 59 (by decide +kernel) rfl rfl ?_
              refine w_pure .i2l 60 (by decide +kernel) rfl rfl ?_
              refine w_pushL (0) 61 (by decide +kernel) ?_
              refine w_pushL (3) 64 (by decide +kernel) ?_
              refine w_callSL 134 6 67 (by decide +kernel) (Nat.le_of_ble_eq_true rfl) rfl (by omega) ?_
              refine k_134 hI  (by omega) (fun r71 hr71 => ?_)
              dsimp only [Option.toList, List.cons_append, List.nil_append]
              rcases hr71 with ⟨rfl, hlok73, hhik73⟩ | ⟨rfl, hnok73⟩
              · skip
                obtain ⟨k73, hlk73, hhk73, rfl⟩ := in_k (lo := 0) (hi := 3) hlok73 hhik73 (by decide)
                refine w_ieq 75 70 (by decide +kernel) (fun hz => absurd hz (by decide)) (fun _ => ?_)
                refine w_load (.iload 4) 72 (by decide +kernel) rfl rfl ?_
                refine w_ine 80 75 (by decide +kernel) (fun _ => ?_) (fun hz => absurd hz (by decide))
                refine w_load (.aload_n 0) 81 (by decide +kernel) rfl rfl ?_
                refine w_load (.iload_n 1) 82 (by decide +kernel) rfl rfl ?_
                refine w_callV1 150 8 2 85 (by decide +kernel) sh_76 (Nat.le_of_ble_eq_true rfl) rfl (by decide) (by omega) ?_
                obtain ⟨n76, hn76, en76⟩ := inv_g hI
                refine k_150 hI (by omega) en76 (by omega) (fun r77 hr77 => ?_)
                dsimp only [Option.toList, List.cons_append, List.nil_append]
                rcases hr77 with ⟨rfl, k78, hk78, rfl⟩ | ⟨rfl, hnok78⟩
                · skip
                  refine w_ine 92 88 (by decide +kernel) (fun _ => ?_) (fun hz => absurd hz (by decide))
                  refine w_pushN 0 93 (by decide +kernel) ?_
                  exact w_ret (by decide +kernel) (hq _ (Or.inl ⟨rfl, _, by omega, rfl⟩))
                · skip
                  refine w_ine 92 88 (by decide +kernel) (fun hz => absurd hz (by decide)) (fun _ => ?_)
                  refine w_push (-1) 89 (by decide +kernel) ?_
                  refine w_goto 93 (by decide +kernel) ?_
                  exact w_ret (by decide +kernel) (hq _ (Or.inr (by decide)))
              · skip
                refine w_ieq 75 70 (by decide +kernel) (fun _ => ?_) (fun hz => absurd hz (by decide))
                refine w_push (-2) 77 (by decide +kernel) ?_
                refine w_goto 93 (by decide +kernel) ?_
                exact w_ret (by decide +kernel) (hq _ (Or.inr (by decide)))
            · skip
              refine w_ieq 55 51 (by decide +kernel) (fun _ => ?_) (fun hz => absurd hz (by decide))
              refine w_pushN 0 56 (by decide +kernel) ?_
              refine w_store (ls' := [.ref 76, .int g, .int e, .int v, .int (nI 0)]) (.istore 4) 58 (by decide +kernel) rfl rfl ?_
              refine w_load (.iload_n 2) 59 (by decide +kernel) rfl rfl ?_
              refine w_pure .i2l 60 (by decide +kernel) rfl rfl ?_
              refine w_pushL (0) 61 (by decide +kernel) ?_
              refine w_pushL (3) 64 (by decide +kernel) ?_
              refine w_callSL 134 6 67 (by decide +kernel) (Nat.le_of_ble_eq_true rfl) rfl (by omega) ?_
              refine k_134 hI  (by omega) (fun r83 hr83 => ?_)
              dsimp only [Option.toList, List.cons_append, List.nil_append]
              rcases hr83 with ⟨rfl, hlok85, hhik85⟩ | ⟨rfl, hnok85⟩
              · skip
                obtain ⟨k85, hlk85, hhk85, rfl⟩ := in_k (lo := 0) (hi := 3) hlok85 hhik85 (by decide)
                refine w_ieq 75 70 (by decide +kernel) (fun hz => absurd hz (by decide)) (fun _ => ?_)
                refine w_load (.iload 4) 72 (by decide +kernel) rfl rfl ?_
                refine w_ine 80 75 (by decide +kernel) (fun hz => absurd hz (by decide)) (fun _ => ?_)
                refine w_push (-2) 77 (by decide +kernel) ?_
                refine w_goto 93 (by decide +kernel) ?_
                exact w_ret (by decide +kernel) (hq _ (Or.inr (by decide)))
              · skip
                refine w_ieq 75 70 (by decide +kernel) (fun _ => ?_) (fun hz => absurd hz (by decide))
                refine w_push (-2) 77 (by decide +kernel) ?_
                refine w_goto 93 (by decide +kernel) ?_
                exact w_ret (by decide +kernel) (hq _ (Or.inr (by decide)))
    · skip
      refine w_load (.aload_n 0) 10 (by decide +kernel) rfl rfl ?_
      refine w_load (.iload_n 3) 11 (by decide +kernel) rfl rfl ?_
      refine w_callV1 150 8 2 14 (by decide +kernel) sh_76 (Nat.le_of_ble_eq_true rfl) rfl (by decide) (by omega) ?_
      obtain ⟨n89, hn89, en89⟩ := inv_g hI
      refine k_150 hI (by omega) en89 (by omega) (fun r90 hr90 => ?_)
      dsimp only [Option.toList, List.cons_append, List.nil_append]
      rcases hr90 with ⟨rfl, k91, hk91, rfl⟩ | ⟨rfl, hnok91⟩
      · skip
        refine w_ine 51 17 (by decide +kernel) (fun _ => ?_) (fun hz => absurd hz (by decide))
        refine w_pushN 1 52 (by decide +kernel) ?_
        refine w_goto 56 (by decide +kernel) ?_
        refine w_store (ls' := [.ref 76, .int g, .int e, .int (nI k91), .int (nI 1)]) (.istore 4) 58 (by decide +kernel) rfl rfl ?_
        refine w_load (.iload_n 2) 59 (by decide +kernel) rfl rfl ?_
        refine w_pure .i2l 60 (by decide +kernel) rfl rfl ?_
        refine w_pushL (0) 61 (by decide +kernel) ?_
        refine w_pushL (3) 64 (by decide +kernel) ?_
        refine w_callSL 134 6 67 (by decide +kernel) (Nat.le_of_ble_eq_true rfl) rfl (by omega) ?_
        refine k_134 hI  (by omega) (fun r93 hr93 => ?_)
        dsimp only [Option.toList, List.cons_append, List.nil_append]
        rcases hr93 with ⟨rfl, hlok95, hhik95⟩ | ⟨rfl, hnok95⟩
        · skip
          obtain ⟨k95, hlk95, hhk95, rfl⟩ := in_k (lo := 0) (hi := 3) hlok95 hhik95 (by decide)
          refine w_ieq 75 70 (by decide +kernel) (fun hz => absurd hz (by decide)) (fun _ => ?_)
          refine w_load (.iload 4) 72 (by decide +kernel) rfl rfl ?_
          refine w_ine 80 75 (by decide +kernel) (fun _ => ?_) (fun hz => absurd hz (by decide))
          refine w_load (.aload_n 0) 81 (by decide +kernel) rfl rfl ?_
          refine w_load (.iload_n 1) 82 (by decide +kernel) rfl rfl ?_
          refine w_callV1 150 8 2 85 (by decide +kernel) sh_76 (Nat.le_of_ble_eq_true rfl) rfl (by decide) (by omega) ?_
          refine k_150 hI (by omega) en89 (by omega) (fun r98 hr98 => ?_)
          dsimp only [Option.toList, List.cons_append, List.nil_append]
          rcases hr98 with ⟨rfl, k99, hk99, rfl⟩ | ⟨rfl, hnok99⟩
          · skip
            refine w_ine 92 88 (by decide +kernel) (fun _ => ?_) (fun hz => absurd hz (by decide))
            refine w_pushN 0 93 (by decide +kernel) ?_
            exact w_ret (by decide +kernel) (hq _ (Or.inl ⟨rfl, _, by omega, rfl⟩))
          · skip
            refine w_ine 92 88 (by decide +kernel) (fun hz => absurd hz (by decide)) (fun _ => ?_)
            refine w_push (-1) 89 (by decide +kernel) ?_
            refine w_goto 93 (by decide +kernel) ?_
            exact w_ret (by decide +kernel) (hq _ (Or.inr (by decide)))
        · skip
          refine w_ieq 75 70 (by decide +kernel) (fun _ => ?_) (fun hz => absurd hz (by decide))
          refine w_push (-2) 77 (by decide +kernel) ?_
          refine w_goto 93 (by decide +kernel) ?_
          exact w_ret (by decide +kernel) (hq _ (Or.inr (by decide)))
      · skip
        refine w_ine 51 17 (by decide +kernel) (fun hz => absurd hz (by decide)) (fun _ => ?_)
        refine w_load (.iload_n 2) 18 (by decide +kernel) rfl rfl ?_
        refine w_pushN 2 19 (by decide +kernel) ?_
        refine w_cne 34 22 (by decide +kernel) (fun h104 => ?_) (fun h104 => ?_)
        · skip
          refine w_load (.iload_n 2) 35 (by decide +kernel) rfl rfl ?_
          refine w_pushN 3 36 (by decide +kernel) ?_
          refine w_cne 55 39 (by decide +kernel) (fun h105 => ?_) (fun h105 => ?_)
          · skip
            refine w_pushN 0 56 (by decide +kernel) ?_
            refine w_store (ls' := [.ref 76, .int g, .int e, .int v, .int (nI 0)]) (.istore 4) 58 (by decide +kernel) rfl rfl ?_
            refine w_load (.iload_n 2) 59 (by decide +kernel) rfl rfl ?_
            refine w_pure .i2l 60 (by decide +kernel) rfl rfl ?_
            refine w_pushL (0) 61 (by decide +kernel) ?_
            refine w_pushL (3) 64 (by decide +kernel) ?_
            refine w_callSL 134 6 67 (by decide +kernel) (Nat.le_of_ble_eq_true rfl) rfl (by omega) ?_
            refine k_134 hI  (by omega) (fun r106 hr106 => ?_)
            dsimp only [Option.toList, List.cons_append, List.nil_append]
            rcases hr106 with ⟨rfl, hlok108, hhik108⟩ | ⟨rfl, hnok108⟩
            · skip
              obtain ⟨k108, hlk108, hhk108, rfl⟩ := in_k (lo := 0) (hi := 3) hlok108 hhik108 (by decide)
              refine w_ieq 75 70 (by decide +kernel) (fun hz => absurd hz (by decide)) (fun _ => ?_)
              refine w_load (.iload 4) 72 (by decide +kernel) rfl rfl ?_
              refine w_ine 80 75 (by decide +kernel) (fun hz => absurd hz (by decide)) (fun _ => ?_)
              refine w_push (-2) 77 (by decide +kernel) ?_
              refine w_goto 93 (by decide +kernel) ?_
              exact w_ret (by decide +kernel) (hq _ (Or.inr (by decide)))
            · skip
              refine w_ieq 75 70 (by decide +kernel) (fun _ => ?_) (fun hz => absurd hz (by decide))
              refine w_push (-2) 77 (by decide +kernel) ?_
              refine w_goto 93 (by decide +kernel) ?_
              exact w_ret (by decide +kernel) (hq _ (Or.inr (by decide)))
          · skip
            refine w_load (.iload_n 3) 40 (by decide +kernel) rfl rfl ?_
            refine w_pure .i2l 41 (by decide +kernel) rfl rfl ?_
            refine w_pushL (0) 42 (by decide +kernel) ?_
            refine w_pushL (3) 45 (by decide +kernel) ?_
            refine w_callSL 134 6 48 (by decide +kernel) (Nat.le_of_ble_eq_true rfl) rfl (by omega) ?_
            refine k_134 hI  (by omega) (fun r112 hr112 => ?_)
            dsimp only [Option.toList, List.cons_append, List.nil_append]
            rcases hr112 with ⟨rfl, hlok114, hhik114⟩ | ⟨rfl, hnok114⟩
            · skip
              obtain ⟨k114, hlk114, hhk114, rfl⟩ := in_k (lo := 0) (hi := 3) hlok114 hhik114 (by decide)
              refine w_ieq 55 51 (by decide +kernel) (fun hz => absurd hz (by decide)) (fun _ => ?_)
              refine w_pushN 1 52 (by decide +kernel) ?_
              refine w_goto 56 (by decide +kernel) ?_
              refine w_store (ls' := [.ref 76, .int g, .int e, .int (nI k114), .int (nI 1)]) (.istore 4) 58 (by decide +kernel) rfl rfl ?_
              refine w_load (.iload_n 2) 59 (by decide +kernel) rfl rfl ?_
              refine w_pure .i2l 60 (by decide +kernel) rfl rfl ?_
              refine w_pushL (0) 61 (by decide +kernel) ?_
              refine w_pushL (3) 64 (by decide +kernel) ?_
              refine w_callSL 134 6 67 (by decide +kernel) (Nat.le_of_ble_eq_true rfl) rfl (by omega) ?_
              refine k_134 hI  (by omega) (fun r116 hr116 => ?_)
              dsimp only [Option.toList, List.cons_append, List.nil_append]
              rcases hr116 with ⟨rfl, hlok118, hhik118⟩ | ⟨rfl, hnok118⟩
              · skip
                obtain ⟨k118, hlk118, hhk118, rfl⟩ := in_k (lo := 0) (hi := 3) hlok118 hhik118 (by decide)
                refine w_ieq 75 70 (by decide +kernel) (fun hz => absurd hz (by decide)) (fun _ => ?_)
                refine w_load (.iload 4) 72 (by decide +kernel) rfl rfl ?_
                refine w_ine 80 75 (by decide +kernel) (fun _ => ?_) (fun hz => absurd hz (by decide))
                refine w_load (.aload_n 0) 81 (by decide +kernel) rfl rfl ?_
                refine w_load (.iload_n 1) 82 (by decide +kernel) rfl rfl ?_
                refine w_callV1 150 8 2 85 (by decide +kernel) sh_76 (Nat.le_of_ble_eq_true rfl) rfl (by decide) (by omega) ?_
                refine k_150 hI (by omega) en89 (by omega) (fun r121 hr121 => ?_)
                dsimp only [Option.toList, List.cons_append, List.nil_append]
                rcases hr121 with ⟨rfl, k122, hk122, rfl⟩ | ⟨rfl, hnok122⟩
                · skip
                  refine w_ine 92 88 (by decide +kernel) (fun _ => ?_) (fun hz => absurd hz (by decide))
                  refine w_pushN 0 93 (by decide +kernel) ?_
                  exact w_ret (by decide +kernel) (hq _ (Or.inl ⟨rfl, _, by omega, rfl⟩))
                · skip
                  refine w_ine 92 88 (by decide +kernel) (fun hz => absurd hz (by decide)) (fun _ => ?_)
                  refine w_push (-1) 89 (by decide +kernel) ?_
                  refine w_goto 93 (by decide +kernel) ?_
                  exact w_ret (by decide +kernel) (hq _ (Or.inr (by decide)))
              · skip
                refine w_ieq 75 70 (by decide +kernel) (fun _ => ?_) (fun hz => absurd hz (by decide))
                refine w_push (-2) 77 (by decide +kernel) ?_
                refine w_goto 93 (by decide +kernel) ?_
                exact w_ret (by decide +kernel) (hq _ (Or.inr (by decide)))
            · skip
              refine w_ieq 55 51 (by decide +kernel) (fun _ => ?_) (fun hz => absurd hz (by decide))
              refine w_pushN 0 56 (by decide +kernel) ?_
              refine w_store (ls' := [.ref 76, .int g, .int e, .int v, .int (nI 0)]) (.istore 4) 58 (by decide +kernel) rfl rfl ?_
              refine w_load (.iload_n 2) 59 (by decide +kernel) rfl rfl ?_
              refine w_pure .i2l 60 (by decide +kernel) rfl rfl ?_
              refine w_pushL (0) 61 (by decide +kernel) ?_
              refine w_pushL (3) 64 (by decide +kernel) ?_
              refine w_callSL 134 6 67 (by decide +kernel) (Nat.le_of_ble_eq_true rfl) rfl (by omega) ?_
              refine k_134 hI  (by omega) (fun r127 hr127 => ?_)
              dsimp only [Option.toList, List.cons_append, List.nil_append]
              rcases hr127 with ⟨rfl, hlok129, hhik129⟩ | ⟨rfl, hnok129⟩
              · skip
                obtain ⟨k129, hlk129, hhk129, rfl⟩ := in_k (lo := 0) (hi := 3) hlok129 hhik129 (by decide)
                refine w_ieq 75 70 (by decide +kernel) (fun hz => absurd hz (by decide)) (fun _ => ?_)
                refine w_load (.iload 4) 72 (by decide +kernel) rfl rfl ?_
                refine w_ine 80 75 (by decide +kernel) (fun hz => absurd hz (by decide)) (fun _ => ?_)
                refine w_push (-2) 77 (by decide +kernel) ?_
                refine w_goto 93 (by decide +kernel) ?_
                exact w_ret (by decide +kernel) (hq _ (Or.inr (by decide)))
              · skip
                refine w_ieq 75 70 (by decide +kernel) (fun _ => ?_) (fun hz => absurd hz (by decide))
                refine w_push (-2) 77 (by decide +kernel) ?_
                refine w_goto 93 (by decide +kernel) ?_
                exact w_ret (by decide +kernel) (hq _ (Or.inr (by decide)))
        · skip
          refine w_load (.iload_n 3) 23 (by decide +kernel) rfl rfl ?_
          refine w_pure .i2l 24 (by decide +kernel) rfl rfl ?_
          refine w_pushL (0) 25 (by decide +kernel) ?_
          refine w_pushL (20) 28 (by decide +kernel) ?_
          refine w_callSL 134 6 31 (by decide +kernel) (Nat.le_of_ble_eq_true rfl) rfl (by omega) ?_
          refine k_134 hI  (by omega) (fun r133 hr133 => ?_)
          dsimp only [Option.toList, List.cons_append, List.nil_append]
          rcases hr133 with ⟨rfl, hlok135, hhik135⟩ | ⟨rfl, hnok135⟩
          · skip
            obtain ⟨k135, hlk135, hhk135, rfl⟩ := in_k (lo := 0) (hi := 20) hlok135 hhik135 (by decide)
            refine w_ine 51 34 (by decide +kernel) (fun _ => ?_) (fun hz => absurd hz (by decide))
            refine w_pushN 1 52 (by decide +kernel) ?_
            refine w_goto 56 (by decide +kernel) ?_
            refine w_store (ls' := [.ref 76, .int g, .int e, .int (nI k135), .int (nI 1)]) (.istore 4) 58 (by decide +kernel) rfl rfl ?_
            refine w_load (.iload_n 2) 59 (by decide +kernel) rfl rfl ?_
            refine w_pure .i2l 60 (by decide +kernel) rfl rfl ?_
            refine w_pushL (0) 61 (by decide +kernel) ?_
            refine w_pushL (3) 64 (by decide +kernel) ?_
            refine w_callSL 134 6 67 (by decide +kernel) (Nat.le_of_ble_eq_true rfl) rfl (by omega) ?_
            refine k_134 hI  (by omega) (fun r137 hr137 => ?_)
            dsimp only [Option.toList, List.cons_append, List.nil_append]
            rcases hr137 with ⟨rfl, hlok139, hhik139⟩ | ⟨rfl, hnok139⟩
            · skip
              obtain ⟨k139, hlk139, hhk139, rfl⟩ := in_k (lo := 0) (hi := 3) hlok139 hhik139 (by decide)
              refine w_ieq 75 70 (by decide +kernel) (fun hz => absurd hz (by decide)) (fun _ => ?_)
              refine w_load (.iload 4) 72 (by decide +kernel) rfl rfl ?_
              refine w_ine 80 75 (by decide +kernel) (fun _ => ?_) (fun hz => absurd hz (by decide))
              refine w_load (.aload_n 0) 81 (by decide +kernel) rfl rfl ?_
              refine w_load (.iload_n 1) 82 (by decide +kernel) rfl rfl ?_
              refine w_callV1 150 8 2 85 (by decide +kernel) sh_76 (Nat.le_of_ble_eq_true rfl) rfl (by decide) (by omega) ?_
              refine k_150 hI (by omega) en89 (by omega) (fun r142 hr142 => ?_)
              dsimp only [Option.toList, List.cons_append, List.nil_append]
              rcases hr142 with ⟨rfl, k143, hk143, rfl⟩ | ⟨rfl, hnok143⟩
              · skip
                refine w_ine 92 88 (by decide +kernel) (fun _ => ?_) (fun hz => absurd hz (by decide))
                refine w_pushN 0 93 (by decide +kernel) ?_
                exact w_ret (by decide +kernel) (hq _ (Or.inl ⟨rfl, _, by omega, rfl⟩))
              · skip
                refine w_ine 92 88 (by decide +kernel) (fun hz => absurd hz (by decide)) (fun _ => ?_)
                refine w_push (-1) 89 (by decide +kernel) ?_
                refine w_goto 93 (by decide +kernel) ?_
                exact w_ret (by decide +kernel) (hq _ (Or.inr (by decide)))
            · skip
              refine w_ieq 75 70 (by decide +kernel) (fun _ => ?_) (fun hz => absurd hz (by decide))
              refine w_push (-2) 77 (by decide +kernel) ?_
              refine w_goto 93 (by decide +kernel) ?_
              exact w_ret (by decide +kernel) (hq _ (Or.inr (by decide)))
          · skip
            refine w_ine 51 34 (by decide +kernel) (fun hz => absurd hz (by decide)) (fun _ => ?_)
            refine w_load (.iload_n 2) 35 (by decide +kernel) rfl rfl ?_
            refine w_pushN 3 36 (by decide +kernel) ?_
            refine w_cne 55 39 (by decide +kernel) (fun h148 => ?_) (fun h148 => ?_)
            · skip
              refine w_pushN 0 56 (by decide +kernel) ?_
              refine w_store (ls' := [.ref 76, .int g, .int e, .int v, .int (nI 0)]) (.istore 4) 58 (by decide +kernel) rfl rfl ?_
              refine w_load (.iload_n 2) 59 (by decide +kernel) rfl rfl ?_
              refine w_pure .i2l 60 (by decide +kernel) rfl rfl ?_
              refine w_pushL (0) 61 (by decide +kernel) ?_
              refine w_pushL (3) 64 (by decide +kernel) ?_
              refine w_callSL 134 6 67 (by decide +kernel) (Nat.le_of_ble_eq_true rfl) rfl (by omega) ?_
              refine k_134 hI  (by omega) (fun r149 hr149 => ?_)
              dsimp only [Option.toList, List.cons_append, List.nil_append]
              rcases hr149 with ⟨rfl, hlok151, hhik151⟩ | ⟨rfl, hnok151⟩
              · skip
                obtain ⟨k151, hlk151, hhk151, rfl⟩ := in_k (lo := 0) (hi := 3) hlok151 hhik151 (by decide)
                refine w_ieq 75 70 (by decide +kernel) (fun hz => absurd hz (by decide)) (fun _ => ?_)
                refine w_load (.iload 4) 72 (by decide +kernel) rfl rfl ?_
                refine w_ine 80 75 (by decide +kernel) (fun hz => absurd hz (by decide)) (fun _ => ?_)
                refine w_push (-2) 77 (by decide +kernel) ?_
                refine w_goto 93 (by decide +kernel) ?_
                exact w_ret (by decide +kernel) (hq _ (Or.inr (by decide)))
              · skip
                refine w_ieq 75 70 (by decide +kernel) (fun _ => ?_) (fun hz => absurd hz (by decide))
                refine w_push (-2) 77 (by decide +kernel) ?_
                refine w_goto 93 (by decide +kernel) ?_
                exact w_ret (by decide +kernel) (hq _ (Or.inr (by decide)))
            · skip
              refine w_load (.iload_n 3) 40 (by decide +kernel) rfl rfl ?_
              refine w_pure .i2l 41 (by decide +kernel) rfl rfl ?_
              refine w_pushL (0) 42 (by decide +kernel) ?_
              refine w_pushL (3) 45 (by decide +kernel) ?_
              refine w_callSL 134 6 48 (by decide +kernel) (Nat.le_of_ble_eq_true rfl) rfl (by omega) ?_
              refine k_134 hI  (by omega) (fun r155 hr155 => ?_)
              dsimp only [Option.toList, List.cons_append, List.nil_append]
              rcases hr155 with ⟨rfl, hlok157, hhik157⟩ | ⟨rfl, hnok157⟩
              · skip
                obtain ⟨k157, hlk157, hhk157, rfl⟩ := in_k (lo := 0) (hi := 3) hlok157 hhik157 (by decide)
                refine w_ieq 55 51 (by decide +kernel) (fun hz => absurd hz (by decide)) (fun _ => ?_)
                refine w_pushN 1 52 (by decide +kernel) ?_
                refine w_goto 56 (by decide +kernel) ?_
                refine w_store (ls' := [.ref 76, .int g, .int e, .int (nI k157), .int (nI 1)]) (.istore 4) 58 (by decide +kernel) rfl rfl ?_
                refine w_load (.iload_n 2) 59 (by decide +kernel) rfl rfl ?_
                refine w_pure .i2l 60 (by decide +kernel) rfl rfl ?_
                refine w_pushL (0) 61 (by decide +kernel) ?_
                refine w_pushL (3) 64 (by decide +kernel) ?_
                refine w_callSL 134 6 67 (by decide +kernel) (Nat.le_of_ble_eq_true rfl) rfl (by omega) ?_
                refine k_134 hI  (by omega) (fun r159 hr159 => ?_)
                dsimp only [Option.toList, List.cons_append, List.nil_append]
                rcases hr159 with ⟨rfl, hlok161, hhik161⟩ | ⟨rfl, hnok161⟩
                · skip
                  obtain ⟨k161, hlk161, hhk161, rfl⟩ := in_k (lo := 0) (hi := 3) hlok161 hhik161 (by decide)
                  refine w_ieq 75 70 (by decide +kernel) (fun hz => absurd hz (by decide)) (fun _ => ?_)
                  refine w_load (.iload 4) 72 (by decide +kernel) rfl rfl ?_
                  refine w_ine 80 75 (by decide +kernel) (fun _ => ?_) (fun hz => absurd hz (by decide))
                  refine w_load (.aload_n 0) 81 (by decide +kernel) rfl rfl ?_
                  refine w_load (.iload_n 1) 82 (by decide +kernel) rfl rfl ?_
                  refine w_callV1 150 8 2 85 (by decide +kernel) sh_76 (Nat.le_of_ble_eq_true rfl) rfl (by decide) (by omega) ?_
                  refine k_150 hI (by omega) en89 (by omega) (fun r164 hr164 => ?_)
                  dsimp only [Option.toList, List.cons_append, List.nil_append]
                  rcases hr164 with ⟨rfl, k165, hk165, rfl⟩ | ⟨rfl, hnok165⟩
                  · skip
                    refine w_ine 92 88 (by decide +kernel) (fun _ => ?_) (fun hz => absurd hz (by decide))
                    refine w_pushN 0 93 (by decide +kernel) ?_
                    exact w_ret (by decide +kernel) (hq _ (Or.inl ⟨rfl, _, by omega, rfl⟩))
                  · skip
                    refine w_ine 92 88 (by decide +kernel) (fun hz => absurd hz (by decide)) (fun _ => ?_)
                    refine w_push (-1) 89 (by decide +kernel) ?_
                    refine w_goto 93 (by decide +kernel) ?_
                    exact w_ret (by decide +kernel) (hq _ (Or.inr (by decide)))
                · skip
                  refine w_ieq 75 70 (by decide +kernel) (fun _ => ?_) (fun hz => absurd hz (by decide))
                  refine w_push (-2) 77 (by decide +kernel) ?_
                  refine w_goto 93 (by decide +kernel) ?_
                  exact w_ret (by decide +kernel) (hq _ (Or.inr (by decide)))
              · skip
                refine w_ieq 55 51 (by decide +kernel) (fun _ => ?_) (fun hz => absurd hz (by decide))
                refine w_pushN 0 56 (by decide +kernel) ?_
                refine w_store (ls' := [.ref 76, .int g, .int e, .int v, .int (nI 0)]) (.istore 4) 58 (by decide +kernel) rfl rfl ?_
                refine w_load (.iload_n 2) 59 (by decide +kernel) rfl rfl ?_
                refine w_pure .i2l 60 (by decide +kernel) rfl rfl ?_
                refine w_pushL (0) 61 (by decide +kernel) ?_
                refine w_pushL (3) 64 (by decide +kernel) ?_
                refine w_callSL 134 6 67 (by decide +kernel) (Nat.le_of_ble_eq_true rfl) rfl (by omega) ?_
                refine k_134 hI  (by omega) (fun r170 hr170 => ?_)
                dsimp only [Option.toList, List.cons_append, List.nil_append]
                rcases hr170 with ⟨rfl, hlok172, hhik172⟩ | ⟨rfl, hnok172⟩
                · skip
                  obtain ⟨k172, hlk172, hhk172, rfl⟩ := in_k (lo := 0) (hi := 3) hlok172 hhik172 (by decide)
                  refine w_ieq 75 70 (by decide +kernel) (fun hz => absurd hz (by decide)) (fun _ => ?_)
                  refine w_load (.iload 4) 72 (by decide +kernel) rfl rfl ?_
                  refine w_ine 80 75 (by decide +kernel) (fun hz => absurd hz (by decide)) (fun _ => ?_)
                  refine w_push (-2) 77 (by decide +kernel) ?_
                  refine w_goto 93 (by decide +kernel) ?_
                  exact w_ret (by decide +kernel) (hq _ (Or.inr (by decide)))
                · skip
                  refine w_ieq 75 70 (by decide +kernel) (fun _ => ?_) (fun hz => absurd hz (by decide))
                  refine w_push (-2) 77 (by decide +kernel) ?_
                  refine w_goto 93 (by decide +kernel) ?_
                  exact w_ret (by decide +kernel) (hq _ (Or.inr (by decide)))
