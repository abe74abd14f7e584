-- X8_act
set_option maxRecDepth 10000 in
theorem k_156 {d : Nat} {M : Mt} {L : Lt} {Q : Option Value → Mt → Lt → Prop} {lv dr : Nat} {a : Int32} {o : Int32} (hI : Inv M) (hlv : lv ≤ 7) (hdr : dr < 5) (ho : o = -9 ∨ ∃ z, z < 5 ∧ o = nI z) (hd : 0 ≤ d) (hq : ∀ (r : Int32) (N : Mt), St (fun i _ => i = 78) M N → (r = 0 ∨ r = 1) → Q (some (.int r)) N L) : Wp d 156 0 [.ref 76, .int (nI lv), .int a, .int (nI dr), .int o, .null, .null, .null, .null] [] M L Q := by
  refine (show ∀ N : Mt, N = M → St (fun i _ => i = 78) M N → Wp d 156 0 [.ref 76, .int (nI lv), .int a, .int (nI dr), .int o, .null, .null, .null, .null] [] N L Q from ?_) M rfl (St.rf hI)
  intro N hNM hS
  refine w_pushN 22 2 (by decide +kernel) ?_
  refine w_load (.iload_n 1) 3 (by decide +kernel) rfl rfl ?_
  refine w_mulN (22 * lv) 4 (by decide +kernel) rfl ?_
  refine w_store (ls' := [.ref 76, .int (nI lv), .int a, .int (nI dr), .int o, .int (nI (22 * lv)), .null, .null, .null]) (.istore 5) 6 (by decide +kernel) rfl rfl ?_
  refine w_load (.iload_n 2) 7 (by decide +kernel) rfl rfl ?_
  refine w_pushN 16 9 (by decide +kernel) ?_
  refine w_div 10 (by decide +kernel) (by decide) ?_
  refine w_topi (fun v1 ev1 => ?_)
  refine w_store (ls' := [.ref 76, .int (nI lv), .int a, .int (nI dr), .int o, .int (nI (22 * lv)), .int v1, .null, .null]) (.istore 6) 12 (by decide +kernel) rfl rfl ?_
  refine w_load (.iload 4) 14 (by decide +kernel) rfl rfl ?_
  refine w_push (-9) 16 (by decide +kernel) ?_
  refine w_ceq 84 19 (by decide +kernel) (fun h2 => ?_) (fun h2 => ?_)
  · skip
    refine w_pushN 0 85 (by decide +kernel) ?_
    refine w_store (ls' := [.ref 76, .int (nI lv), .int a, .int (nI dr), .int o, .int (nI (22 * lv)), .int v1, .int (nI 0), .null]) (.istore 7) 87 (by decide +kernel) rfl rfl ?_
    refine w_load (.iload 7) 89 (by decide +kernel) rfl rfl ?_
    refine w_ine 109 92 (by decide +kernel) (fun hz => absurd hz (by decide)) (fun _ => ?_)
    refine w_load (.aload_n 0) 93 (by decide +kernel) rfl rfl ?_
    refine w_getR (k := 2) (r := 78) 96 (by decide +kernel) sh_76 rfl ?_
    refine w_load (.iload 5) 98 (by decide +kernel) rfl rfl ?_
    refine w_pushN 5 99 (by decide +kernel) ?_
    refine w_addN (22 * lv + 5) 100 (by decide +kernel) (by omega) ?_
    refine w_load (.iload_n 3) 101 (by decide +kernel) rfl rfl ?_
    refine w_addN (22 * lv + 5 + dr) 102 (by decide +kernel) (by omega) ?_
    refine w_pure .dup2 103 (by decide +kernel) rfl rfl ?_
    refine w_ialdN 104 (by decide +kernel) sh_78 (by omega) (by omega) ?_
    refine w_pushN 1 105 (by decide +kernel) ?_
    refine w_pure .isub 106 (by decide +kernel) rfl rfl ?_
    refine w_iastW 107 (by decide +kernel) sh_78 (by omega) (by omega) hS (rg_78 (fun h1 h2 => by first | omega | exact Or.inl rfl | exact Or.inr ⟨_, by omega, rfl⟩ | exact inv_78 hS.1 _ (by omega) (by omega) | exact inv_82 hS.1 _ (by omega) (by omega) | exact inv_89 hS.1 _ (by omega) (by omega))) (by first | exact rfl | omega | (dsimp only; omega) | (simp only [Hs, Tl, Sc, isHs, isScr, isTs] at *; omega)) (fun N hS hq4 oq4 => ?_)
    refine w_pushN 0 108 (by decide +kernel) ?_
    exact w_retZ (by decide +kernel) (Or.inl rfl) (hq _ N hS (Or.inl rfl))
  · skip
    obtain ⟨k5, hk5, rfl⟩ := ho.resolve_left h2
    refine w_load (.iload 6) 21 (by decide +kernel) rfl rfl ?_
    refine w_pushN 1 22 (by decide +kernel) ?_
    refine w_cne 60 25 (by decide +kernel) (fun h6 => ?_) (fun h6 => ?_)
    · skip
      refine w_load (.iload 6) 62 (by decide +kernel) rfl rfl ?_
      refine w_pushN 2 63 (by decide +kernel) ?_
      refine w_cne 80 66 (by decide +kernel) (fun h7 => ?_) (fun h7 => ?_)
      · skip
        refine w_pushN 1 81 (by decide +kernel) ?_
        refine w_goto 85 (by decide +kernel) ?_
        refine w_store (ls' := [.ref 76, .int (nI lv), .int a, .int (nI dr), .int (nI k5), .int (nI (22 * lv)), .int v1, .int (nI 1), .null]) (.istore 7) 87 (by decide +kernel) rfl rfl ?_
        refine w_load (.iload 7) 89 (by decide +kernel) rfl rfl ?_
        refine w_ine 109 92 (by decide +kernel) (fun _ => ?_) (fun hz => absurd hz (by decide))
        refine w_load (.aload_n 0) 110 (by decide +kernel) rfl rfl ?_
        refine w_getR (k := 2) (r := 78) 113 (by decide +kernel) sh_76 rfl ?_
        refine w_load (.iload 5) 115 (by decide +kernel) rfl rfl ?_
        refine w_pushN 17 117 (by decide +kernel) ?_
        refine w_addN (22 * lv + 17) 118 (by decide +kernel) (by omega) ?_
        refine w_load (.iload_n 3) 119 (by decide +kernel) rfl rfl ?_
        refine w_addN (22 * lv + 17 + dr) 120 (by decide +kernel) (by omega) ?_
        refine w_pure .dup2 121 (by decide +kernel) rfl rfl ?_
        refine w_ialdN 122 (by decide +kernel) sh_78 (by omega) (by omega) ?_
        refine w_pushN 1 123 (by decide +kernel) ?_
        refine w_pure .isub 124 (by decide +kernel) rfl rfl ?_
        refine w_iastW 125 (by decide +kernel) sh_78 (by omega) (by omega) hS (rg_78 (fun h1 h2 => by first | omega | exact Or.inl rfl | exact Or.inr ⟨_, by omega, rfl⟩ | exact inv_78 hS.1 _ (by omega) (by omega) | exact inv_82 hS.1 _ (by omega) (by omega) | exact inv_89 hS.1 _ (by omega) (by omega))) (by first | exact rfl | omega | (dsimp only; omega) | (simp only [Hs, Tl, Sc, isHs, isScr, isTs] at *; omega)) (fun N hS hq9 oq9 => ?_)
        refine w_load (.iload 6) 127 (by decide +kernel) rfl rfl ?_
        refine w_ine 204 130 (by decide +kernel) (fun h10 => ?_) (fun h10 => ?_)
        · skip
          refine w_load (.iload 6) 206 (by decide +kernel) rfl rfl ?_
          refine w_pushN 1 207 (by decide +kernel) ?_
          refine w_cne 241 210 (by decide +kernel) (fun h11 => ?_) (fun h11 => ?_)
          · skip
            refine w_load (.iload 6) 243 (by decide +kernel) rfl rfl ?_
            refine w_pushN 2 244 (by decide +kernel) ?_
            refine w_cne 281 247 (by decide +kernel) (fun h12 => ?_) (fun h12 => ?_)
            · skip
              refine w_load (.aload_n 0) 282 (by decide +kernel) rfl rfl ?_
              refine w_getR (k := 2) (r := 78) 285 (by decide +kernel) sh_76 rfl ?_
              refine w_load (.iload 5) 287 (by decide +kernel) rfl rfl ?_
              refine w_load (.iload_n 3) 288 (by decide +kernel) rfl rfl ?_
              refine w_addN (22 * lv + dr) 289 (by decide +kernel) (by omega) ?_
              refine w_load (.iload_n 2) 290 (by decide +kernel) rfl rfl ?_
              refine w_pushN 4 291 (by decide +kernel) ?_
              refine w_rem 292 (by decide +kernel) (by decide) ?_
              refine w_iastW 293 (by decide +kernel) sh_78 (by omega) (by omega) hS (rg_78 (fun h1 h2 => by first | omega | exact Or.inl rfl | exact Or.inr ⟨_, by omega, rfl⟩ | exact inv_78 hS.1 _ (by omega) (by omega) | exact inv_82 hS.1 _ (by omega) (by omega) | exact inv_89 hS.1 _ (by omega) (by omega))) (by first | exact rfl | omega | (dsimp only; omega) | (simp only [Hs, Tl, Sc, isHs, isScr, isTs] at *; omega)) (fun N hS hq13 oq13 => ?_)
              refine w_pushN 1 294 (by decide +kernel) ?_
              exact w_retZ (by decide +kernel) (Or.inr rfl) (hq _ N hS (Or.inr rfl))
            · skip
              refine w_load (.aload_n 0) 248 (by decide +kernel) rfl rfl ?_
              refine w_getR (k := 2) (r := 78) 251 (by decide +kernel) sh_76 rfl ?_
              refine w_load (.iload 5) 253 (by decide +kernel) rfl rfl ?_
              refine w_pushN 5 254 (by decide +kernel) ?_
              refine w_addN (22 * lv + 5) 255 (by decide +kernel) (by omega) ?_
              refine w_load (.iload_n 3) 256 (by decide +kernel) rfl rfl ?_
              refine w_addN (22 * lv + 5 + dr) 257 (by decide +kernel) (by omega) ?_
              refine w_pure .dup2 258 (by decide +kernel) rfl rfl ?_
              refine w_ialdN 259 (by decide +kernel) sh_78 (by omega) (by omega) ?_
              refine w_pushN 1 260 (by decide +kernel) ?_
              refine w_pure .isub 261 (by decide +kernel) rfl rfl ?_
              refine w_iastW 262 (by decide +kernel) sh_78 (by omega) (by omega) hS (rg_78 (fun h1 h2 => by first | omega | exact Or.inl rfl | exact Or.inr ⟨_, by omega, rfl⟩ | exact inv_78 hS.1 _ (by omega) (by omega) | exact inv_82 hS.1 _ (by omega) (by omega) | exact inv_89 hS.1 _ (by omega) (by omega))) (by first | exact rfl | omega | (dsimp only; omega) | (simp only [Hs, Tl, Sc, isHs, isScr, isTs] at *; omega)) (fun N hS hq14 oq14 => ?_)
              refine w_load (.aload_n 0) 263 (by decide +kernel) rfl rfl ?_
              refine w_getR (k := 2) (r := 78) 266 (by decide +kernel) sh_76 rfl ?_
              refine w_load (.iload 5) 268 (by decide +kernel) rfl rfl ?_
              refine w_pushN 5 269 (by decide +kernel) ?_
              refine w_addN (22 * lv + 5) 270 (by decide +kernel) (by omega) ?_
              refine w_load (.iload 4) 272 (by decide +kernel) rfl rfl ?_
              refine w_addN (22 * lv + 5 + k5) 273 (by decide +kernel) (by omega) ?_
              refine w_pure .dup2 274 (by decide +kernel) rfl rfl ?_
              refine w_ialdN 275 (by decide +kernel) sh_78 (by omega) (by omega) ?_
              refine w_pushN 1 276 (by decide +kernel) ?_
              refine w_pure .iadd 277 (by decide +kernel) rfl rfl ?_
              refine w_iastW 278 (by decide +kernel) sh_78 (by omega) (by omega) hS (rg_78 (fun h1 h2 => by first | omega | exact Or.inl rfl | exact Or.inr ⟨_, by omega, rfl⟩ | exact inv_78 hS.1 _ (by omega) (by omega) | exact inv_82 hS.1 _ (by omega) (by omega) | exact inv_89 hS.1 _ (by omega) (by omega))) (by first | exact rfl | omega | (dsimp only; omega) | (simp only [Hs, Tl, Sc, isHs, isScr, isTs] at *; omega)) (fun N hS hq15 oq15 => ?_)
              refine w_goto 293 (by decide +kernel) ?_
              refine w_pushN 1 294 (by decide +kernel) ?_
              exact w_retZ (by decide +kernel) (Or.inr rfl) (hq _ N hS (Or.inr rfl))
          · skip
            refine w_load (.aload_n 0) 211 (by decide +kernel) rfl rfl ?_
            refine w_getR (k := 2) (r := 78) 214 (by decide +kernel) sh_76 rfl ?_
            refine w_load (.iload 5) 216 (by decide +kernel) rfl rfl ?_
            refine w_pushN 10 218 (by decide +kernel) ?_
            refine w_addN (22 * lv + 10) 219 (by decide +kernel) (by omega) ?_
            refine w_load (.iload_n 3) 220 (by decide +kernel) rfl rfl ?_
            refine w_addN (22 * lv + 10 + dr) 221 (by decide +kernel) (by omega) ?_
            refine w_load (.iload 4) 223 (by decide +kernel) rfl rfl ?_
            refine w_iastW 224 (by decide +kernel) sh_78 (by omega) (by omega) hS (rg_78 (fun h1 h2 => by first | omega | exact Or.inl rfl | exact Or.inr ⟨_, by omega, rfl⟩ | exact inv_78 hS.1 _ (by omega) (by omega) | exact inv_82 hS.1 _ (by omega) (by omega) | exact inv_89 hS.1 _ (by omega) (by omega))) (by first | exact rfl | omega | (dsimp only; omega) | (simp only [Hs, Tl, Sc, isHs, isScr, isTs] at *; omega)) (fun N hS hq16 oq16 => ?_)
            refine w_load (.aload_n 0) 225 (by decide +kernel) rfl rfl ?_
            refine w_getR (k := 2) (r := 78) 228 (by decide +kernel) sh_76 rfl ?_
            refine w_load (.iload 5) 230 (by decide +kernel) rfl rfl ?_
            refine w_pushN 10 232 (by decide +kernel) ?_
            refine w_addN (22 * lv + 10) 233 (by decide +kernel) (by omega) ?_
            refine w_load (.iload 4) 235 (by decide +kernel) rfl rfl ?_
            refine w_addN (22 * lv + 10 + k5) 236 (by decide +kernel) (by omega) ?_
            refine w_load (.iload_n 3) 237 (by decide +kernel) rfl rfl ?_
            refine w_iastW 238 (by decide +kernel) sh_78 (by omega) (by omega) hS (rg_78 (fun h1 h2 => by first | omega | exact Or.inl rfl | exact Or.inr ⟨_, by omega, rfl⟩ | exact inv_78 hS.1 _ (by omega) (by omega) | exact inv_82 hS.1 _ (by omega) (by omega) | exact inv_89 hS.1 _ (by omega) (by omega))) (by first | exact rfl | omega | (dsimp only; omega) | (simp only [Hs, Tl, Sc, isHs, isScr, isTs] at *; omega)) (fun N hS hq17 oq17 => ?_)
            refine w_goto 293 (by decide +kernel) ?_
            refine w_pushN 1 294 (by decide +kernel) ?_
            exact w_retZ (by decide +kernel) (Or.inr rfl) (hq _ N hS (Or.inr rfl))
        · skip
          refine w_load (.aload_n 0) 131 (by decide +kernel) rfl rfl ?_
          refine w_getR (k := 2) (r := 78) 134 (by decide +kernel) sh_76 rfl ?_
          refine w_load (.iload 5) 136 (by decide +kernel) rfl rfl ?_
          refine w_pushN 10 138 (by decide +kernel) ?_
          refine w_addN (22 * lv + 10) 139 (by decide +kernel) (by omega) ?_
          refine w_load (.iload 4) 141 (by decide +kernel) rfl rfl ?_
          refine w_addN (22 * lv + 10 + k5) 142 (by decide +kernel) (by omega) ?_
          refine w_ialdN 143 (by decide +kernel) sh_78 (by omega) (by omega) ?_
          refine w_topi (fun v18 ev18 => ?_)
          refine w_store (ls' := [.ref 76, .int (nI lv), .int a, .int (nI dr), .int (nI k5), .int (nI (22 * lv)), .int v1, .int (nI 1), .int v18]) (.istore 8) 145 (by decide +kernel) rfl rfl ?_
          have hwv18 : wedv v18 := by rw [ev18]; exact inv_78 hS.1 _ (by omega) (by omega)
          refine w_load (.aload_n 0) 146 (by decide +kernel) rfl rfl ?_
          refine w_getR (k := 2) (r := 78) 149 (by decide +kernel) sh_76 rfl ?_
          refine w_load (.iload 5) 151 (by decide +kernel) rfl rfl ?_
          refine w_pushN 15 153 (by decide +kernel) ?_
          refine w_addN (22 * lv + 15) 154 (by decide +kernel) (by omega) ?_
          refine w_pure .dup2 155 (by decide +kernel) rfl rfl ?_
          refine w_ialdN 156 (by decide +kernel) sh_78 (by omega) (by omega) ?_
          refine w_pushN 1 157 (by decide +kernel) ?_
          refine w_load (.iload 4) 159 (by decide +kernel) rfl rfl ?_
          refine w_pure .ishl 160 (by decide +kernel) rfl rfl ?_
          refine w_push (-1) 161 (by decide +kernel) ?_
          refine w_pure .ixor 162 (by decide +kernel) rfl rfl ?_
          refine w_pure .iand 163 (by decide +kernel) rfl rfl ?_
          refine w_iastW 164 (by decide +kernel) sh_78 (by omega) (by omega) hS (rg_78 (fun h1 h2 => by first | omega | exact Or.inl rfl | exact Or.inr ⟨_, by omega, rfl⟩ | exact inv_78 hS.1 _ (by omega) (by omega) | exact inv_82 hS.1 _ (by omega) (by omega) | exact inv_89 hS.1 _ (by omega) (by omega))) (by first | exact rfl | omega | (dsimp only; omega) | (simp only [Hs, Tl, Sc, isHs, isScr, isTs] at *; omega)) (fun N hS hq19 oq19 => ?_)
          refine w_load (.aload_n 0) 165 (by decide +kernel) rfl rfl ?_
          refine w_getR (k := 2) (r := 78) 168 (by decide +kernel) sh_76 rfl ?_
          refine w_load (.iload 5) 170 (by decide +kernel) rfl rfl ?_
          refine w_pushN 10 172 (by decide +kernel) ?_
          refine w_addN (22 * lv + 10) 173 (by decide +kernel) (by omega) ?_
          refine w_load (.iload 4) 175 (by decide +kernel) rfl rfl ?_
          refine w_addN (22 * lv + 10 + k5) 176 (by decide +kernel) (by omega) ?_
          refine w_push (-9) 178 (by decide +kernel) ?_
          refine w_iastW 179 (by decide +kernel) sh_78 (by omega) (by omega) hS (rg_78 (fun h1 h2 => by first | omega | exact Or.inl rfl | exact Or.inr ⟨_, by omega, rfl⟩ | exact inv_78 hS.1 _ (by omega) (by omega) | exact inv_82 hS.1 _ (by omega) (by omega) | exact inv_89 hS.1 _ (by omega) (by omega))) (by first | exact rfl | omega | (dsimp only; omega) | (simp only [Hs, Tl, Sc, isHs, isScr, isTs] at *; omega)) (fun N hS hq20 oq20 => ?_)
          refine w_load (.iload 8) 181 (by decide +kernel) rfl rfl ?_
          refine w_push (-9) 183 (by decide +kernel) ?_
          refine w_ceq 201 186 (by decide +kernel) (fun h21 => ?_) (fun h21 => ?_)
          · skip
            refine w_goto 293 (by decide +kernel) ?_
            refine w_pushN 1 294 (by decide +kernel) ?_
            exact w_retZ (by decide +kernel) (Or.inr rfl) (hq _ N hS (Or.inr rfl))
          · skip
            obtain ⟨k22, hk22, hxk22⟩ := hwv18.resolve_left h21
            rw [hxk22]
            refine w_load (.aload_n 0) 187 (by decide +kernel) rfl rfl ?_
            refine w_getR (k := 2) (r := 78) 190 (by decide +kernel) sh_76 rfl ?_
            refine w_load (.iload 5) 192 (by decide +kernel) rfl rfl ?_
            refine w_pushN 10 194 (by decide +kernel) ?_
            refine w_addN (22 * lv + 10) 195 (by decide +kernel) (by omega) ?_
            refine w_load (.iload 8) 197 (by decide +kernel) rfl rfl ?_
            refine w_addN (22 * lv + 10 + k22) 198 (by decide +kernel) (by omega) ?_
            refine w_push (-9) 200 (by decide +kernel) ?_
            refine w_iastW 201 (by decide +kernel) sh_78 (by omega) (by omega) hS (rg_78 (fun h1 h2 => by first | omega | exact Or.inl rfl | exact Or.inr ⟨_, by omega, rfl⟩ | exact inv_78 hS.1 _ (by omega) (by omega) | exact inv_82 hS.1 _ (by omega) (by omega) | exact inv_89 hS.1 _ (by omega) (by omega))) (by first | exact rfl | omega | (dsimp only; omega) | (simp only [Hs, Tl, Sc, isHs, isScr, isTs] at *; omega)) (fun N hS hq23 oq23 => ?_)
            refine w_goto 293 (by decide +kernel) ?_
            refine w_pushN 1 294 (by decide +kernel) ?_
            exact w_retZ (by decide +kernel) (Or.inr rfl) (hq _ N hS (Or.inr rfl))
      · skip
        refine w_load (.aload_n 0) 67 (by decide +kernel) rfl rfl ?_
        refine w_getR (k := 2) (r := 78) 70 (by decide +kernel) sh_76 rfl ?_
        refine w_load (.iload 5) 72 (by decide +kernel) rfl rfl ?_
        refine w_pushN 5 73 (by decide +kernel) ?_
        refine w_addN (22 * lv + 5) 74 (by decide +kernel) (by omega) ?_
        refine w_load (.iload_n 3) 75 (by decide +kernel) rfl rfl ?_
        refine w_addN (22 * lv + 5 + dr) 76 (by decide +kernel) (by omega) ?_
        refine w_ialdN 77 (by decide +kernel) sh_78 (by omega) (by omega) ?_
        refine w_ile 84 80 (by decide +kernel) (fun h24 => ?_) (fun h24 => ?_)
        · skip
          refine w_pushN 0 85 (by decide +kernel) ?_
          refine w_store (ls' := [.ref 76, .int (nI lv), .int a, .int (nI dr), .int (nI k5), .int (nI (22 * lv)), .int v1, .int (nI 0), .null]) (.istore 7) 87 (by decide +kernel) rfl rfl ?_
          refine w_load (.iload 7) 89 (by decide +kernel) rfl rfl ?_
          refine w_ine 109 92 (by decide +kernel) (fun hz => absurd hz (by decide)) (fun _ => ?_)
          refine w_load (.aload_n 0) 93 (by decide +kernel) rfl rfl ?_
          refine w_getR (k := 2) (r := 78) 96 (by decide +kernel) sh_76 rfl ?_
          refine w_load (.iload 5) 98 (by decide +kernel) rfl rfl ?_
          refine w_pushN 5 99 (by decide +kernel) ?_
          refine w_addN (22 * lv + 5) 100 (by decide +kernel) (by omega) ?_
          refine w_load (.iload_n 3) 101 (by decide +kernel) rfl rfl ?_
          refine w_addN (22 * lv + 5 + dr) 102 (by decide +kernel) (by omega) ?_
          refine w_pure .dup2 103 (by decide +kernel) rfl rfl ?_
          refine w_ialdN 104 (by decide +kernel) sh_78 (by omega) (by omega) ?_
          refine w_pushN 1 105 (by decide +kernel) ?_
          refine w_pure .isub 106 (by decide +kernel) rfl rfl ?_
          refine w_iastW 107 (by decide +kernel) sh_78 (by omega) (by omega) hS (rg_78 (fun h1 h2 => by first | omega | exact Or.inl rfl | exact Or.inr ⟨_, by omega, rfl⟩ | exact inv_78 hS.1 _ (by omega) (by omega) | exact inv_82 hS.1 _ (by omega) (by omega) | exact inv_89 hS.1 _ (by omega) (by omega))) (by first | exact rfl | omega | (dsimp only; omega) | (simp only [Hs, Tl, Sc, isHs, isScr, isTs] at *; omega)) (fun N hS hq26 oq26 => ?_)
          refine w_pushN 0 108 (by decide +kernel) ?_
          exact w_retZ (by decide +kernel) (Or.inl rfl) (hq _ N hS (Or.inl rfl))
        · skip
          refine w_pushN 1 81 (by decide +kernel) ?_
          refine w_goto 85 (by decide +kernel) ?_
          refine w_store (ls' := [.ref 76, .int (nI lv), .int a, .int (nI dr), .int (nI k5), .int (nI (22 * lv)), .int v1, .int (nI 1), .null]) (.istore 7) 87 (by decide +kernel) rfl rfl ?_
          refine w_load (.iload 7) 89 (by decide +kernel) rfl rfl ?_
          refine w_ine 109 92 (by decide +kernel) (fun _ => ?_) (fun hz => absurd hz (by decide))
          refine w_load (.aload_n 0) 110 (by decide +kernel) rfl rfl ?_
          refine w_getR (k := 2) (r := 78) 113 (by decide +kernel) sh_76 rfl ?_
          refine w_load (.iload 5) 115 (by decide +kernel) rfl rfl ?_
          refine w_pushN 17 117 (by decide +kernel) ?_
          refine w_addN (22 * lv + 17) 118 (by decide +kernel) (by omega) ?_
          refine w_load (.iload_n 3) 119 (by decide +kernel) rfl rfl ?_
          refine w_addN (22 * lv + 17 + dr) 120 (by decide +kernel) (by omega) ?_
          refine w_pure .dup2 121 (by decide +kernel) rfl rfl ?_
          refine w_ialdN 122 (by decide +kernel) sh_78 (by omega) (by omega) ?_
          refine w_pushN 1 123 (by decide +kernel) ?_
          refine w_pure .isub 124 (by decide +kernel) rfl rfl ?_
          refine w_iastW 125 (by decide +kernel) sh_78 (by omega) (by omega) hS (rg_78 (fun h1 h2 => by first | omega | exact Or.inl rfl | exact Or.inr ⟨_, by omega, rfl⟩ | exact inv_78 hS.1 _ (by omega) (by omega) | exact inv_82 hS.1 _ (by omega) (by omega) | exact inv_89 hS.1 _ (by omega) (by omega))) (by first | exact rfl | omega | (dsimp only; omega) | (simp only [Hs, Tl, Sc, isHs, isScr, isTs] at *; omega)) (fun N hS hq28 oq28 => ?_)
          refine w_load (.iload 6) 127 (by decide +kernel) rfl rfl ?_
          refine w_ine 204 130 (by decide +kernel) (fun h29 => ?_) (fun h29 => ?_)
          · skip
            refine w_load (.iload 6) 206 (by decide +kernel) rfl rfl ?_
            refine w_pushN 1 207 (by decide +kernel) ?_
            refine w_cne 241 210 (by decide +kernel) (fun h30 => ?_) (fun h30 => ?_)
            · skip
              refine w_load (.iload 6) 243 (by decide +kernel) rfl rfl ?_
              refine w_pushN 2 244 (by decide +kernel) ?_
              refine w_cne 281 247 (by decide +kernel) (fun h31 => ?_) (fun h31 => ?_)
              · skip
                refine w_load (.aload_n 0) 282 (by decide +kernel) rfl rfl ?_
                refine w_getR (k := 2) (r := 78) 285 (by decide +kernel) sh_76 rfl ?_
                refine w_load (.iload 5) 287 (by decide +kernel) rfl rfl ?_
                refine w_load (.iload_n 3) 288 (by decide +kernel) rfl rfl ?_
                refine w_addN (22 * lv + dr) 289 (by decide +kernel) (by omega) ?_
                refine w_load (.iload_n 2) 290 (by decide +kernel) rfl rfl ?_
                refine w_pushN 4 291 (by decide +kernel) ?_
                refine w_rem 292 (by decide +kernel) (by decide) ?_
                refine w_iastW 293 (by decide +kernel) sh_78 (by omega) (by omega) hS (rg_78 (fun h1 h2 => by first | omega | exact Or.inl rfl | exact Or.inr ⟨_, by omega, rfl⟩ | exact inv_78 hS.1 _ (by omega) (by omega) | exact inv_82 hS.1 _ (by omega) (by omega) | exact inv_89 hS.1 _ (by omega) (by omega))) (by first | exact rfl | omega | (dsimp only; omega) | (simp only [Hs, Tl, Sc, isHs, isScr, isTs] at *; omega)) (fun N hS hq32 oq32 => ?_)
                refine w_pushN 1 294 (by decide +kernel) ?_
                exact w_retZ (by decide +kernel) (Or.inr rfl) (hq _ N hS (Or.inr rfl))
              · skip
                refine w_load (.aload_n 0) 248 (by decide +kernel) rfl rfl ?_
                refine w_getR (k := 2) (r := 78) 251 (by decide +kernel) sh_76 rfl ?_
                refine w_load (.iload 5) 253 (by decide +kernel) rfl rfl ?_
                refine w_pushN 5 254 (by decide +kernel) ?_
                refine w_addN (22 * lv + 5) 255 (by decide +kernel) (by omega) ?_
                refine w_load (.iload_n 3) 256 (by decide +kernel) rfl rfl ?_
                refine w_addN (22 * lv + 5 + dr) 257 (by decide +kernel) (by omega) ?_
                refine w_pure .dup2 258 (by decide +kernel) rfl rfl ?_
                refine w_ialdN 259 (by decide +kernel) sh_78 (by omega) (by omega) ?_
                refine w_pushN 1 260 (by decide +kernel) ?_
                refine w_pure .isub 261 (by decide +kernel) rfl rfl ?_
                refine w_iastW 262 (by decide +kernel) sh_78 (by omega) (by omega) hS (rg_78 (fun h1 h2 => by first | omega | exact Or.inl rfl | exact Or.inr ⟨_, by omega, rfl⟩ | exact inv_78 hS.1 _ (by omega) (by omega) | exact inv_82 hS.1 _ (by omega) (by omega) | exact inv_89 hS.1 _ (by omega) (by omega))) (by first | exact rfl | omega | (dsimp only; omega) | (simp only [Hs, Tl, Sc, isHs, isScr, isTs] at *; omega)) (fun N hS hq33 oq33 => ?_)
                refine w_load (.aload_n 0) 263 (by decide +kernel) rfl rfl ?_
                refine w_getR (k := 2) (r := 78) 266 (by decide +kernel) sh_76 rfl ?_
                refine w_load (.iload 5) 268 (by decide +kernel) rfl rfl ?_
                refine w_pushN 5 269 (by decide +kernel) ?_
                refine w_addN (22 * lv + 5) 270 (by decide +kernel) (by omega) ?_
                refine w_load (.iload 4) 272 (by decide +kernel) rfl rfl ?_
                refine w_addN (22 * lv + 5 + k5) 273 (by decide +kernel) (by omega) ?_
                refine w_pure .dup2 274 (by decide +kernel) rfl rfl ?_
                refine w_ialdN 275 (by decide +kernel) sh_78 (by omega) (by omega) ?_
                refine w_pushN 1 276 (by decide +kernel) ?_
                refine w_pure .iadd 277 (by decide +kernel) rfl rfl ?_
                refine w_iastW 278 (by decide +kernel) sh_78 (by omega) (by omega) hS (rg_78 (fun h1 h2 => by first | omega | exact Or.inl rfl | exact Or.inr ⟨_, by omega, rfl⟩ | exact inv_78 hS.1 _ (by omega) (by omega) | exact inv_82 hS.1 _ (by omega) (by omega) | exact inv_89 hS.1 _ (by omega) (by omega))) (by first | exact rfl | omega | (dsimp only; omega) | (simp only [Hs, Tl, Sc, isHs, isScr, isTs] at *; omega)) (fun N hS hq34 oq34 => ?_)
                refine w_goto 293 (by decide +kernel) ?_
                refine w_pushN 1 294 (by decide +kernel) ?_
                exact w_retZ (by decide +kernel) (Or.inr rfl) (hq _ N hS (Or.inr rfl))
            · skip
              refine w_load (.aload_n 0) 211 (by decide +kernel) rfl rfl ?_
              refine w_getR (k := 2) (r := 78) 214 (by decide +kernel) sh_76 rfl ?_
              refine w_load (.iload 5) 216 (by decide +kernel) rfl rfl ?_
              refine w_pushN 10 218 (by decide +kernel) ?_
              refine w_addN (22 * lv + 10) 219 (by decide +kernel) (by omega) ?_
              refine w_load (.iload_n 3) 220 (by decide +kernel) rfl rfl ?_
              refine w_addN (22 * lv + 10 + dr) 221 (by decide +kernel) (by omega) ?_
              refine w_load (.iload 4) 223 (by decide +kernel) rfl rfl ?_
              refine w_iastW 224 (by decide +kernel) sh_78 (by omega) (by omega) hS (rg_78 (fun h1 h2 => by first | omega | exact Or.inl rfl | exact Or.inr ⟨_, by omega, rfl⟩ | exact inv_78 hS.1 _ (by omega) (by omega) | exact inv_82 hS.1 _ (by omega) (by omega) | exact inv_89 hS.1 _ (by omega) (by omega))) (by first | exact rfl | omega | (dsimp only; omega) | (simp only [Hs, Tl, Sc, isHs, isScr, isTs] at *; omega)) (fun N hS hq35 oq35 => ?_)
              refine w_load (.aload_n 0) 225 (by decide +kernel) rfl rfl ?_
              refine w_getR (k := 2) (r := 78) 228 (by decide +kernel) sh_76 rfl ?_
              refine w_load (.iload 5) 230 (by decide +kernel) rfl rfl ?_
              refine w_pushN 10 232 (by decide +kernel) ?_
              refine w_addN (22 * lv + 10) 233 (by decide +kernel) (by omega) ?_
              refine w_load (.iload 4) 235 (by decide +kernel) rfl rfl ?_
              refine w_addN (22 * lv + 10 + k5) 236 (by decide +kernel) (by omega) ?_
              refine w_load (.iload_n 3) 237 (by decide +kernel) rfl rfl ?_
              refine w_iastW 238 (by decide +kernel) sh_78 (by omega) (by omega) hS (rg_78 (fun h1 h2 => by first | omega | exact Or.inl rfl | exact Or.inr ⟨_, by omega, rfl⟩ | exact inv_78 hS.1 _ (by omega) (by omega) | exact inv_82 hS.1 _ (by omega) (by omega) | exact inv_89 hS.1 _ (by omega) (by omega))) (by first | exact rfl | omega | (dsimp only; omega) | (simp only [Hs, Tl, Sc, isHs, isScr, isTs] at *; omega)) (fun N hS hq36 oq36 => ?_)
              refine w_goto 293 (by decide +kernel) ?_
              refine w_pushN 1 294 (by decide +kernel) ?_
              exact w_retZ (by decide +kernel) (Or.inr rfl) (hq _ N hS (Or.inr rfl))
          · skip
            refine w_load (.aload_n 0) 131 (by decide +kernel) rfl rfl ?_
            refine w_getR (k := 2) (r := 78) 134 (by decide +kernel) sh_76 rfl ?_
            refine w_load (.iload 5) 136 (by decide +kernel) rfl rfl ?_
            refine w_pushN 10 138 (by decide +kernel) ?_
            refine w_addN (22 * lv + 10) 139 (by decide +kernel) (by omega) ?_
            refine w_load (.iload 4) 141 (by decide +kernel) rfl rfl ?_
            refine w_addN (22 * lv + 10 + k5) 142 (by decide +kernel) (by omega) ?_
            refine w_ialdN 143 (by decide +kernel) sh_78 (by omega) (by omega) ?_
            refine w_topi (fun v37 ev37 => ?_)
            refine w_store (ls' := [.ref 76, .int (nI lv), .int a, .int (nI dr), .int (nI k5), .int (nI (22 * lv)), .int v1, .int (nI 1), .int v37]) (.istore 8) 145 (by decide +kernel) rfl rfl ?_
            have hwv37 : wedv v37 := by rw [ev37]; exact inv_78 hS.1 _ (by omega) (by omega)
            refine w_load (.aload_n 0) 146 (by decide +kernel) rfl rfl ?_
            refine w_getR (k := 2) (r := 78) 149 (by decide +kernel) sh_76 rfl ?_
            refine w_load (.iload 5) 151 (by decide +kernel) rfl rfl ?_
            refine w_pushN 15 153 (by decide +kernel) ?_
            refine w_addN (22 * lv + 15) 154 (by decide +kernel) (by omega) ?_
            refine w_pure .dup2 155 (by decide +kernel) rfl rfl ?_
            refine w_ialdN 156 (by decide +kernel) sh_78 (by omega) (by omega) ?_
            refine w_pushN 1 157 (by decide +kernel) ?_
            refine w_load (.iload 4) 159 (by decide +kernel) rfl rfl ?_
            refine w_pure .ishl 160 (by decide +kernel) rfl rfl ?_
            refine w_push (-1) 161 (by decide +kernel) ?_
            refine w_pure .ixor 162 (by decide +kernel) rfl rfl ?_
            refine w_pure .iand 163 (by decide +kernel) rfl rfl ?_
            refine w_iastW 164 (by decide +kernel) sh_78 (by omega) (by omega) hS (rg_78 (fun h1 h2 => by first | omega | exact Or.inl rfl | exact Or.inr ⟨_, by omega, rfl⟩ | exact inv_78 hS.1 _ (by omega) (by omega) | exact inv_82 hS.1 _ (by omega) (by omega) | exact inv_89 hS.1 _ (by omega) (by omega))) (by first | exact rfl | omega | (dsimp only; omega) | (simp only [Hs, Tl, Sc, isHs, isScr, isTs] at *; omega)) (fun N hS hq38 oq38 => ?_)
            refine w_load (.aload_n 0) 165 (by decide +kernel) rfl rfl ?_
            refine w_getR (k := 2) (r := 78) 168 (by decide +kernel) sh_76 rfl ?_
            refine w_load (.iload 5) 170 (by decide +kernel) rfl rfl ?_
            refine w_pushN 10 172 (by decide +kernel) ?_
            refine w_addN (22 * lv + 10) 173 (by decide +kernel) (by omega) ?_
            refine w_load (.iload 4) 175 (by decide +kernel) rfl rfl ?_
            refine w_addN (22 * lv + 10 + k5) 176 (by decide +kernel) (by omega) ?_
            refine w_push (-9) 178 (by decide +kernel) ?_
            refine w_iastW 179 (by decide +kernel) sh_78 (by omega) (by omega) hS (rg_78 (fun h1 h2 => by first | omega | exact Or.inl rfl | exact Or.inr ⟨_, by omega, rfl⟩ | exact inv_78 hS.1 _ (by omega) (by omega) | exact inv_82 hS.1 _ (by omega) (by omega) | exact inv_89 hS.1 _ (by omega) (by omega))) (by first | exact rfl | omega | (dsimp only; omega) | (simp only [Hs, Tl, Sc, isHs, isScr, isTs] at *; omega)) (fun N hS hq39 oq39 => ?_)
            refine w_load (.iload 8) 181 (by decide +kernel) rfl rfl ?_
            refine w_push (-9) 183 (by decide +kernel) ?_
            refine w_ceq 201 186 (by decide +kernel) (fun h40 => ?_) (fun h40 => ?_)
            · skip
              refine w_goto 293 (by decide +kernel) ?_
              refine w_pushN 1 294 (by decide +kernel) ?_
              exact w_retZ (by decide +kernel) (Or.inr rfl) (hq _ N hS (Or.inr rfl))
            · skip
              obtain ⟨k41, hk41, hxk41⟩ := hwv37.resolve_left h40
              rw [hxk41]
              refine w_load (.aload_n 0) 187 (by decide +kernel) rfl rfl ?_
              refine w_getR (k := 2) (r := 78) 190 (by decide +kernel) sh_76 rfl ?_
              refine w_load (.iload 5) 192 (by decide +kernel) rfl rfl ?_
              refine w_pushN 10 194 (by decide +kernel) ?_
              refine w_addN (22 * lv + 10) 195 (by decide +kernel) (by omega) ?_
              refine w_load (.iload 8) 197 (by decide +kernel) rfl rfl ?_
              refine w_addN (22 * lv + 10 + k41) 198 (by decide +kernel) (by omega) ?_
              refine w_push (-9) 200 (by decide +kernel) ?_
              refine w_iastW 201 (by decide +kernel) sh_78 (by omega) (by omega) hS (rg_78 (fun h1 h2 => by first | omega | exact Or.inl rfl | exact Or.inr ⟨_, by omega, rfl⟩ | exact inv_78 hS.1 _ (by omega) (by omega) | exact inv_82 hS.1 _ (by omega) (by omega) | exact inv_89 hS.1 _ (by omega) (by omega))) (by first | exact rfl | omega | (dsimp only; omega) | (simp only [Hs, Tl, Sc, isHs, isScr, isTs] at *; omega)) (fun N hS hq42 oq42 => ?_)
              refine w_goto 293 (by decide +kernel) ?_
              refine w_pushN 1 294 (by decide +kernel) ?_
              exact w_retZ (by decide +kernel) (Or.inr rfl) (hq _ N hS (Or.inr rfl))
    · skip
      refine w_load (.aload_n 0) 26 (by decide +kernel) rfl rfl ?_
      refine w_getR (k := 2) (r := 78) 29 (by decide +kernel) sh_76 rfl ?_
      refine w_load (.iload 5) 31 (by decide +kernel) rfl rfl ?_
      refine w_pushN 10 33 (by decide +kernel) ?_
      refine w_addN (22 * lv + 10) 34 (by decide +kernel) (by omega) ?_
      refine w_load (.iload_n 3) 35 (by decide +kernel) rfl rfl ?_
      refine w_addN (22 * lv + 10 + dr) 36 (by decide +kernel) (by omega) ?_
      refine w_ialdN 37 (by decide +kernel) sh_78 (by omega) (by omega) ?_
      refine w_push (-9) 39 (by decide +kernel) ?_
      refine w_cne 84 42 (by decide +kernel) (fun h43 => ?_) (fun h43 => ?_)
      · skip
        refine w_pushN 0 85 (by decide +kernel) ?_
        refine w_store (ls' := [.ref 76, .int (nI lv), .int a, .int (nI dr), .int (nI k5), .int (nI (22 * lv)), .int v1, .int (nI 0), .null]) (.istore 7) 87 (by decide +kernel) rfl rfl ?_
        refine w_load (.iload 7) 89 (by decide +kernel) rfl rfl ?_
        refine w_ine 109 92 (by decide +kernel) (fun hz => absurd hz (by decide)) (fun _ => ?_)
        refine w_load (.aload_n 0) 93 (by decide +kernel) rfl rfl ?_
        refine w_getR (k := 2) (r := 78) 96 (by decide +kernel) sh_76 rfl ?_
        refine w_load (.iload 5) 98 (by decide +kernel) rfl rfl ?_
        refine w_pushN 5 99 (by decide +kernel) ?_
        refine w_addN (22 * lv + 5) 100 (by decide +kernel) (by omega) ?_
        refine w_load (.iload_n 3) 101 (by decide +kernel) rfl rfl ?_
        refine w_addN (22 * lv + 5 + dr) 102 (by decide +kernel) (by omega) ?_
        refine w_pure .dup2 103 (by decide +kernel) rfl rfl ?_
        refine w_ialdN 104 (by decide +kernel) sh_78 (by omega) (by omega) ?_
        refine w_pushN 1 105 (by decide +kernel) ?_
        refine w_pure .isub 106 (by decide +kernel) rfl rfl ?_
        refine w_iastW 107 (by decide +kernel) sh_78 (by omega) (by omega) hS (rg_78 (fun h1 h2 => by first | omega | exact Or.inl rfl | exact Or.inr ⟨_, by omega, rfl⟩ | exact inv_78 hS.1 _ (by omega) (by omega) | exact inv_82 hS.1 _ (by omega) (by omega) | exact inv_89 hS.1 _ (by omega) (by omega))) (by first | exact rfl | omega | (dsimp only; omega) | (simp only [Hs, Tl, Sc, isHs, isScr, isTs] at *; omega)) (fun N hS hq45 oq45 => ?_)
        refine w_pushN 0 108 (by decide +kernel) ?_
        exact w_retZ (by decide +kernel) (Or.inl rfl) (hq _ N hS (Or.inl rfl))
      · skip
        refine w_load (.aload_n 0) 43 (by decide +kernel) rfl rfl ?_
        refine w_getR (k := 2) (r := 78) 46 (by decide +kernel) sh_76 rfl ?_
        refine w_load (.iload 5) 48 (by decide +kernel) rfl rfl ?_
        refine w_pushN 10 50 (by decide +kernel) ?_
        refine w_addN (22 * lv + 10) 51 (by decide +kernel) (by omega) ?_
        refine w_load (.iload 4) 53 (by decide +kernel) rfl rfl ?_
        refine w_addN (22 * lv + 10 + k5) 54 (by decide +kernel) (by omega) ?_
        refine w_ialdN 55 (by decide +kernel) sh_78 (by omega) (by omega) ?_
        refine w_push (-9) 57 (by decide +kernel) ?_
        refine w_cne 84 60 (by decide +kernel) (fun h46 => ?_) (fun h46 => ?_)
        · skip
          refine w_pushN 0 85 (by decide +kernel) ?_
          refine w_store (ls' := [.ref 76, .int (nI lv), .int a, .int (nI dr), .int (nI k5), .int (nI (22 * lv)), .int v1, .int (nI 0), .null]) (.istore 7) 87 (by decide +kernel) rfl rfl ?_
          refine w_load (.iload 7) 89 (by decide +kernel) rfl rfl ?_
          refine w_ine 109 92 (by decide +kernel) (fun hz => absurd hz (by decide)) (fun _ => ?_)
          refine w_load (.aload_n 0) 93 (by decide +kernel) rfl rfl ?_
          refine w_getR (k := 2) (r := 78) 96 (by decide +kernel) sh_76 rfl ?_
          refine w_load (.iload 5) 98 (by decide +kernel) rfl rfl ?_
          refine w_pushN 5 99 (by decide +kernel) ?_
          refine w_addN (22 * lv + 5) 100 (by decide +kernel) (by omega) ?_
          refine w_load (.iload_n 3) 101 (by decide +kernel) rfl rfl ?_
          refine w_addN (22 * lv + 5 + dr) 102 (by decide +kernel) (by omega) ?_
          refine w_pure .dup2 103 (by decide +kernel) rfl rfl ?_
          refine w_ialdN 104 (by decide +kernel) sh_78 (by omega) (by omega) ?_
          refine w_pushN 1 105 (by decide +kernel) ?_
          refine w_pure .isub 106 (by decide +kernel) rfl rfl ?_
          refine w_iastW 107 (by decide +kernel) sh_78 (by omega) (by omega) hS (rg_78 (fun h1 h2 => by first | omega | exact Or.inl rfl | exact Or.inr ⟨_, by omega, rfl⟩ | exact inv_78 hS.1 _ (by omega) (by omega) | exact inv_82 hS.1 _ (by omega) (by omega) | exact inv_89 hS.1 _ (by omega) (by omega))) (by first | exact rfl | omega | (dsimp only; omega) | (simp only [Hs, Tl, Sc, isHs, isScr, isTs] at *; omega)) (fun N hS hq48 oq48 => ?_)
          refine w_pushN 0 108 (by decide +kernel) ?_
          exact w_retZ (by decide +kernel) (Or.inl rfl) (hq _ N hS (Or.inl rfl))
        · skip
          refine w_load (.iload 6) 62 (by decide +kernel) rfl rfl ?_
          refine w_pushN 2 63 (by decide +kernel) ?_
          refine w_cne 80 66 (by decide +kernel) (fun h49 => ?_) (fun h49 => ?_)
          · skip
            refine w_pushN 1 81 (by decide +kernel) ?_
            refine w_goto 85 (by decide +kernel) ?_
            refine w_store (ls' := [.ref 76, .int (nI lv), .int a, .int (nI dr), .int (nI k5), .int (nI (22 * lv)), .int v1, .int (nI 1), .null]) (.istore 7) 87 (by decide +kernel) rfl rfl ?_
            refine w_load (.iload 7) 89 (by decide +kernel) rfl rfl ?_
            refine w_ine 109 92 (by decide +kernel) (fun _ => ?_) (fun hz => absurd hz (by decide))
            refine w_load (.aload_n 0) 110 (by decide +kernel) rfl rfl ?_
            refine w_getR (k := 2) (r := 78) 113 (by decide +kernel) sh_76 rfl ?_
            refine w_load (.iload 5) 115 (by decide +kernel) rfl rfl ?_
            refine w_pushN 17 117 (by decide +kernel) ?_
            refine w_addN (22 * lv + 17) 118 (by decide +kernel) (by omega) ?_
            refine w_load (.iload_n 3) 119 (by decide +kernel) rfl rfl ?_
            refine w_addN (22 * lv + 17 + dr) 120 (by decide +kernel) (by omega) ?_
            refine w_pure .dup2 121 (by decide +kernel) rfl rfl ?_
            refine w_ialdN 122 (by decide +kernel) sh_78 (by omega) (by omega) ?_
            refine w_pushN 1 123 (by decide +kernel) ?_
            refine w_pure .isub 124 (by decide +kernel) rfl rfl ?_
            refine w_iastW 125 (by decide +kernel) sh_78 (by omega) (by omega) hS (rg_78 (fun h1 h2 => by first | omega | exact Or.inl rfl | exact Or.inr ⟨_, by omega, rfl⟩ | exact inv_78 hS.1 _ (by omega) (by omega) | exact inv_82 hS.1 _ (by omega) (by omega) | exact inv_89 hS.1 _ (by omega) (by omega))) (by first | exact rfl | omega | (dsimp only; omega) | (simp only [Hs, Tl, Sc, isHs, isScr, isTs] at *; omega)) (fun N hS hq51 oq51 => ?_)
            refine w_load (.iload 6) 127 (by decide +kernel) rfl rfl ?_
            refine w_ine 204 130 (by decide +kernel) (fun h52 => ?_) (fun h52 => ?_)
            · skip
              refine w_load (.iload 6) 206 (by decide +kernel) rfl rfl ?_
              refine w_pushN 1 207 (by decide +kernel) ?_
              refine w_cne 241 210 (by decide +kernel) (fun h53 => ?_) (fun h53 => ?_)
              · skip
                refine w_load (.iload 6) 243 (by decide +kernel) rfl rfl ?_
                refine w_pushN 2 244 (by decide +kernel) ?_
                refine w_cne 281 247 (by decide +kernel) (fun h54 => ?_) (fun h54 => ?_)
                · skip
                  refine w_load (.aload_n 0) 282 (by decide +kernel) rfl rfl ?_
                  refine w_getR (k := 2) (r := 78) 285 (by decide +kernel) sh_76 rfl ?_
                  refine w_load (.iload 5) 287 (by decide +kernel) rfl rfl ?_
                  refine w_load (.iload_n 3) 288 (by decide +kernel) rfl rfl ?_
                  refine w_addN (22 * lv + dr) 289 (by decide +kernel) (by omega) ?_
                  refine w_load (.iload_n 2) 290 (by decide +kernel) rfl rfl ?_
                  refine w_pushN 4 291 (by decide +kernel) ?_
                  refine w_rem 292 (by decide +kernel) (by decide) ?_
                  refine w_iastW 293 (by decide +kernel) sh_78 (by omega) (by omega) hS (rg_78 (fun h1 h2 => by first | omega | exact Or.inl rfl | exact Or.inr ⟨_, by omega, rfl⟩ | exact inv_78 hS.1 _ (by omega) (by omega) | exact inv_82 hS.1 _ (by omega) (by omega) | exact inv_89 hS.1 _ (by omega) (by omega))) (by first | exact rfl | omega | (dsimp only; omega) | (simp only [Hs, Tl, Sc, isHs, isScr, isTs] at *; omega)) (fun N hS hq55 oq55 => ?_)
                  refine w_pushN 1 294 (by decide +kernel) ?_
                  exact w_retZ (by decide +kernel) (Or.inr rfl) (hq _ N hS (Or.inr rfl))
                · skip
                  refine w_load (.aload_n 0) 248 (by decide +kernel) rfl rfl ?_
                  refine w_getR (k := 2) (r := 78) 251 (by decide +kernel) sh_76 rfl ?_
                  refine w_load (.iload 5) 253 (by decide +kernel) rfl rfl ?_
                  refine w_pushN 5 254 (by decide +kernel) ?_
                  refine w_addN (22 * lv + 5) 255 (by decide +kernel) (by omega) ?_
                  refine w_load (.iload_n 3) 256 (by decide +kernel) rfl rfl ?_
                  refine w_addN (22 * lv + 5 + dr) 257 (by decide +kernel) (by omega) ?_
                  refine w_pure .dup2 258 (by decide +kernel) rfl rfl ?_
                  refine w_ialdN 259 (by decide +kernel) sh_78 (by omega) (by omega) ?_
                  refine w_pushN 1 260 (by decide +kernel) ?_
                  refine w_pure .isub 261 (by decide +kernel) rfl rfl ?_
                  refine w_iastW 262 (by decide +kernel) sh_78 (by omega) (by omega) hS (rg_78 (fun h1 h2 => by first | omega | exact Or.inl rfl | exact Or.inr ⟨_, by omega, rfl⟩ | exact inv_78 hS.1 _ (by omega) (by omega) | exact inv_82 hS.1 _ (by omega) (by omega) | exact inv_89 hS.1 _ (by omega) (by omega))) (by first | exact rfl | omega | (dsimp only; omega) | (simp only [Hs, Tl, Sc, isHs, isScr, isTs] at *; omega)) (fun N hS hq56 oq56 => ?_)
                  refine w_load (.aload_n 0) 263 (by decide +kernel) rfl rfl ?_
                  refine w_getR (k := 2) (r := 78) 266 (by decide +kernel) sh_76 rfl ?_
                  refine w_load (.iload 5) 268 (by decide +kernel) rfl rfl ?_
                  refine w_pushN 5 269 (by decide +kernel) ?_
                  refine w_addN (22 * lv + 5) 270 (by decide +kernel) (by omega) ?_
                  refine w_load (.iload 4) 272 (by decide +kernel) rfl rfl ?_
                  refine w_addN (22 * lv + 5 + k5) 273 (by decide +kernel) (by omega) ?_
                  refine w_pure .dup2 274 (by decide +kernel) rfl rfl ?_
                  refine w_ialdN 275 (by decide +kernel) sh_78 (by omega) (by omega) ?_
                  refine w_pushN 1 276 (by decide +kernel) ?_
                  refine w_pure .iadd 277 (by decide +kernel) rfl rfl ?_
                  refine w_iastW 278 (by decide +kernel) sh_78 (by omega) (by omega) hS (rg_78 (fun h1 h2 => by first | omega | exact Or.inl rfl | exact Or.inr ⟨_, by omega, rfl⟩ | exact inv_78 hS.1 _ (by omega) (by omega) | exact inv_82 hS.1 _ (by omega) (by omega) | exact inv_89 hS.1 _ (by omega) (by omega))) (by first | exact rfl | omega | (dsimp only; omega) | (simp only [Hs, Tl, Sc, isHs, isScr, isTs] at *; omega)) (fun N hS hq57 oq57 => ?_)
                  refine w_goto 293 (by decide +kernel) ?_
                  refine w_pushN 1 294 (by decide +kernel) ?_
                  exact w_retZ (by decide +kernel) (Or.inr rfl) (hq _ N hS (Or.inr rfl))
              · skip
                refine w_load (.aload_n 0) 211 (by decide +kernel) rfl rfl ?_
                refine w_getR (k := 2) (r := 78) 214 (by decide +kernel) sh_76 rfl ?_
                refine w_load (.iload 5) 216 (by decide +kernel) rfl rfl ?_
                refine w_pushN 10 218 (by decide +kernel) ?_
                refine w_addN (22 * lv + 10) 219 (by decide +kernel) (by omega) ?_
                refine w_load (.iload_n 3) 220 (by decide +kernel) rfl rfl ?_
                refine w_addN (22 * lv + 10 + dr) 221 (by decide +kernel) (by omega) ?_
                refine w_load (.iload 4) 223 (by decide +kernel) rfl rfl ?_
                refine w_iastW 224 (by decide +kernel) sh_78 (by omega) (by omega) hS (rg_78 (fun h1 h2 => by first | omega | exact Or.inl rfl | exact Or.inr ⟨_, by omega, rfl⟩ | exact inv_78 hS.1 _ (by omega) (by omega) | exact inv_82 hS.1 _ (by omega) (by omega) | exact inv_89 hS.1 _ (by omega) (by omega))) (by first | exact rfl | omega | (dsimp only; omega) | (simp only [Hs, Tl, Sc, isHs, isScr, isTs] at *; omega)) (fun N hS hq58 oq58 => ?_)
                refine w_load (.aload_n 0) 225 (by decide +kernel) rfl rfl ?_
                refine w_getR (k := 2) (r := 78) 228 (by decide +kernel) sh_76 rfl ?_
                refine w_load (.iload 5) 230 (by decide +kernel) rfl rfl ?_
                refine w_pushN 10 232 (by decide +kernel) ?_
                refine w_addN (22 * lv + 10) 233 (by decide +kernel) (by omega) ?_
                refine w_load (.iload 4) 235 (by decide +kernel) rfl rfl ?_
                refine w_addN (22 * lv + 10 + k5) 236 (by decide +kernel) (by omega) ?_
                refine w_load (.iload_n 3) 237 (by decide +kernel) rfl rfl ?_
                refine w_iastW 238 (by decide +kernel) sh_78 (by omega) (by omega) hS (rg_78 (fun h1 h2 => by first | omega | exact Or.inl rfl | exact Or.inr ⟨_, by omega, rfl⟩ | exact inv_78 hS.1 _ (by omega) (by omega) | exact inv_82 hS.1 _ (by omega) (by omega) | exact inv_89 hS.1 _ (by omega) (by omega))) (by first | exact rfl | omega | (dsimp only; omega) | (simp only [Hs, Tl, Sc, isHs, isScr, isTs] at *; omega)) (fun N hS hq59 oq59 => ?_)
                refine w_goto 293 (by decide +kernel) ?_
                refine w_pushN 1 294 (by decide +kernel) ?_
                exact w_retZ (by decide +kernel) (Or.inr rfl) (hq _ N hS (Or.inr rfl))
            · skip
              refine w_load (.aload_n 0) 131 (by decide +kernel) rfl rfl ?_
              refine w_getR (k := 2) (r := 78) 134 (by decide +kernel) sh_76 rfl ?_
              refine w_load (.iload 5) 136 (by decide +kernel) rfl rfl ?_
              refine w_pushN 10 138 (by decide +kernel) ?_
              refine w_addN (22 * lv + 10) 139 (by decide +kernel) (by omega) ?_
              refine w_load (.iload 4) 141 (by decide +kernel) rfl rfl ?_
              refine w_addN (22 * lv + 10 + k5) 142 (by decide +kernel) (by omega) ?_
              refine w_ialdN 143 (by decide +kernel) sh_78 (by omega) (by omega) ?_
              refine w_topi (fun v60 ev60 => ?_)
              refine w_store (ls' := [.ref 76, .int (nI lv), .int a, .int (nI dr), .int (nI k5), .int (nI (22 * lv)), .int v1, .int (nI 1), .int v60]) (.istore 8) 145 (by decide +kernel) rfl rfl ?_
              have hwv60 : wedv v60 := by rw [ev60]; exact inv_78 hS.1 _ (by omega) (by omega)
              refine w_load (.aload_n 0) 146 (by decide +kernel) rfl rfl ?_
              refine w_getR (k := 2) (r := 78) 149 (by decide +kernel) sh_76 rfl ?_
              refine w_load (.iload 5) 151 (by decide +kernel) rfl rfl ?_
              refine w_pushN 15 153 (by decide +kernel) ?_
              refine w_addN (22 * lv + 15) 154 (by decide +kernel) (by omega) ?_
              refine w_pure .dup2 155 (by decide +kernel) rfl rfl ?_
              refine w_ialdN 156 (by decide +kernel) sh_78 (by omega) (by omega) ?_
              refine w_pushN 1 157 (by decide +kernel) ?_
              refine w_load (.iload 4) 159 (by decide +kernel) rfl rfl ?_
              refine w_pure .ishl 160 (by decide +kernel) rfl rfl ?_
              refine w_push (-1) 161 (by decide +kernel) ?_
              refine w_pure .ixor 162 (by decide +kernel) rfl rfl ?_
              refine w_pure .iand 163 (by decide +kernel) rfl rfl ?_
              refine w_iastW 164 (by decide +kernel) sh_78 (by omega) (by omega) hS (rg_78 (fun h1 h2 => by first | omega | exact Or.inl rfl | exact Or.inr ⟨_, by omega, rfl⟩ | exact inv_78 hS.1 _ (by omega) (by omega) | exact inv_82 hS.1 _ (by omega) (by omega) | exact inv_89 hS.1 _ (by omega) (by omega))) (by first | exact rfl | omega | (dsimp only; omega) | (simp only [Hs, Tl, Sc, isHs, isScr, isTs] at *; omega)) (fun N hS hq61 oq61 => ?_)
              refine w_load (.aload_n 0) 165 (by decide +kernel) rfl rfl ?_
              refine w_getR (k := 2) (r := 78) 168 (by decide +kernel) sh_76 rfl ?_
              refine w_load (.iload 5) 170 (by decide +kernel) rfl rfl ?_
              refine w_pushN 10 172 (by decide +kernel) ?_
              refine w_addN (22 * lv + 10) 173 (by decide +kernel) (by omega) ?_
              refine w_load (.iload 4) 175 (by decide +kernel) rfl rfl ?_
              refine w_addN (22 * lv + 10 + k5) 176 (by decide +kernel) (by omega) ?_
              refine w_push (-9) 178 (by decide +kernel) ?_
              refine w_iastW 179 (by decide +kernel) sh_78 (by omega) (by omega) hS (rg_78 (fun h1 h2 => by first | omega | exact Or.inl rfl | exact Or.inr ⟨_, by omega, rfl⟩ | exact inv_78 hS.1 _ (by omega) (by omega) | exact inv_82 hS.1 _ (by omega) (by omega) | exact inv_89 hS.1 _ (by omega) (by omega))) (by first | exact rfl | omega | (dsimp only; omega) | (simp only [Hs, Tl, Sc, isHs, isScr, isTs] at *; omega)) (fun N hS hq62 oq62 => ?_)
              refine w_load (.iload 8) 181 (by decide +kernel) rfl rfl ?_
              refine w_push (-9) 183 (by decide +kernel) ?_
              refine w_ceq 201 186 (by decide +kernel) (fun h63 => ?_) (fun h63 => ?_)
              · skip
                refine w_goto 293 (by decide +kernel) ?_
                refine w_pushN 1 294 (by decide +kernel) ?_
                exact w_retZ (by decide +kernel) (Or.inr rfl) (hq _ N hS (Or.inr rfl))
              · skip
                obtain ⟨k64, hk64, hxk64⟩ := hwv60.resolve_left h63
                rw [hxk64]
                refine w_load (.aload_n 0) 187 (by decide +kernel) rfl rfl ?_
                refine w_getR (k := 2) (r := 78) 190 (by decide +kernel) sh_76 rfl ?_
                refine w_load (.iload 5) 192 (by decide +kernel) rfl rfl ?_
                refine w_pushN 10 194 (by decide +kernel) ?_
                refine w_addN (22 * lv + 10) 195 (by decide +kernel) (by omega) ?_
                refine w_load (.iload 8) 197 (by decide +kernel) rfl rfl ?_
                refine w_addN (22 * lv + 10 + k64) 198 (by decide +kernel) (by omega) ?_
                refine w_push (-9) 200 (by decide +kernel) ?_
                refine w_iastW 201 (by decide +kernel) sh_78 (by omega) (by omega) hS (rg_78 (fun h1 h2 => by first | omega | exact Or.inl rfl | exact Or.inr ⟨_, by omega, rfl⟩ | exact inv_78 hS.1 _ (by omega) (by omega) | exact inv_82 hS.1 _ (by omega) (by omega) | exact inv_89 hS.1 _ (by omega) (by omega))) (by first | exact rfl | omega | (dsimp only; omega) | (simp only [Hs, Tl, Sc, isHs, isScr, isTs] at *; omega)) (fun N hS hq65 oq65 => ?_)
                refine w_goto 293 (by decide +kernel) ?_
                refine w_pushN 1 294 (by decide +kernel) ?_
                exact w_retZ (by decide +kernel) (Or.inr rfl) (hq _ N hS (Or.inr rfl))
          · skip
            refine w_load (.aload_n 0) 67 (by decide +kernel) rfl rfl ?_
            refine w_getR (k := 2) (r := 78) 70 (by decide +kernel) sh_76 rfl ?_
            refine w_load (.iload 5) 72 (by decide +kernel) rfl rfl ?_
            refine w_pushN 5 73 (by decide +kernel) ?_
            refine w_addN (22 * lv + 5) 74 (by decide +kernel) (by omega) ?_
            refine w_load (.iload_n 3) 75 (by decide +kernel) rfl rfl ?_
            refine w_addN (22 * lv + 5 + dr) 76 (by decide +kernel) (by omega) ?_
            refine w_ialdN 77 (by decide +kernel) sh_78 (by omega) (by omega) ?_
            refine w_ile 84 80 (by decide +kernel) (fun h66 => ?_) (fun h66 => ?_)
            · skip
              refine w_pushN 0 85 (by decide +kernel) ?_
              refine w_store (ls' := [.ref 76, .int (nI lv), .int a, .int (nI dr), .int (nI k5), .int (nI (22 * lv)), .int v1, .int (nI 0), .null]) (.istore 7) 87 (by decide +kernel) rfl rfl ?_
              refine w_load (.iload 7) 89 (by decide +kernel) rfl rfl ?_
              refine w_ine 109 92 (by decide +kernel) (fun hz => absurd hz (by decide)) (fun _ => ?_)
              refine w_load (.aload_n 0) 93 (by decide +kernel) rfl rfl ?_
              refine w_getR (k := 2) (r := 78) 96 (by decide +kernel) sh_76 rfl ?_
              refine w_load (.iload 5) 98 (by decide +kernel) rfl rfl ?_
              refine w_pushN 5 99 (by decide +kernel) ?_
              refine w_addN (22 * lv + 5) 100 (by decide +kernel) (by omega) ?_
              refine w_load (.iload_n 3) 101 (by decide +kernel) rfl rfl ?_
              refine w_addN (22 * lv + 5 + dr) 102 (by decide +kernel) (by omega) ?_
              refine w_pure .dup2 103 (by decide +kernel) rfl rfl ?_
              refine w_ialdN 104 (by decide +kernel) sh_78 (by omega) (by omega) ?_
              refine w_pushN 1 105 (by decide +kernel) ?_
              refine w_pure .isub 106 (by decide +kernel) rfl rfl ?_
              refine w_iastW 107 (by decide +kernel) sh_78 (by omega) (by omega) hS (rg_78 (fun h1 h2 => by first | omega | exact Or.inl rfl | exact Or.inr ⟨_, by omega, rfl⟩ | exact inv_78 hS.1 _ (by omega) (by omega) | exact inv_82 hS.1 _ (by omega) (by omega) | exact inv_89 hS.1 _ (by omega) (by omega))) (by first | exact rfl | omega | (dsimp only; omega) | (simp only [Hs, Tl, Sc, isHs, isScr, isTs] at *; omega)) (fun N hS hq68 oq68 => ?_)
              refine w_pushN 0 108 (by decide +kernel) ?_
              exact w_retZ (by decide +kernel) (Or.inl rfl) (hq _ N hS (Or.inl rfl))
            · skip
              refine w_pushN 1 81 (by decide +kernel) ?_
              refine w_goto 85 (by decide +kernel) ?_
              refine w_store (ls' := [.ref 76, .int (nI lv), .int a, .int (nI dr), .int (nI k5), .int (nI (22 * lv)), .int v1, .int (nI 1), .null]) (.istore 7) 87 (by decide +kernel) rfl rfl ?_
              refine w_load (.iload 7) 89 (by decide +kernel) rfl rfl ?_
              refine w_ine 109 92 (by decide +kernel) (fun _ => ?_) (fun hz => absurd hz (by decide))
              refine w_load (.aload_n 0) 110 (by decide +kernel) rfl rfl ?_
              refine w_getR (k := 2) (r := 78) 113 (by decide +kernel) sh_76 rfl ?_
              refine w_load (.iload 5) 115 (by decide +kernel) rfl rfl ?_
              refine w_pushN 17 117 (by decide +kernel) ?_
              refine w_addN (22 * lv + 17) 118 (by decide +kernel) (by omega) ?_
              refine w_load (.iload_n 3) 119 (by decide +kernel) rfl rfl ?_
              refine w_addN (22 * lv + 17 + dr) 120 (by decide +kernel) (by omega) ?_
              refine w_pure .dup2 121 (by decide +kernel) rfl rfl ?_
              refine w_ialdN 122 (by decide +kernel) sh_78 (by omega) (by omega) ?_
              refine w_pushN 1 123 (by decide +kernel) ?_
              refine w_pure .isub 124 (by decide +kernel) rfl rfl ?_
              refine w_iastW 125 (by decide +kernel) sh_78 (by omega) (by omega) hS (rg_78 (fun h1 h2 => by first | omega | exact Or.inl rfl | exact Or.inr ⟨_, by omega, rfl⟩ | exact inv_78 hS.1 _ (by omega) (by omega) | exact inv_82 hS.1 _ (by omega) (by omega) | exact inv_89 hS.1 _ (by omega) (by omega))) (by first | exact rfl | omega | (dsimp only; omega) | (simp only [Hs, Tl, Sc, isHs, isScr, isTs] at *; omega)) (fun N hS hq70 oq70 => ?_)
              refine w_load (.iload 6) 127 (by decide +kernel) rfl rfl ?_
              refine w_ine 204 130 (by decide +kernel) (fun h71 => ?_) (fun h71 => ?_)
              · skip
                refine w_load (.iload 6) 206 (by decide +kernel) rfl rfl ?_
                refine w_pushN 1 207 (by decide +kernel) ?_
                refine w_cne 241 210 (by decide +kernel) (fun h72 => ?_) (fun h72 => ?_)
                · skip
                  refine w_load (.iload 6) 243 (by decide +kernel) rfl rfl ?_
                  refine w_pushN 2 244 (by decide +kernel) ?_
                  refine w_cne 281 247 (by decide +kernel) (fun h73 => ?_) (fun h73 => ?_)
                  · skip
                    refine w_load (.aload_n 0) 282 (by decide +kernel) rfl rfl ?_
                    refine w_getR (k := 2) (r := 78) 285 (by decide +kernel) sh_76 rfl ?_
                    refine w_load (.iload 5) 287 (by decide +kernel) rfl rfl ?_
                    refine w_load (.iload_n 3) 288 (by decide +kernel) rfl rfl ?_
                    refine w_addN (22 * lv + dr) 289 (by decide +kernel) (by omega) ?_
                    refine w_load (.iload_n 2) 290 (by decide +kernel) rfl rfl ?_
                    refine w_pushN 4 291 (by decide +kernel) ?_
                    refine w_rem 292 (by decide +kernel) (by decide) ?_
                    refine w_iastW 293 (by decide +kernel) sh_78 (by omega) (by omega) hS (rg_78 (fun h1 h2 => by first | omega | exact Or.inl rfl | exact Or.inr ⟨_, by omega, rfl⟩ | exact inv_78 hS.1 _ (by omega) (by omega) | exact inv_82 hS.1 _ (by omega) (by omega) | exact inv_89 hS.1 _ (by omega) (by omega))) (by first | exact rfl | omega | (dsimp only; omega) | (simp only [Hs, Tl, Sc, isHs, isScr, isTs] at *; omega)) (fun N hS hq74 oq74 => ?_)
                    refine w_pushN 1 294 (by decide +kernel) ?_
                    exact w_retZ (by decide +kernel) (Or.inr rfl) (hq _ N hS (Or.inr rfl))
                  · skip
                    refine w_load (.aload_n 0) 248 (by decide +kernel) rfl rfl ?_
                    refine w_getR (k := 2) (r := 78) 251 (by decide +kernel) sh_76 rfl ?_
                    refine w_load (.iload 5) 253 (by decide +kernel) rfl rfl ?_
                    refine w_pushN 5 254 (by decide +kernel) ?_
                    refine w_addN (22 * lv + 5) 255 (by decide +kernel) (by omega) ?_
                    refine w_load (.iload_n 3) 256 (by decide +kernel) rfl rfl ?_
                    refine w_addN (22 * lv + 5 + dr) 257 (by decide +kernel) (by omega) ?_
                    refine w_pure .dup2 258 (by decide +kernel) rfl rfl ?_
                    refine w_ialdN 259 (by decide +kernel) sh_78 (by omega) (by omega) ?_
                    refine w_pushN 1 260 (by decide +kernel) ?_
                    refine w_pure .isub 261 (by decide +kernel) rfl rfl ?_
                    refine w_iastW 262 (by decide +kernel) sh_78 (by omega) (by omega) hS (rg_78 (fun h1 h2 => by first | omega | exact Or.inl rfl | exact Or.inr ⟨_, by omega, rfl⟩ | exact inv_78 hS.1 _ (by omega) (by omega) | exact inv_82 hS.1 _ (by omega) (by omega) | exact inv_89 hS.1 _ (by omega) (by omega))) (by first | exact rfl | omega | (dsimp only; omega) | (simp only [Hs, Tl, Sc, isHs, isScr, isTs] at *; omega)) (fun N hS hq75 oq75 => ?_)
                    refine w_load (.aload_n 0) 263 (by decide +kernel) rfl rfl ?_
                    refine w_getR (k := 2) (r := 78) 266 (by decide +kernel) sh_76 rfl ?_
                    refine w_load (.iload 5) 268 (by decide +kernel) rfl rfl ?_
                    refine w_pushN 5 269 (by decide +kernel) ?_
                    refine w_addN (22 * lv + 5) 270 (by decide +kernel) (by omega) ?_
                    refine w_load (.iload 4) 272 (by decide +kernel) rfl rfl ?_
                    refine w_addN (22 * lv + 5 + k5) 273 (by decide +kernel) (by omega) ?_
                    refine w_pure .dup2 274 (by decide +kernel) rfl rfl ?_
                    refine w_ialdN 275 (by decide +kernel) sh_78 (by omega) (by omega) ?_
                    refine w_pushN 1 276 (by decide +kernel) ?_
                    refine w_pure .iadd 277 (by decide +kernel) rfl rfl ?_
                    refine w_iastW 278 (by decide +kernel) sh_78 (by omega) (by omega) hS (rg_78 (fun h1 h2 => by first | omega | exact Or.inl rfl | exact Or.inr ⟨_, by omega, rfl⟩ | exact inv_78 hS.1 _ (by omega) (by omega) | exact inv_82 hS.1 _ (by omega) (by omega) | exact inv_89 hS.1 _ (by omega) (by omega))) (by first | exact rfl | omega | (dsimp only; omega) | (simp only [Hs, Tl, Sc, isHs, isScr, isTs] at *; omega)) (fun N hS hq76 oq76 => ?_)
                    refine w_goto 293 (by decide +kernel) ?_
                    refine w_pushN 1 294 (by decide +kernel) ?_
                    exact w_retZ (by decide +kernel) (Or.inr rfl) (hq _ N hS (Or.inr rfl))
                · skip
                  refine w_load (.aload_n 0) 211 (by decide +kernel) rfl rfl ?_
                  refine w_getR (k := 2) (r := 78) 214 (by decide +kernel) sh_76 rfl ?_
                  refine w_load (.iload 5) 216 (by decide +kernel) rfl rfl ?_
                  refine w_pushN 10 218 (by decide +kernel) ?_
                  refine w_addN (22 * lv + 10) 219 (by decide +kernel) (by omega) ?_
                  refine w_load (.iload_n 3) 220 (by decide +kernel) rfl rfl ?_
                  refine w_addN (22 * lv + 10 + dr) 221 (by decide +kernel) (by omega) ?_
                  refine w_load (.iload 4) 223 (by decide +kernel) rfl rfl ?_
                  refine w_iastW 224 (by decide +kernel) sh_78 (by omega) (by omega) hS (rg_78 (fun h1 h2 => by first | omega | exact Or.inl rfl | exact Or.inr ⟨_, by omega, rfl⟩ | exact inv_78 hS.1 _ (by omega) (by omega) | exact inv_82 hS.1 _ (by omega) (by omega) | exact inv_89 hS.1 _ (by omega) (by omega))) (by first | exact rfl | omega | (dsimp only; omega) | (simp only [Hs, Tl, Sc, isHs, isScr, isTs] at *; omega)) (fun N hS hq77 oq77 => ?_)
                  refine w_load (.aload_n 0) 225 (by decide +kernel) rfl rfl ?_
                  refine w_getR (k := 2) (r := 78) 228 (by decide +kernel) sh_76 rfl ?_
                  refine w_load (.iload 5) 230 (by decide +kernel) rfl rfl ?_
                  refine w_pushN 10 232 (by decide +kernel) ?_
                  refine w_addN (22 * lv + 10) 233 (by decide +kernel) (by omega) ?_
                  refine w_load (.iload 4) 235 (by decide +kernel) rfl rfl ?_
                  refine w_addN (22 * lv + 10 + k5) 236 (by decide +kernel) (by omega) ?_
                  refine w_load (.iload_n 3) 237 (by decide +kernel) rfl rfl ?_
                  refine w_iastW 238 (by decide +kernel) sh_78 (by omega) (by omega) hS (rg_78 (fun h1 h2 => by first | omega | exact Or.inl rfl | exact Or.inr ⟨_, by omega, rfl⟩ | exact inv_78 hS.1 _ (by omega) (by omega) | exact inv_82 hS.1 _ (by omega) (by omega) | exact inv_89 hS.1 _ (by omega) (by omega))) (by first | exact rfl | omega | (dsimp only; omega) | (simp only [Hs, Tl, Sc, isHs, isScr, isTs] at *; omega)) (fun N hS hq78 oq78 => ?_)
                  refine w_goto 293 (by decide +kernel) ?_
                  refine w_pushN 1 294 (by decide +kernel) ?_
                  exact w_retZ (by decide +kernel) (Or.inr rfl) (hq _ N hS (Or.inr rfl))
              · skip
                refine w_load (.aload_n 0) 131 (by decide +kernel) rfl rfl ?_
                refine w_getR (k := 2) (r := 78) 134 (by decide +kernel) sh_76 rfl ?_
                refine w_load (.iload 5) 136 (by decide +kernel) rfl rfl ?_
                refine w_pushN 10 138 (by decide +kernel) ?_
                refine w_addN (22 * lv + 10) 139 (by decide +kernel) (by omega) ?_
                refine w_load (.iload 4) 141 (by decide +kernel) rfl rfl ?_
                refine w_addN (22 * lv + 10 + k5) 142 (by decide +kernel) (by omega) ?_
                refine w_ialdN 143 (by decide +kernel) sh_78 (by omega) (by omega) ?_
                refine w_topi (fun v79 ev79 => ?_)
                refine w_store (ls' := [.ref 76, .int (nI lv), .int a, .int (nI dr), .int (nI k5), .int (nI (22 * lv)), .int v1, .int (nI 1), .int v79]) (.istore 8) 145 (by decide +kernel) rfl rfl ?_
                have hwv79 : wedv v79 := by rw [ev79]; exact inv_78 hS.1 _ (by omega) (by omega)
                refine w_load (.aload_n 0) 146 (by decide +kernel) rfl rfl ?_
                refine w_getR (k := 2) (r := 78) 149 (by decide +kernel) sh_76 rfl ?_
                refine w_load (.iload 5) 151 (by decide +kernel) rfl rfl ?_
                refine w_pushN 15 153 (by decide +kernel) ?_
                refine w_addN (22 * lv + 15) 154 (by decide +kernel) (by omega) ?_
                refine w_pure .dup2 155 (by decide +kernel) rfl rfl ?_
                refine w_ialdN 156 (by decide +kernel) sh_78 (by omega) (by omega) ?_
                refine w_pushN 1 157 (by decide +kernel) ?_
                refine w_load (.iload 4) 159 (by decide +kernel) rfl rfl ?_
                refine w_pure .ishl 160 (by decide +kernel) rfl rfl ?_
                refine w_push (-1) 161 (by decide +kernel) ?_
                refine w_pure .ixor 162 (by decide +kernel) rfl rfl ?_
                refine w_pure .iand 163 (by decide +kernel) rfl rfl ?_
                refine w_iastW 164 (by decide +kernel) sh_78 (by omega) (by omega) hS (rg_78 (fun h1 h2 => by first | omega | exact Or.inl rfl | exact Or.inr ⟨_, by omega, rfl⟩ | exact inv_78 hS.1 _ (by omega) (by omega) | exact inv_82 hS.1 _ (by omega) (by omega) | exact inv_89 hS.1 _ (by omega) (by omega))) (by first | exact rfl | omega | (dsimp only; omega) | (simp only [Hs, Tl, Sc, isHs, isScr, isTs] at *; omega)) (fun N hS hq80 oq80 => ?_)
                refine w_load (.aload_n 0) 165 (by decide +kernel) rfl rfl ?_
                refine w_getR (k := 2) (r := 78) 168 (by decide +kernel) sh_76 rfl ?_
                refine w_load (.iload 5) 170 (by decide +kernel) rfl rfl ?_
                refine w_pushN 10 172 (by decide +kernel) ?_
                refine w_addN (22 * lv + 10) 173 (by decide +kernel) (by omega) ?_
                refine w_load (.iload 4) 175 (by decide +kernel) rfl rfl ?_
                refine w_addN (22 * lv + 10 + k5) 176 (by decide +kernel) (by omega) ?_
                refine w_push (-9) 178 (by decide +kernel) ?_
                refine w_iastW 179 (by decide +kernel) sh_78 (by omega) (by omega) hS (rg_78 (fun h1 h2 => by first | omega | exact Or.inl rfl | exact Or.inr ⟨_, by omega, rfl⟩ | exact inv_78 hS.1 _ (by omega) (by omega) | exact inv_82 hS.1 _ (by omega) (by omega) | exact inv_89 hS.1 _ (by omega) (by omega))) (by first | exact rfl | omega | (dsimp only; omega) | (simp only [Hs, Tl, Sc, isHs, isScr, isTs] at *; omega)) (fun N hS hq81 oq81 => ?_)
                refine w_load (.iload 8) 181 (by decide +kernel) rfl rfl ?_
                refine w_push (-9) 183 (by decide +kernel) ?_
                refine w_ceq 201 186 (by decide +kernel) (fun h82 => ?_) (fun h82 => ?_)
                · skip
                  refine w_goto 293 (by decide +kernel) ?_
                  refine w_pushN 1 294 (by decide +kernel) ?_
                  exact w_retZ (by decide +kernel) (Or.inr rfl) (hq _ N hS (Or.inr rfl))
                · skip
                  obtain ⟨k83, hk83, hxk83⟩ := hwv79.resolve_left h82
                  rw [hxk83]
                  refine w_load (.aload_n 0) 187 (by decide +kernel) rfl rfl ?_
                  refine w_getR (k := 2) (r := 78) 190 (by decide +kernel) sh_76 rfl ?_
                  refine w_load (.iload 5) 192 (by decide +kernel) rfl rfl ?_
                  refine w_pushN 10 194 (by decide +kernel) ?_
                  refine w_addN (22 * lv + 10) 195 (by decide +kernel) (by omega) ?_
                  refine w_load (.iload 8) 197 (by decide +kernel) rfl rfl ?_
                  refine w_addN (22 * lv + 10 + k83) 198 (by decide +kernel) (by omega) ?_
                  refine w_push (-9) 200 (by decide +kernel) ?_
                  refine w_iastW 201 (by decide +kernel) sh_78 (by omega) (by omega) hS (rg_78 (fun h1 h2 => by first | omega | exact Or.inl rfl | exact Or.inr ⟨_, by omega, rfl⟩ | exact inv_78 hS.1 _ (by omega) (by omega) | exact inv_82 hS.1 _ (by omega) (by omega) | exact inv_89 hS.1 _ (by omega) (by omega))) (by first | exact rfl | omega | (dsimp only; omega) | (simp only [Hs, Tl, Sc, isHs, isScr, isTs] at *; omega)) (fun N hS hq84 oq84 => ?_)
                  refine w_goto 293 (by decide +kernel) ?_
                  refine w_pushN 1 294 (by decide +kernel) ?_
                  exact w_retZ (by decide +kernel) (Or.inr rfl) (hq _ N hS (Or.inr rfl))
-- X8_deed
set_option maxRecDepth 10000 in
theorem k_157 {d : Nat} {M : Mt} {L : Lt} {Q : Option Value → Mt → Lt → Prop} {lv : Nat} {a : Int32} (hI : Inv M) (hlv : lv ≤ 7) (hd : 2 ≤ d) (hq : ∀ (r : Int32) (N : Mt), St (fun i k => i = 78 ∨ (i = 76 ∧ k = 7)) M N → (r = 0 ∨ r = 1) → Q (some (.int r)) N L) : Wp d 157 0 [.ref 76, .int (nI lv), .int a, .null, .null, .null, .null] [] M L Q := by
  refine (show ∀ N : Mt, N = M → St (fun i k => i = 78 ∨ (i = 76 ∧ k = 7)) M N → Wp d 157 0 [.ref 76, .int (nI lv), .int a, .null, .null, .null, .null] [] N L Q from ?_) M rfl (St.rf hI)
  intro N hNM hS
  refine w_load (.aload_n 0) 1 (by decide +kernel) rfl rfl ?_
  refine w_load (.iload_n 1) 2 (by decide +kernel) rfl rfl ?_
  refine w_load (.iload_n 2) 3 (by decide +kernel) rfl rfl ?_
  refine w_pushN 4 4 (by decide +kernel) ?_
  refine w_div 5 (by decide +kernel) (by decide) ?_
  refine w_pushN 4 6 (by decide +kernel) ?_
  refine w_rem 7 (by decide +kernel) (by decide) ?_
  refine w_callV2 152 8 6 10 (by decide +kernel) sh_76 (Nat.le_of_ble_eq_true rfl) rfl rfl (by decide) (by omega) ?_
  refine k_152 hS.1 (by omega) (by omega) (fun r1 hr1 => ?_)
  dsimp only [Option.toList, List.cons_append, List.nil_append]
  refine w_store (ls' := [.ref 76, .int (nI lv), .int a, .int r1, .null, .null, .null]) (.istore_n 3) 11 (by decide +kernel) rfl rfl ?_
  refine w_load (.aload_n 0) 12 (by decide +kernel) rfl rfl ?_
  refine w_load (.iload_n 1) 13 (by decide +kernel) rfl rfl ?_
  refine w_load (.iload_n 3) 14 (by decide +kernel) rfl rfl ?_
  refine w_callV2 155 8 5 17 (by decide +kernel) sh_76 (Nat.le_of_ble_eq_true rfl) rfl rfl (by decide) (by omega) ?_
  refine k_155 hS.1 (by omega) (by omega) (fun r2 hr2 => ?_)
  dsimp only [Option.toList, List.cons_append, List.nil_append]
  refine w_store (ls' := [.ref 76, .int (nI lv), .int a, .int r1, .int r2, .null, .null]) (.istore 4) 19 (by decide +kernel) rfl rfl ?_
  refine w_load (.iload 4) 21 (by decide +kernel) rfl rfl ?_
  refine w_ine 60 24 (by decide +kernel) (fun h3 => ?_) (fun h3 => ?_)
  · skip
    refine w_load (.iload 4) 62 (by decide +kernel) rfl rfl ?_
    refine w_callS1 154 2 65 (by decide +kernel) (Nat.le_of_ble_eq_true rfl) rfl (by decide) (by omega) ?_
    refine k_154 hS.1  (by omega) (fun r4 hr4 => ?_)
    dsimp only [Option.toList, List.cons_append, List.nil_append]
    rcases hr4 with ⟨kr4, hkr4, rfl⟩ | ⟨rfl, hnor4⟩
    · skip
      refine w_store (ls' := [.ref 76, .int (nI lv), .int a, .int r1, .int r2, .int (nI kr4), .null]) (.istore 5) 67 (by decide +kernel) rfl rfl ?_
      refine w_load (.aload_n 0) 68 (by decide +kernel) rfl rfl ?_
      refine w_load (.iload_n 1) 69 (by decide +kernel) rfl rfl ?_
      refine w_load (.iload_n 2) 70 (by decide +kernel) rfl rfl ?_
      refine w_load (.iload 5) 72 (by decide +kernel) rfl rfl ?_
      refine w_load (.aload_n 0) 73 (by decide +kernel) rfl rfl ?_
      refine w_load (.iload_n 1) 74 (by decide +kernel) rfl rfl ?_
      refine w_load (.iload_n 2) 75 (by decide +kernel) rfl rfl ?_
      refine w_pushN 4 76 (by decide +kernel) ?_
      refine w_rem 77 (by decide +kernel) (by decide) ?_
      refine w_callV2 152 8 6 80 (by decide +kernel) sh_76 (Nat.le_of_ble_eq_true rfl) rfl rfl (by decide) (by omega) ?_
      refine k_152 hS.1 (by omega) (by omega) (fun r5 hr5 => ?_)
      dsimp only [Option.toList, List.cons_append, List.nil_append]
      refine w_pushN 1 81 (by decide +kernel) ?_
      refine w_load (.iload 5) 83 (by decide +kernel) rfl rfl ?_
      refine w_pure .ishl 84 (by decide +kernel) rfl rfl ?_
      refine w_push (-1) 85 (by decide +kernel) ?_
      refine w_pure .ixor 86 (by decide +kernel) rfl rfl ?_
      refine w_pure .iand 87 (by decide +kernel) rfl rfl ?_
      refine w_callS1 154 2 90 (by decide +kernel) (Nat.le_of_ble_eq_true rfl) rfl (by decide) (by omega) ?_
      refine k_154 hS.1  (by omega) (fun r6 hr6 => ?_)
      dsimp only [Option.toList, List.cons_append, List.nil_append]
      rcases hr6 with ⟨kr6, hkr6, rfl⟩ | ⟨rfl, hnor6⟩
      · skip
        refine w_callV4 156 8 9 93 (by decide +kernel) sh_76 (Nat.le_of_ble_eq_true rfl) rfl rfl rfl rfl (by decide) (by omega) ?_
        refine k_156 hS.1 (by omega) (by omega) (Or.inr ⟨_, by omega, rfl⟩) (by omega) (fun r7 N hT hr7 => ?_)
        have hS := hS.tr hT (by intro i k; first | exact rfl | omega | (dsimp only; omega) | (simp only [Hs, Tl, Sc, isHs, isScr, isTs] at *; omega))
        dsimp only [Option.toList, List.cons_append, List.nil_append]
        refine w_store (ls' := [.ref 76, .int (nI lv), .int a, .int r1, .int r2, .int (nI kr4), .int r7]) (.istore 6) 95 (by decide +kernel) rfl rfl ?_
        refine w_load (.aload_n 0) 96 (by decide +kernel) rfl rfl ?_
        refine w_pure .dup 97 (by decide +kernel) rfl rfl ?_
        refine w_getI (k := 7) 100 (by decide +kernel) sh_76 rfl ?_
        refine w_load (.iload 6) 102 (by decide +kernel) rfl rfl ?_
        refine w_ieq 109 105 (by decide +kernel) (fun h8 => ?_) (fun h8 => ?_)
        · skip
          refine w_pushN 1 110 (by decide +kernel) ?_
          refine w_pure .iadd 111 (by decide +kernel) rfl rfl ?_
          refine w_putW (k := 7) 114 (by decide +kernel) sh_76 rfl hS (rg_76 (by decide)) (by first | exact rfl | omega | (dsimp only; omega) | (simp only [Hs, Tl, Sc, isHs, isScr, isTs] at *; omega)) (fun N hS hq9 oq9 => ?_)
          refine w_load (.iload 6) 116 (by decide +kernel) rfl rfl ?_
          exact w_retZ (by decide +kernel) (by assumption) (hq _ N hS (by assumption))
        · skip
          refine w_pushN 0 106 (by decide +kernel) ?_
          refine w_goto 110 (by decide +kernel) ?_
          refine w_pure .iadd 111 (by decide +kernel) rfl rfl ?_
          refine w_putW (k := 7) 114 (by decide +kernel) sh_76 rfl hS (rg_76 (by decide)) (by first | exact rfl | omega | (dsimp only; omega) | (simp only [Hs, Tl, Sc, isHs, isScr, isTs] at *; omega)) (fun N hS hq10 oq10 => ?_)
          refine w_load (.iload 6) 116 (by decide +kernel) rfl rfl ?_
          exact w_retZ (by decide +kernel) (by assumption) (hq _ N hS (by assumption))
      · skip
        refine w_callV4 156 8 9 93 (by decide +kernel) sh_76 (Nat.le_of_ble_eq_true rfl) rfl rfl rfl rfl (by decide) (by omega) ?_
        refine k_156 hS.1 (by omega) (by omega) (Or.inl rfl) (by omega) (fun r11 N hT hr11 => ?_)
        have hS := hS.tr hT (by intro i k; first | exact rfl | omega | (dsimp only; omega) | (simp only [Hs, Tl, Sc, isHs, isScr, isTs] at *; omega))
        dsimp only [Option.toList, List.cons_append, List.nil_append]
        refine w_store (ls' := [.ref 76, .int (nI lv), .int a, .int r1, .int r2, .int (nI kr4), .int r11]) (.istore 6) 95 (by decide +kernel) rfl rfl ?_
        refine w_load (.aload_n 0) 96 (by decide +kernel) rfl rfl ?_
        refine w_pure .dup 97 (by decide +kernel) rfl rfl ?_
        refine w_getI (k := 7) 100 (by decide +kernel) sh_76 rfl ?_
        refine w_load (.iload 6) 102 (by decide +kernel) rfl rfl ?_
        refine w_ieq 109 105 (by decide +kernel) (fun h12 => ?_) (fun h12 => ?_)
        · skip
          refine w_pushN 1 110 (by decide +kernel) ?_
          refine w_pure .iadd 111 (by decide +kernel) rfl rfl ?_
          refine w_putW (k := 7) 114 (by decide +kernel) sh_76 rfl hS (rg_76 (by decide)) (by first | exact rfl | omega | (dsimp only; omega) | (simp only [Hs, Tl, Sc, isHs, isScr, isTs] at *; omega)) (fun N hS hq13 oq13 => ?_)
          refine w_load (.iload 6) 116 (by decide +kernel) rfl rfl ?_
          exact w_retZ (by decide +kernel) (by assumption) (hq _ N hS (by assumption))
        · skip
          refine w_pushN 0 106 (by decide +kernel) ?_
          refine w_goto 110 (by decide +kernel) ?_
          refine w_pure .iadd 111 (by decide +kernel) rfl rfl ?_
          refine w_putW (k := 7) 114 (by decide +kernel) sh_76 rfl hS (rg_76 (by decide)) (by first | exact rfl | omega | (dsimp only; omega) | (simp only [Hs, Tl, Sc, isHs, isScr, isTs] at *; omega)) (fun N hS hq14 oq14 => ?_)
          refine w_load (.iload 6) 116 (by decide +kernel) rfl rfl ?_
          exact w_retZ (by decide +kernel) (by assumption) (hq _ N hS (by assumption))
    · skip
      exact (no_least (by assumption) (by assumption) hnor4).elim
  · skip
    refine w_load (.iload_n 3) 25 (by decide +kernel) rfl rfl ?_
    refine w_ieq 58 28 (by decide +kernel) (fun h15 => ?_) (fun h15 => ?_)
    · skip
      refine w_pushN 0 59 (by decide +kernel) ?_
      exact w_retZ (by decide +kernel) (Or.inl rfl) (hq _ N hS (Or.inl rfl))
    · skip
      refine w_load (.aload_n 0) 29 (by decide +kernel) rfl rfl ?_
      refine w_getR (k := 2) (r := 78) 32 (by decide +kernel) sh_76 rfl ?_
      refine w_pushN 22 34 (by decide +kernel) ?_
      refine w_load (.iload_n 1) 35 (by decide +kernel) rfl rfl ?_
      refine w_mulN (22 * lv) 36 (by decide +kernel) rfl ?_
      refine w_pushN 5 37 (by decide +kernel) ?_
      refine w_addN (22 * lv + 5) 38 (by decide +kernel) (by omega) ?_
      refine w_load (.iload_n 3) 39 (by decide +kernel) rfl rfl ?_
      refine w_callS1 154 2 42 (by decide +kernel) (Nat.le_of_ble_eq_true rfl) rfl (by decide) (by omega) ?_
      refine k_154 hS.1  (by omega) (fun r16 hr16 => ?_)
      dsimp only [Option.toList, List.cons_append, List.nil_append]
      rcases hr16 with ⟨kr16, hkr16, rfl⟩ | ⟨rfl, hnor16⟩
      · skip
        refine w_addN (22 * lv + 5 + kr16) 43 (by decide +kernel) (by omega) ?_
        refine w_pure .dup2 44 (by decide +kernel) rfl rfl ?_
        refine w_ialdN 45 (by decide +kernel) sh_78 (by omega) (by omega) ?_
        refine w_pushN 1 46 (by decide +kernel) ?_
        refine w_pure .isub 47 (by decide +kernel) rfl rfl ?_
        refine w_iastW 48 (by decide +kernel) sh_78 (by omega) (by omega) hS (rg_78 (fun h1 h2 => by first | omega | exact Or.inl rfl | exact Or.inr ⟨_, by omega, rfl⟩ | exact inv_78 hS.1 _ (by omega) (by omega) | exact inv_82 hS.1 _ (by omega) (by omega) | exact inv_89 hS.1 _ (by omega) (by omega))) (by first | exact rfl | omega | (dsimp only; omega) | (simp only [Hs, Tl, Sc, isHs, isScr, isTs] at *; omega)) (fun N hS hq17 oq17 => ?_)
        refine w_load (.aload_n 0) 49 (by decide +kernel) rfl rfl ?_
        refine w_pure .dup 50 (by decide +kernel) rfl rfl ?_
        refine w_getI (k := 7) 53 (by decide +kernel) sh_76 rfl ?_
        refine w_pushN 1 54 (by decide +kernel) ?_
        refine w_pure .iadd 55 (by decide +kernel) rfl rfl ?_
        refine w_putW (k := 7) 58 (by decide +kernel) sh_76 rfl hS (rg_76 (by decide)) (by first | exact rfl | omega | (dsimp only; omega) | (simp only [Hs, Tl, Sc, isHs, isScr, isTs] at *; omega)) (fun N hS hq18 oq18 => ?_)
        refine w_pushN 0 59 (by decide +kernel) ?_
        exact w_retZ (by decide +kernel) (Or.inl rfl) (hq _ N hS (Or.inl rfl))
      · skip
        exact (no_least (by assumption) (by assumption) hnor16).elim
-- X8_dusk
set_option maxRecDepth 10000 in
theorem k_158 {d : Nat} {M : Mt} {L : Lt} {Q : Option Value → Mt → Lt → Prop} {lv : Nat}  (hI : Inv M) (hlv : lv ≤ 7) (hd : 0 ≤ d) (hq : ∀ (N : Mt), St (fun i k => i = 78 ∨ (i = 76 ∧ k = 7)) M N → True → Q none N L) : Wp d 158 0 [.ref 76, .int (nI lv), .null] [] M L Q := by
  refine (show ∀ N : Mt, N = M → St (fun i k => i = 78 ∨ (i = 76 ∧ k = 7)) M N → Wp d 158 0 [.ref 76, .int (nI lv), .null] [] N L Q from ?_) M rfl (St.rf hI)
  intro N hNM hS
  refine w_pushN 0 1 (by decide +kernel) ?_
  refine w_store (ls' := [.ref 76, .int (nI lv), .int (nI 0)]) (.istore_n 2) 2 (by decide +kernel) rfl rfl ?_
  have LP_2 : ∀ (kk : Nat) (N : Mt) (g2 : Nat), St (fun i k => i = 78 ∨ (i = 76 ∧ k = 7)) M N → g2 ≤ 5 → 5 - g2 < kk → Wp d 158 2 [.ref 76, .int (nI lv), .int (nI g2)] [] N L Q := by
    intro kk
    induction kk with
    | zero => intro N g2 hS hi0_2 hm_2; exact absurd hm_2 (Nat.not_lt_zero _)
    | succ kk ih_2 =>
      intro N g2 hS hi0_2 hm_2
      refine w_load (.iload_n 2) 3 (by decide +kernel) rfl rfl ?_
      refine w_pushN 5 4 (by decide +kernel) ?_
      refine w_cgeN 33 7 (by decide +kernel) (by omega) (by omega) (fun h1 => ?_) (fun h1 => ?_)
      · skip
        refine w_load (.aload_n 0) 34 (by decide +kernel) rfl rfl ?_
        refine w_pushN 0 35 (by decide +kernel) ?_
        refine w_putW (k := 7) 38 (by decide +kernel) sh_76 rfl hS (rg_76 (by decide)) (by first | exact rfl | omega | (dsimp only; omega) | (simp only [Hs, Tl, Sc, isHs, isScr, isTs] at *; omega)) (fun N hS hq2 oq2 => ?_)
        exact w_retV (by decide +kernel) (hq N hS trivial)
      · skip
        refine w_load (.aload_n 0) 8 (by decide +kernel) rfl rfl ?_
        refine w_getR (k := 2) (r := 78) 11 (by decide +kernel) sh_76 rfl ?_
        refine w_pushN 22 13 (by decide +kernel) ?_
        refine w_load (.iload_n 1) 14 (by decide +kernel) rfl rfl ?_
        refine w_mulN (22 * lv) 15 (by decide +kernel) rfl ?_
        refine w_pushN 17 17 (by decide +kernel) ?_
        refine w_addN (22 * lv + 17) 18 (by decide +kernel) (by omega) ?_
        refine w_load (.iload_n 2) 19 (by decide +kernel) rfl rfl ?_
        refine w_addN (22 * lv + 17 + g2) 20 (by decide +kernel) (by omega) ?_
        refine w_load (.aload_n 0) 21 (by decide +kernel) rfl rfl ?_
        refine w_getR (k := 1) (r := 77) 24 (by decide +kernel) sh_76 rfl ?_
        refine w_load (.iload_n 2) 25 (by decide +kernel) rfl rfl ?_
        refine w_ialdN 26 (by decide +kernel) sh_77 (by omega) (by omega) ?_
        refine w_iastW 27 (by decide +kernel) sh_78 (by omega) (by omega) hS (rg_78 (fun h1 h2 => by first | omega | exact Or.inl rfl | exact Or.inr ⟨_, by omega, rfl⟩ | exact inv_78 hS.1 _ (by omega) (by omega) | exact inv_82 hS.1 _ (by omega) (by omega) | exact inv_89 hS.1 _ (by omega) (by omega))) (by first | exact rfl | omega | (dsimp only; omega) | (simp only [Hs, Tl, Sc, isHs, isScr, isTs] at *; omega)) (fun N hS hq3 oq3 => ?_)
        refine w_iincN (z := 2) (g2 + 1) 30 (by decide +kernel) rfl (Nat.le_of_ble_eq_true rfl) rfl rfl ?_
        show Wp _ _ _ [.ref 76, .int (nI lv), .int (nI (g2 + 1))] _ _ _ _
        refine w_goto 2 (by decide +kernel) ?_
        exact ih_2 N (g2 + 1) hS (by omega) (by omega)
  exact LP_2 _ N 0 hS (by omega) (Nat.lt_succ_self _)
-- X8_tellOn
set_option maxRecDepth 10000 in
theorem k_159 {d : Nat} {M : Mt} {L : Lt} {Q : Option Value → Mt → Lt → Prop} {lv t : Nat} {a : Int32} (hI : Inv M) (hlv : lv ≤ 7) (ht : t < 3) (hd : 3 ≤ d) (hq : ∀ (r : Int32) (N : Mt), St (fun i k => i = 78 ∨ (i = 76 ∧ k = 7)) M N → True → Q (some (.int r)) N L) : Wp d 159 0 [.ref 76, .int (nI lv), .int (nI t), .int a, .null, .null, .null] [] M L Q := by
  refine (show ∀ N : Mt, N = M → St (fun i k => i = 78 ∨ (i = 76 ∧ k = 7)) M N → Wp d 159 0 [.ref 76, .int (nI lv), .int (nI t), .int a, .null, .null, .null] [] N L Q from ?_) M rfl (St.rf hI)
  intro N hNM hS
  refine w_load (.aload_n 0) 1 (by decide +kernel) rfl rfl ?_
  refine w_load (.iload_n 1) 2 (by decide +kernel) rfl rfl ?_
  refine w_callV1 158 8 3 5 (by decide +kernel) sh_76 (Nat.le_of_ble_eq_true rfl) rfl (by decide) (by omega) ?_
  refine k_158 hS.1 (by omega) (by omega) (fun N hT hr1 => ?_)
  have hS := hS.tr hT (by intro i k; first | exact rfl | omega | (dsimp only; omega) | (simp only [Hs, Tl, Sc, isHs, isScr, isTs] at *; omega))
  dsimp only [Option.toList, List.nil_append]
  refine w_pushN 0 6 (by decide +kernel) ?_
  refine w_store (ls' := [.ref 76, .int (nI lv), .int (nI t), .int a, .int (nI 0), .null, .null]) (.istore 4) 8 (by decide +kernel) rfl rfl ?_
  refine w_load (.aload_n 0) 9 (by decide +kernel) rfl rfl ?_
  refine w_load (.iload_n 2) 10 (by decide +kernel) rfl rfl ?_
  refine w_callV1 148 8 3 13 (by decide +kernel) sh_76 (Nat.le_of_ble_eq_true rfl) rfl (by decide) (by omega) ?_
  refine k_148 hS.1 (by omega) (by omega) (fun r2 hr2 => ?_)
  dsimp only [Option.toList, List.cons_append, List.nil_append]
  rcases hr2 with ⟨n3, hn3, rfl⟩
  · skip
    refine w_store (ls' := [.ref 76, .int (nI lv), .int (nI t), .int a, .int (nI 0), .int (nI n3), .null]) (.istore 5) 15 (by decide +kernel) rfl rfl ?_
    refine w_pushN 0 16 (by decide +kernel) ?_
    refine w_store (ls' := [.ref 76, .int (nI lv), .int (nI t), .int a, .int (nI 0), .int (nI n3), .int (nI 0)]) (.istore 6) 18 (by decide +kernel) rfl rfl ?_
    have LP_18 : ∀ (kk : Nat) (N : Mt) (x4_18 : Int32) (g6 : Nat), St (fun i k => i = 78 ∨ (i = 76 ∧ k = 7)) M N → g6 ≤ 8 → 8 - g6 < kk → Wp d 159 18 [.ref 76, .int (nI lv), .int (nI t), .int a, .int x4_18, .int (nI n3), .int (nI g6)] [] N L Q := by
      intro kk
      induction kk with
      | zero => intro N x4_18 g6 hS hi0_18 hm_18; exact absurd hm_18 (Nat.not_lt_zero _)
      | succ kk ih_18 =>
        intro N x4_18 g6 hS hi0_18 hm_18
        refine w_load (.iload 6) 20 (by decide +kernel) rfl rfl ?_
        refine w_load (.iload 5) 22 (by decide +kernel) rfl rfl ?_
        refine w_cgeN 64 25 (by decide +kernel) (by omega) (by omega) (fun h4 => ?_) (fun h4 => ?_)
        · skip
          refine w_load (.aload_n 0) 65 (by decide +kernel) rfl rfl ?_
          refine w_getR (k := 2) (r := 78) 68 (by decide +kernel) sh_76 rfl ?_
          refine w_pushN 22 70 (by decide +kernel) ?_
          refine w_load (.iload_n 1) 71 (by decide +kernel) rfl rfl ?_
          refine w_mulN (22 * lv) 72 (by decide +kernel) rfl ?_
          refine w_pushN 16 74 (by decide +kernel) ?_
          refine w_addN (22 * lv + 16) 75 (by decide +kernel) (by omega) ?_
          refine w_pure .dup2 76 (by decide +kernel) rfl rfl ?_
          refine w_ialdN 77 (by decide +kernel) sh_78 (by omega) (by omega) ?_
          refine w_pushN 1 78 (by decide +kernel) ?_
          refine w_pure .iadd 79 (by decide +kernel) rfl rfl ?_
          refine w_iastW 80 (by decide +kernel) sh_78 (by omega) (by omega) hS (rg_78 (fun h1 h2 => by first | omega | exact Or.inl rfl | exact Or.inr ⟨_, by omega, rfl⟩ | exact inv_78 hS.1 _ (by omega) (by omega) | exact inv_82 hS.1 _ (by omega) (by omega) | exact inv_89 hS.1 _ (by omega) (by omega))) (by first | exact rfl | omega | (dsimp only; omega) | (simp only [Hs, Tl, Sc, isHs, isScr, isTs] at *; omega)) (fun N hS hq5 oq5 => ?_)
          refine w_load (.iload 4) 82 (by decide +kernel) rfl rfl ?_
          exact w_ret (by decide +kernel) (hq _ N hS trivial)
        · skip
          refine w_load (.iload_n 3) 26 (by decide +kernel) rfl rfl ?_
          refine w_load (.iload 6) 28 (by decide +kernel) rfl rfl ?_
          refine w_callS2 135 2 31 (by decide +kernel) (Nat.le_of_ble_eq_true rfl) rfl rfl (by decide) (by omega) ?_
          refine k_135 hS.1  (by omega) (fun r6 hr6 => ?_)
          dsimp only [Option.toList, List.cons_append, List.nil_append]
          rcases hr6 with ⟨rfl, hbr6⟩ | ⟨rfl, hbr6⟩
          · skip
            refine w_ine 58 34 (by decide +kernel) (fun _ => ?_) (fun hz => absurd hz (by decide))
            refine w_iincN (z := 6) (g6 + 1) 61 (by decide +kernel) rfl (Nat.le_of_ble_eq_true rfl) rfl rfl ?_
            show Wp _ _ _ [.ref 76, .int (nI lv), .int (nI t), .int a, .int x4_18, .int (nI n3), .int (nI (g6 + 1))] _ _ _ _
            refine w_goto 18 (by decide +kernel) ?_
            exact ih_18 N _ (g6 + 1) hS (by omega) (by omega)
          · skip
            refine w_ine 58 34 (by decide +kernel) (fun hz => absurd hz (by decide)) (fun _ => ?_)
            refine w_load (.aload_n 0) 35 (by decide +kernel) rfl rfl ?_
            refine w_load (.iload_n 1) 36 (by decide +kernel) rfl rfl ?_
            refine w_load (.aload_n 0) 37 (by decide +kernel) rfl rfl ?_
            refine w_load (.iload_n 2) 38 (by decide +kernel) rfl rfl ?_
            refine w_load (.iload 6) 40 (by decide +kernel) rfl rfl ?_
            refine w_callV2 149 8 4 43 (by decide +kernel) sh_76 (Nat.le_of_ble_eq_true rfl) rfl rfl (by decide) (by omega) ?_
            refine k_149 hS.1 (by omega) (by omega) (by omega) (fun r9 hr9 => ?_)
            dsimp only [Option.toList, List.cons_append, List.nil_append]
            refine w_callV2 157 8 7 46 (by decide +kernel) sh_76 (Nat.le_of_ble_eq_true rfl) rfl rfl (by decide) (by omega) ?_
            refine k_157 hS.1 (by omega) (by omega) (fun r10 N hT hr10 => ?_)
            have hS := hS.tr hT (by intro i k; first | exact rfl | omega | (dsimp only; omega) | (simp only [Hs, Tl, Sc, isHs, isScr, isTs] at *; omega))
            dsimp only [Option.toList, List.cons_append, List.nil_append]
            refine w_ieq 58 49 (by decide +kernel) (fun h11 => ?_) (fun h11 => ?_)
            · skip
              refine w_iincN (z := 6) (g6 + 1) 61 (by decide +kernel) rfl (Nat.le_of_ble_eq_true rfl) rfl rfl ?_
              show Wp _ _ _ [.ref 76, .int (nI lv), .int (nI t), .int a, .int x4_18, .int (nI n3), .int (nI (g6 + 1))] _ _ _ _
              refine w_goto 18 (by decide +kernel) ?_
              exact ih_18 N _ (g6 + 1) hS (by omega) (by omega)
            · skip
              refine w_load (.iload 4) 51 (by decide +kernel) rfl rfl ?_
              refine w_pushN 1 52 (by decide +kernel) ?_
              refine w_load (.iload 6) 54 (by decide +kernel) rfl rfl ?_
              refine w_pure .ishl 55 (by decide +kernel) rfl rfl ?_
              refine w_pure .ior 56 (by decide +kernel) rfl rfl ?_
              refine w_topi (fun v12 ev12 => ?_)
              refine w_store (ls' := [.ref 76, .int (nI lv), .int (nI t), .int a, .int v12, .int (nI n3), .int (nI g6)]) (.istore 4) 58 (by decide +kernel) rfl rfl ?_
              refine w_iincN (z := 6) (g6 + 1) 61 (by decide +kernel) rfl (Nat.le_of_ble_eq_true rfl) rfl rfl ?_
              show Wp _ _ _ [.ref 76, .int (nI lv), .int (nI t), .int a, .int v12, .int (nI n3), .int (nI (g6 + 1))] _ _ _ _
              refine w_goto 18 (by decide +kernel) ?_
              exact ih_18 N _ (g6 + 1) hS (by omega) (by omega)
    exact LP_18 _ N _ 0 hS (by omega) (Nat.lt_succ_self _)
-- X8_lay
set_option maxRecDepth 10000 in
theorem k_160 {d : Nat} {M : Mt} {L : Lt} {Q : Option Value → Mt → Lt → Prop} {f t : Nat}  (hI : Inv M) (hf : f ≤ 7) (ht : t ≤ 7) (hd : 0 ≤ d) (hq : ∀ (N : Mt), St (fun i _ => i = 78) M N → True → Q none N L) : Wp d 160 0 [.ref 76, .int (nI f), .int (nI t), .null] [] M L Q := by
  refine (show ∀ N : Mt, N = M → St (fun i _ => i = 78) M N → Wp d 160 0 [.ref 76, .int (nI f), .int (nI t), .null] [] N L Q from ?_) M rfl (St.rf hI)
  intro N hNM hS
  refine w_pushN 0 1 (by decide +kernel) ?_
  refine w_store (ls' := [.ref 76, .int (nI f), .int (nI t), .int (nI 0)]) (.istore_n 3) 2 (by decide +kernel) rfl rfl ?_
  have LP_2 : ∀ (kk : Nat) (N : Mt) (g3 : Nat), St (fun i _ => i = 78) M N → g3 ≤ 22 → 22 - g3 < kk → Wp d 160 2 [.ref 76, .int (nI f), .int (nI t), .int (nI g3)] [] N L Q := by
    intro kk
    induction kk with
    | zero => intro N g3 hS hi0_2 hm_2; exact absurd hm_2 (Nat.not_lt_zero _)
    | succ kk ih_2 =>
      intro N g3 hS hi0_2 hm_2
      refine w_load (.iload_n 3) 3 (by decide +kernel) rfl rfl ?_
      refine w_pushN 22 5 (by decide +kernel) ?_
      refine w_cgeN 36 8 (by decide +kernel) (by omega) (by omega) (fun h1 => ?_) (fun h1 => ?_)
      · skip
        exact w_retV (by decide +kernel) (hq N hS trivial)
      · skip
        refine w_load (.aload_n 0) 9 (by decide +kernel) rfl rfl ?_
        refine w_getR (k := 2) (r := 78) 12 (by decide +kernel) sh_76 rfl ?_
        refine w_pushN 22 14 (by decide +kernel) ?_
        refine w_load (.iload_n 2) 15 (by decide +kernel) rfl rfl ?_
        refine w_mulN (22 * t) 16 (by decide +kernel) rfl ?_
        refine w_load (.iload_n 3) 17 (by decide +kernel) rfl rfl ?_
        refine w_addN (22 * t + g3) 18 (by decide +kernel) (by omega) ?_
        refine w_load (.aload_n 0) 19 (by decide +kernel) rfl rfl ?_
        refine w_getR (k := 2) (r := 78) 22 (by decide +kernel) sh_76 rfl ?_
        refine w_pushN 22 24 (by decide +kernel) ?_
        refine w_load (.iload_n 1) 25 (by decide +kernel) rfl rfl ?_
        refine w_mulN (22 * f) 26 (by decide +kernel) rfl ?_
        refine w_load (.iload_n 3) 27 (by decide +kernel) rfl rfl ?_
        refine w_addN (22 * f + g3) 28 (by decide +kernel) (by omega) ?_
        refine w_ialdN 29 (by decide +kernel) sh_78 (by omega) (by omega) ?_
        refine w_iastW 30 (by decide +kernel) sh_78 (by omega) (by omega) hS (rg_78 (fun h1 h2 => by first | omega | exact Or.inl rfl | exact Or.inr ⟨_, by omega, rfl⟩ | exact inv_78 hS.1 _ (by omega) (by omega) | exact inv_82 hS.1 _ (by omega) (by omega) | exact inv_89 hS.1 _ (by omega) (by omega))) (by first | exact rfl | omega | (dsimp only; omega) | (simp only [Hs, Tl, Sc, isHs, isScr, isTs] at *; omega)) (fun N hS hq2 oq2 => ?_)
        refine w_iincN (z := 3) (g3 + 1) 33 (by decide +kernel) rfl (Nat.le_of_ble_eq_true rfl) rfl rfl ?_
        show Wp _ _ _ [.ref 76, .int (nI f), .int (nI t), .int (nI (g3 + 1))] _ _ _ _
        refine w_goto 2 (by decide +kernel) ?_
        exact ih_2 N (g3 + 1) hS (by omega) (by omega)
  exact LP_2 _ N 0 hS (by omega) (Nat.lt_succ_self _)
-- X8_keepAct
set_option maxRecDepth 10000 in
theorem k_161 {d : Nat} {M : Mt} {L : Lt} {Q : Option Value → Mt → Lt → Prop}  (hI : Inv M)  (hd : 0 ≤ d) (hq : ∀ (N : Mt), St (fun i k => i = 82 ∨ (i = 76 ∧ (k = 8 ∨ k = 9))) M N → True → Q none N L) : Wp d 161 0 [.ref 76, .null] [] M L Q := by
  refine (show ∀ N : Mt, N = M → St (fun i k => i = 82 ∨ (i = 76 ∧ (k = 8 ∨ k = 9))) M N → Wp d 161 0 [.ref 76, .null] [] N L Q from ?_) M rfl (St.rf hI)
  intro N hNM hS
  refine w_pushN 0 1 (by decide +kernel) ?_
  refine w_store (ls' := [.ref 76, .int (nI 0)]) (.istore_n 1) 2 (by decide +kernel) rfl rfl ?_
  have LP_2 : ∀ (kk : Nat) (N : Mt) (g1 : Nat), St (fun i k => i = 82 ∨ (i = 76 ∧ (k = 8 ∨ k = 9))) M N → g1 ≤ 17 → 17 - g1 < kk → Wp d 161 2 [.ref 76, .int (nI g1)] [] N L Q := by
    intro kk
    induction kk with
    | zero => intro N g1 hS hi0_2 hm_2; exact absurd hm_2 (Nat.not_lt_zero _)
    | succ kk ih_2 =>
      intro N g1 hS hi0_2 hm_2
      refine w_load (.iload_n 1) 3 (by decide +kernel) rfl rfl ?_
      refine w_pushN 17 5 (by decide +kernel) ?_
      refine w_cgeN 34 8 (by decide +kernel) (by omega) (by omega) (fun h1 => ?_) (fun h1 => ?_)
      · skip
        refine w_load (.aload_n 0) 35 (by decide +kernel) rfl rfl ?_
        refine w_load (.aload_n 0) 36 (by decide +kernel) rfl rfl ?_
        refine w_getN (B := 11) (k := 9) 39 (by decide +kernel) sh_76 rfl (inv_next hS.1) (fun n2 hn2 en2 => ?_)
        refine w_pushN 1 40 (by decide +kernel) ?_
        refine w_addN (n2 + 1) 41 (by decide +kernel) (by omega) ?_
        refine w_pushN 12 43 (by decide +kernel) ?_
        refine w_remN ((n2 + 1) % 12) 44 (by decide +kernel) (by decide) (by decide) (by omega) rfl ?_
        refine w_putW (k := 9) 47 (by decide +kernel) sh_76 rfl hS (rg_76n (B := 11) (by omega) (by decide)) (by first | exact rfl | omega | (dsimp only; omega) | (simp only [Hs, Tl, Sc, isHs, isScr, isTs] at *; omega)) (fun N hS hq3 oq3 => ?_)
        refine w_load (.aload_n 0) 48 (by decide +kernel) rfl rfl ?_
        refine w_load (.aload_n 0) 49 (by decide +kernel) rfl rfl ?_
        refine w_getI (k := 8) 52 (by decide +kernel) sh_76 rfl ?_
        refine w_pushN 12 54 (by decide +kernel) ?_
        refine w_cge 66 57 (by decide +kernel) (fun h4 => ?_) (fun h4 => ?_)
        · skip
          refine w_pushN 12 68 (by decide +kernel) ?_
          refine w_putW (k := 8) 71 (by decide +kernel) sh_76 rfl hS (rg_76 (by decide)) (by first | exact rfl | omega | (dsimp only; omega) | (simp only [Hs, Tl, Sc, isHs, isScr, isTs] at *; omega)) (fun N hS hq5 oq5 => ?_)
          have kn6 := (oq5 (76) 9 (by first | omega | (simp only [Hs, Tl, Sc, isHs, isScr, isTs] at *; omega))).trans hq3
          exact w_retV (by decide +kernel) (hq N hS trivial)
        · skip
          refine w_load (.aload_n 0) 58 (by decide +kernel) rfl rfl ?_
          refine w_getI (k := 8) 61 (by decide +kernel) sh_76 rfl ?_
          refine w_pushN 1 62 (by decide +kernel) ?_
          refine w_pure .iadd 63 (by decide +kernel) rfl rfl ?_
          refine w_goto 68 (by decide +kernel) ?_
          refine w_putW (k := 8) 71 (by decide +kernel) sh_76 rfl hS (rg_76 (by decide)) (by first | exact rfl | omega | (dsimp only; omega) | (simp only [Hs, Tl, Sc, isHs, isScr, isTs] at *; omega)) (fun N hS hq7 oq7 => ?_)
          have kn8 := (oq7 (76) 9 (by first | omega | (simp only [Hs, Tl, Sc, isHs, isScr, isTs] at *; omega))).trans hq3
          exact w_retV (by decide +kernel) (hq N hS trivial)
      · skip
        refine w_load (.aload_n 0) 9 (by decide +kernel) rfl rfl ?_
        refine w_getR (k := 10) (r := 82) 12 (by decide +kernel) sh_76 rfl ?_
        refine w_pushN 17 14 (by decide +kernel) ?_
        refine w_load (.aload_n 0) 15 (by decide +kernel) rfl rfl ?_
        refine w_getN (B := 11) (k := 9) 18 (by decide +kernel) sh_76 rfl (inv_next hS.1) (fun n9 hn9 en9 => ?_)
        refine w_mulN (17 * n9) 19 (by decide +kernel) rfl ?_
        refine w_load (.iload_n 1) 20 (by decide +kernel) rfl rfl ?_
        refine w_addN (17 * n9 + g1) 21 (by decide +kernel) (by omega) ?_
        refine w_load (.aload_n 0) 22 (by decide +kernel) rfl rfl ?_
        refine w_getR (k := 2) (r := 78) 25 (by decide +kernel) sh_76 rfl ?_
        refine w_load (.iload_n 1) 26 (by decide +kernel) rfl rfl ?_
        refine w_ialdN 27 (by decide +kernel) sh_78 (by omega) (by omega) ?_
        refine w_iastW 28 (by decide +kernel) sh_82 (by omega) (by omega) hS (rg_82 (fun h1 h2 => by first | omega | exact Or.inl rfl | exact Or.inr ⟨_, by omega, rfl⟩ | exact inv_78 hS.1 _ (by omega) (by omega) | exact inv_82 hS.1 _ (by omega) (by omega) | exact inv_89 hS.1 _ (by omega) (by omega))) (by first | exact rfl | omega | (dsimp only; omega) | (simp only [Hs, Tl, Sc, isHs, isScr, isTs] at *; omega)) (fun N hS hq10 oq10 => ?_)
        have kn11 := (oq10 (76) 9 (by first | omega | (simp only [Hs, Tl, Sc, isHs, isScr, isTs] at *; omega))).trans en9
        refine w_iincN (z := 1) (g1 + 1) 31 (by decide +kernel) rfl (Nat.le_of_ble_eq_true rfl) rfl rfl ?_
        show Wp _ _ _ [.ref 76, .int (nI (g1 + 1))] _ _ _ _
        refine w_goto 2 (by decide +kernel) ?_
        exact ih_2 N (g1 + 1) hS (by omega) (by omega)
  exact LP_2 _ N 0 hS (by omega) (Nat.lt_succ_self _)
-- X8_tell
set_option maxRecDepth 10000 in
theorem k_162 {d : Nat} {M : Mt} {L : Lt} {Q : Option Value → Mt → Lt → Prop} {a : Int32} (hI : Inv M)  (hd : 4 ≤ d) (hq : ∀ (r : Int32) (N : Mt), St (fun i k => i = 78 ∨ i = 82 ∨ i = 83 ∨ i = 84 ∨ i = 88 ∨ i = 89 ∨ (i = 76 ∧ (k = 7 ∨ k = 8 ∨ k = 9 ∨ k = 11))) M N → True → Q (some (.int r)) N L) : Wp d 162 0 [.ref 76, .int a] [] M L Q := by
  refine (show ∀ N : Mt, N = M → St (fun i k => i = 78 ∨ i = 82 ∨ i = 83 ∨ i = 84 ∨ i = 88 ∨ i = 89 ∨ (i = 76 ∧ (k = 7 ∨ k = 8 ∨ k = 9 ∨ k = 11))) M N → Wp d 162 0 [.ref 76, .int a] [] N L Q from ?_) M rfl (St.rf hI)
  intro N hNM hS
  refine w_load (.iload_n 1) 1 (by decide +kernel) rfl rfl ?_
  refine w_callS1 142 1 4 (by decide +kernel) (Nat.le_of_ble_eq_true rfl) rfl (by decide) (by omega) ?_
  refine k_142 hS.1  (by omega) (fun r1 hr1 => ?_)
  dsimp only [Option.toList, List.cons_append, List.nil_append]
  rcases hr1 with ⟨rfl, k2, hk2, rfl⟩ | ⟨rfl, hnok2⟩
  · skip
    refine w_ine 9 7 (by decide +kernel) (fun _ => ?_) (fun hz => absurd hz (by decide))
    refine w_load (.aload_n 0) 10 (by decide +kernel) rfl rfl ?_
    refine w_callV0 161 8 2 13 (by decide +kernel) sh_76 (Nat.le_of_ble_eq_true rfl)  (by decide) (by omega) ?_
    refine k_161 hS.1  (by omega) (fun N hT hr4 => ?_)
    have hS := hS.tr hT (by intro i k; first | exact rfl | omega | (dsimp only; omega) | (simp only [Hs, Tl, Sc, isHs, isScr, isTs] at *; omega))
    dsimp only [Option.toList, List.nil_append]
    refine w_load (.aload_n 0) 14 (by decide +kernel) rfl rfl ?_
    refine w_pushN 0 15 (by decide +kernel) ?_
    refine w_load (.iload_n 1) 16 (by decide +kernel) rfl rfl ?_
    refine w_pushN 0 17 (by decide +kernel) ?_
    refine w_callV3 159 8 7 20 (by decide +kernel) sh_76 (Nat.le_of_ble_eq_true rfl) rfl rfl rfl (by decide) (by omega) ?_
    refine k_159 hS.1 (by omega) (by omega) (by omega) (fun r5 N hT hr5 => ?_)
    have hS := hS.tr hT (by intro i k; first | exact rfl | omega | (dsimp only; omega) | (simp only [Hs, Tl, Sc, isHs, isScr, isTs] at *; omega))
    dsimp only [Option.toList, List.cons_append, List.nil_append]
    exact w_ret (by decide +kernel) (hq _ N hS trivial)
  · skip
    refine w_ine 9 7 (by decide +kernel) (fun hz => absurd hz (by decide)) (fun _ => ?_)
    refine w_push (-1) 8 (by decide +kernel) ?_
    exact w_ret (by decide +kernel) (hq _ N hS trivial)
-- X8_give
set_option maxRecDepth 10000 in
theorem k_163 {d : Nat} {M : Mt} {L : Lt} {Q : Option Value → Mt → Lt → Prop} {g : Int32} {a : Int32} (hI : Inv M)  (hd : 2 ≤ d) (hq : ∀ (r : Int32) (N : Mt), St (fun i k => i = 78 ∨ i = 82 ∨ i = 83 ∨ i = 84 ∨ i = 88 ∨ i = 89 ∨ (i = 76 ∧ (k = 7 ∨ k = 8 ∨ k = 9 ∨ k = 11))) M N → True → Q (some (.int r)) N L) : Wp d 163 0 [.ref 76, .int g, .int a, .null] [] M L Q := by
  refine (show ∀ N : Mt, N = M → St (fun i k => i = 78 ∨ i = 82 ∨ i = 83 ∨ i = 84 ∨ i = 88 ∨ i = 89 ∨ (i = 76 ∧ (k = 7 ∨ k = 8 ∨ k = 9 ∨ k = 11))) M N → Wp d 163 0 [.ref 76, .int g, .int a, .null] [] N L Q from ?_) M rfl (St.rf hI)
  intro N hNM hS
  refine w_load (.aload_n 0) 1 (by decide +kernel) rfl rfl ?_
  refine w_load (.iload_n 1) 2 (by decide +kernel) rfl rfl ?_
  refine w_callV1 150 8 2 5 (by decide +kernel) sh_76 (Nat.le_of_ble_eq_true rfl) rfl (by decide) (by omega) ?_
  refine k_150 hS.1  (by omega) (fun r1 hr1 => ?_)
  dsimp only [Option.toList, List.cons_append, List.nil_append]
  rcases hr1 with ⟨rfl, k2, hk2, rfl⟩ | rfl
  · skip
    refine w_ine 10 8 (by decide +kernel) (fun _ => ?_) (fun hz => absurd hz (by decide))
    refine w_load (.iload_n 2) 11 (by decide +kernel) rfl rfl ?_
    refine w_pure .i2l 12 (by decide +kernel) rfl rfl ?_
    refine w_pushL (0) 13 (by decide +kernel) ?_
    refine w_pushL (3) 16 (by decide +kernel) ?_
    refine w_callSL 134 6 19 (by decide +kernel) (Nat.le_of_ble_eq_true rfl) rfl (by omega) ?_
    refine k_134 hS.1  (by omega) (fun r4 hr4 => ?_)
    dsimp only [Option.toList, List.cons_append, List.nil_append]
    rcases hr4 with ⟨rfl, hlok5, hhik5⟩ | ⟨rfl, hnok5⟩
    · skip
      obtain ⟨k5, hlk5, hhk5, rfl⟩ := in_k (lo := 0) (hi := 3) hlok5 hhik5 (by decide)
      refine w_ine 25 22 (by decide +kernel) (fun _ => ?_) (fun hz => absurd hz (by decide))
      refine w_load (.aload_n 0) 26 (by decide +kernel) rfl rfl ?_
      refine w_getR (k := 2) (r := 78) 29 (by decide +kernel) sh_76 rfl ?_
      refine w_pushN 15 31 (by decide +kernel) ?_
      refine w_ialdN 32 (by decide +kernel) sh_78 (by omega) (by omega) ?_
      refine w_load (.iload_n 1) 33 (by decide +kernel) rfl rfl ?_
      refine w_callS2 135 2 36 (by decide +kernel) (Nat.le_of_ble_eq_true rfl) rfl rfl (by decide) (by omega) ?_
      refine k_135 hS.1  (by omega) (fun r7 hr7 => ?_)
      dsimp only [Option.toList, List.cons_append, List.nil_append]
      rcases hr7 with ⟨rfl, hbr7⟩ | ⟨rfl, hbr7⟩
      · skip
        refine w_ieq 49 39 (by decide +kernel) (fun hz => absurd hz (by decide)) (fun _ => ?_)
        refine w_load (.aload_n 0) 40 (by decide +kernel) rfl rfl ?_
        refine w_getR (k := 2) (r := 78) 43 (by decide +kernel) sh_76 rfl ?_
        refine w_load (.iload_n 1) 44 (by decide +kernel) rfl rfl ?_
        refine w_ialdN 45 (by decide +kernel) sh_78 (by omega) (by omega) ?_
        refine w_load (.iload_n 2) 46 (by decide +kernel) rfl rfl ?_
        refine w_cne 52 49 (by decide +kernel) (fun h9 => ?_) (fun h9 => ?_)
        · skip
          refine w_load (.aload_n 0) 53 (by decide +kernel) rfl rfl ?_
          refine w_callV0 161 8 2 56 (by decide +kernel) sh_76 (Nat.le_of_ble_eq_true rfl)  (by decide) (by omega) ?_
          refine k_161 hS.1  (by omega) (fun N hT hr10 => ?_)
          have hS := hS.tr hT (by intro i k; first | exact rfl | omega | (dsimp only; omega) | (simp only [Hs, Tl, Sc, isHs, isScr, isTs] at *; omega))
          dsimp only [Option.toList, List.nil_append]
          refine w_load (.aload_n 0) 57 (by decide +kernel) rfl rfl ?_
          refine w_getR (k := 2) (r := 78) 60 (by decide +kernel) sh_76 rfl ?_
          refine w_load (.iload_n 1) 61 (by decide +kernel) rfl rfl ?_
          refine w_ialdN 62 (by decide +kernel) sh_78 (by omega) (by omega) ?_
          refine w_topi (fun v11 ev11 => ?_)
          refine w_store (ls' := [.ref 76, .int (nI k2), .int (nI k5), .int v11]) (.istore_n 3) 63 (by decide +kernel) rfl rfl ?_
          refine w_load (.aload_n 0) 64 (by decide +kernel) rfl rfl ?_
          refine w_getR (k := 2) (r := 78) 67 (by decide +kernel) sh_76 rfl ?_
          refine w_load (.iload_n 1) 68 (by decide +kernel) rfl rfl ?_
          refine w_load (.iload_n 2) 69 (by decide +kernel) rfl rfl ?_
          refine w_iastW 70 (by decide +kernel) sh_78 (by omega) (by omega) hS (rg_78 (fun h1 h2 => by first | omega | exact Or.inl rfl | exact Or.inr ⟨_, by omega, rfl⟩ | exact inv_78 hS.1 _ (by omega) (by omega) | exact inv_82 hS.1 _ (by omega) (by omega) | exact inv_89 hS.1 _ (by omega) (by omega))) (by first | exact rfl | omega | (dsimp only; omega) | (simp only [Hs, Tl, Sc, isHs, isScr, isTs] at *; omega)) (fun N hS hq12 oq12 => ?_)
          refine w_load (.iload_n 3) 71 (by decide +kernel) rfl rfl ?_
          exact w_ret (by decide +kernel) (hq _ N hS trivial)
        · skip
          refine w_push (-3) 51 (by decide +kernel) ?_
          exact w_ret (by decide +kernel) (hq _ N hS trivial)
      · skip
        refine w_ieq 49 39 (by decide +kernel) (fun _ => ?_) (fun hz => absurd hz (by decide))
        refine w_push (-3) 51 (by decide +kernel) ?_
        exact w_ret (by decide +kernel) (hq _ N hS trivial)
    · skip
      refine w_ine 25 22 (by decide +kernel) (fun hz => absurd hz (by decide)) (fun _ => ?_)
      refine w_push (-2) 24 (by decide +kernel) ?_
      exact w_ret (by decide +kernel) (hq _ N hS trivial)
  · skip
    refine w_ine 10 8 (by decide +kernel) (fun hz => absurd hz (by decide)) (fun _ => ?_)
    refine w_push (-1) 9 (by decide +kernel) ?_
    exact w_ret (by decide +kernel) (hq _ N hS trivial)
-- X8_undo
set_option maxRecDepth 10000 in
theorem k_164 {d : Nat} {M : Mt} {L : Lt} {Q : Option Value → Mt → Lt → Prop}  (hI : Inv M)  (hd : 0 ≤ d) (hq : ∀ (r : Int32) (N : Mt), St (fun i k => i = 78 ∨ i = 82 ∨ i = 83 ∨ i = 84 ∨ i = 88 ∨ i = 89 ∨ (i = 76 ∧ (k = 7 ∨ k = 8 ∨ k = 9 ∨ k = 11))) M N → True → Q (some (.int r)) N L) : Wp d 164 0 [.ref 76, .null] [] M L Q := by
  refine (show ∀ N : Mt, N = M → St (fun i k => i = 78 ∨ i = 82 ∨ i = 83 ∨ i = 84 ∨ i = 88 ∨ i = 89 ∨ (i = 76 ∧ (k = 7 ∨ k = 8 ∨ k = 9 ∨ k = 11))) M N → Wp d 164 0 [.ref 76, .null] [] N L Q from ?_) M rfl (St.rf hI)
  intro N hNM hS
  refine w_load (.aload_n 0) 1 (by decide +kernel) rfl rfl ?_
  refine w_getI (k := 8) 4 (by decide +kernel) sh_76 rfl ?_
  refine w_ine 10 7 (by decide +kernel) (fun h1 => ?_) (fun h1 => ?_)
  · skip
    refine w_load (.aload_n 0) 11 (by decide +kernel) rfl rfl ?_
    refine w_pure .dup 12 (by decide +kernel) rfl rfl ?_
    refine w_getI (k := 8) 15 (by decide +kernel) sh_76 rfl ?_
    refine w_pushN 1 16 (by decide +kernel) ?_
    refine w_pure .isub 17 (by decide +kernel) rfl rfl ?_
    refine w_putW (k := 8) 20 (by decide +kernel) sh_76 rfl hS (rg_76 (by decide)) (by first | exact rfl | omega | (dsimp only; omega) | (simp only [Hs, Tl, Sc, isHs, isScr, isTs] at *; omega)) (fun N hS hq2 oq2 => ?_)
    refine w_load (.aload_n 0) 21 (by decide +kernel) rfl rfl ?_
    refine w_load (.aload_n 0) 22 (by decide +kernel) rfl rfl ?_
    refine w_getN (B := 11) (k := 9) 25 (by decide +kernel) sh_76 rfl (inv_next hS.1) (fun n3 hn3 en3 => ?_)
    refine w_pushN 11 27 (by decide +kernel) ?_
    refine w_addN (n3 + 11) 28 (by decide +kernel) (by omega) ?_
    refine w_pushN 12 30 (by decide +kernel) ?_
    refine w_remN ((n3 + 11) % 12) 31 (by decide +kernel) (by decide) (by decide) (by omega) rfl ?_
    refine w_putW (k := 9) 34 (by decide +kernel) sh_76 rfl hS (rg_76n (B := 11) (by omega) (by decide)) (by first | exact rfl | omega | (dsimp only; omega) | (simp only [Hs, Tl, Sc, isHs, isScr, isTs] at *; omega)) (fun N hS hq4 oq4 => ?_)
    refine w_pushN 0 35 (by decide +kernel) ?_
    refine w_store (ls' := [.ref 76, .int (nI 0)]) (.istore_n 1) 36 (by decide +kernel) rfl rfl ?_
    have LP_36 : ∀ (kk : Nat) (N : Mt) (g1 : Nat), St (fun i k => i = 78 ∨ i = 82 ∨ i = 83 ∨ i = 84 ∨ i = 88 ∨ i = 89 ∨ (i = 76 ∧ (k = 7 ∨ k = 8 ∨ k = 9 ∨ k = 11))) M N → g1 ≤ 17 → 17 - g1 < kk → Wp d 164 36 [.ref 76, .int (nI g1)] [] N L Q := by
      intro kk
      induction kk with
      | zero => intro N g1 hS hi0_36 hm_36; exact absurd hm_36 (Nat.not_lt_zero _)
      | succ kk ih_36 =>
        intro N g1 hS hi0_36 hm_36
        refine w_load (.iload_n 1) 37 (by decide +kernel) rfl rfl ?_
        refine w_pushN 17 39 (by decide +kernel) ?_
        refine w_cgeN 68 42 (by decide +kernel) (by omega) (by omega) (fun h5 => ?_) (fun h5 => ?_)
        · skip
          refine w_load (.aload_n 0) 69 (by decide +kernel) rfl rfl ?_
          refine w_getI (k := 8) 72 (by decide +kernel) sh_76 rfl ?_
          exact w_ret (by decide +kernel) (hq _ N hS trivial)
        · skip
          refine w_load (.aload_n 0) 43 (by decide +kernel) rfl rfl ?_
          refine w_getR (k := 2) (r := 78) 46 (by decide +kernel) sh_76 rfl ?_
          refine w_load (.iload_n 1) 47 (by decide +kernel) rfl rfl ?_
          refine w_load (.aload_n 0) 48 (by decide +kernel) rfl rfl ?_
          refine w_getR (k := 10) (r := 82) 51 (by decide +kernel) sh_76 rfl ?_
          refine w_pushN 17 53 (by decide +kernel) ?_
          refine w_load (.aload_n 0) 54 (by decide +kernel) rfl rfl ?_
          refine w_getN (B := 11) (k := 9) 57 (by decide +kernel) sh_76 rfl (inv_next hS.1) (fun n6 hn6 en6 => ?_)
          refine w_mulN (17 * n6) 58 (by decide +kernel) rfl ?_
          refine w_load (.iload_n 1) 59 (by decide +kernel) rfl rfl ?_
          refine w_addN (17 * n6 + g1) 60 (by decide +kernel) (by omega) ?_
          refine w_ialdN 61 (by decide +kernel) sh_82 (by omega) (by omega) ?_
          refine w_iastW 62 (by decide +kernel) sh_78 (by omega) (by omega) hS (rg_78 (fun h1 h2 => by first | omega | exact Or.inl rfl | exact Or.inr ⟨_, by omega, rfl⟩ | exact inv_78 hS.1 _ (by omega) (by omega) | exact inv_82 hS.1 _ (by omega) (by omega) | exact inv_89 hS.1 _ (by omega) (by omega))) (by first | exact rfl | omega | (dsimp only; omega) | (simp only [Hs, Tl, Sc, isHs, isScr, isTs] at *; omega)) (fun N hS hq7 oq7 => ?_)
          have kn8 := (oq7 (76) 9 (by first | omega | (simp only [Hs, Tl, Sc, isHs, isScr, isTs] at *; omega))).trans en6
          refine w_iincN (z := 1) (g1 + 1) 65 (by decide +kernel) rfl (Nat.le_of_ble_eq_true rfl) rfl rfl ?_
          show Wp _ _ _ [.ref 76, .int (nI (g1 + 1))] _ _ _ _
          refine w_goto 36 (by decide +kernel) ?_
          exact ih_36 N (g1 + 1) hS (by omega) (by omega)
    exact LP_36 _ N 0 hS (by omega) (Nat.lt_succ_self _)
  · skip
    refine w_push (-3) 9 (by decide +kernel) ?_
    exact w_ret (by decide +kernel) (hq _ N hS trivial)
-- X8_dead
set_option maxRecDepth 10000 in
theorem k_165 {d : Nat} {M : Mt} {L : Lt} {Q : Option Value → Mt → Lt → Prop} {lv : Nat}  (hI : Inv M) (hlv : lv ≤ 7) (hd : 0 ≤ d) (hq : ∀ (r : Int32), True → Q (some (.int r)) M L) : Wp d 165 0 [.ref 76, .int (nI lv)] [] M L Q := by
  refine w_pushN 1 1 (by decide +kernel) ?_
  refine w_load (.aload_n 0) 2 (by decide +kernel) rfl rfl ?_
  refine w_getN (B := 5) (k := 0) 5 (by decide +kernel) sh_76 rfl (inv_g hI) (fun n1 hn1 en1 => ?_)
  refine w_pure .ishl 6 (by decide +kernel) rfl rfl ?_
  refine w_pushN 1 7 (by decide +kernel) ?_
  refine w_pure .isub 8 (by decide +kernel) rfl rfl ?_
  refine w_load (.aload_n 0) 9 (by decide +kernel) rfl rfl ?_
  refine w_getR (k := 2) (r := 78) 12 (by decide +kernel) sh_76 rfl ?_
  refine w_pushN 22 14 (by decide +kernel) ?_
  refine w_load (.iload_n 1) 15 (by decide +kernel) rfl rfl ?_
  refine w_mulN (22 * lv) 16 (by decide +kernel) rfl ?_
  refine w_pushN 15 18 (by decide +kernel) ?_
  refine w_addN (22 * lv + 15) 19 (by decide +kernel) (by omega) ?_
  refine w_ialdN 20 (by decide +kernel) sh_78 (by omega) (by omega) ?_
  refine w_push (-1) 21 (by decide +kernel) ?_
  refine w_pure .ixor 22 (by decide +kernel) rfl rfl ?_
  refine w_pure .iand 23 (by decide +kernel) rfl rfl ?_
  exact w_ret (by decide +kernel) (hq _ trivial)
-- X8_allCoins
set_option maxRecDepth 10000 in
theorem k_166 {d : Nat} {M : Mt} {L : Lt} {Q : Option Value → Mt → Lt → Prop} {lv : Nat}  (hI : Inv M) (hlv : lv ≤ 7) (hd : 0 ≤ d) (hq : ∀ (r : Int32), True → Q (some (.int r)) M L) : Wp d 166 0 [.ref 76, .int (nI lv), .null, .null] [] M L Q := by
  refine w_pushN 1000 3 (by decide +kernel) ?_
  refine w_store (ls' := [.ref 76, .int (nI lv), .int (nI 1000), .null]) (.istore_n 2) 4 (by decide +kernel) rfl rfl ?_
  refine w_pushN 0 5 (by decide +kernel) ?_
  refine w_store (ls' := [.ref 76, .int (nI lv), .int (nI 1000), .int (nI 0)]) (.istore_n 3) 6 (by decide +kernel) rfl rfl ?_
  have LP_6 : ∀ (kk : Nat) (x2_6 : Int32) (g3 : Nat), g3 ≤ 5 → 5 - g3 < kk → Wp d 166 6 [.ref 76, .int (nI lv), .int x2_6, .int (nI g3)] [] M L Q := by
    intro kk
    induction kk with
    | zero => intro x2_6 g3 hi0_6 hm_6; exact absurd hm_6 (Nat.not_lt_zero _)
    | succ kk ih_6 =>
      intro x2_6 g3 hi0_6 hm_6
      refine w_load (.iload_n 3) 7 (by decide +kernel) rfl rfl ?_
      refine w_load (.aload_n 0) 8 (by decide +kernel) rfl rfl ?_
      refine w_getN (B := 5) (k := 0) 11 (by decide +kernel) sh_76 rfl (inv_g hI) (fun n1 hn1 en1 => ?_)
      refine w_cgeN 36 14 (by decide +kernel) (by omega) (by omega) (fun h2 => ?_) (fun h2 => ?_)
      · skip
        refine w_load (.iload_n 2) 37 (by decide +kernel) rfl rfl ?_
        exact w_ret (by decide +kernel) (hq _ trivial)
      · skip
        refine w_load (.iload_n 2) 15 (by decide +kernel) rfl rfl ?_
        refine w_load (.aload_n 0) 16 (by decide +kernel) rfl rfl ?_
        refine w_getR (k := 2) (r := 78) 19 (by decide +kernel) sh_76 rfl ?_
        refine w_pushN 22 21 (by decide +kernel) ?_
        refine w_load (.iload_n 1) 22 (by decide +kernel) rfl rfl ?_
        refine w_mulN (22 * lv) 23 (by decide +kernel) rfl ?_
        refine w_pushN 5 24 (by decide +kernel) ?_
        refine w_addN (22 * lv + 5) 25 (by decide +kernel) (by omega) ?_
        refine w_load (.iload_n 3) 26 (by decide +kernel) rfl rfl ?_
        refine w_addN (22 * lv + 5 + g3) 27 (by decide +kernel) (by omega) ?_
        refine w_ialdN 28 (by decide +kernel) sh_78 (by omega) (by omega) ?_
        refine w_pure .iadd 29 (by decide +kernel) rfl rfl ?_
        refine w_topi (fun v3 ev3 => ?_)
        refine w_store (ls' := [.ref 76, .int (nI lv), .int v3, .int (nI g3)]) (.istore_n 2) 30 (by decide +kernel) rfl rfl ?_
        refine w_iincN (z := 3) (g3 + 1) 33 (by decide +kernel) rfl (Nat.le_of_ble_eq_true rfl) rfl rfl ?_
        show Wp _ _ _ [.ref 76, .int (nI lv), .int v3, .int (nI (g3 + 1))] _ _ _ _
        refine w_goto 6 (by decide +kernel) ?_
        exact ih_6 _ (g3 + 1) (by omega) (by omega)
  exact LP_6 _ _ 0 (by omega) (Nat.lt_succ_self _)
-- X8_would
set_option maxRecDepth 10000 in
theorem k_167 {d : Nat} {M : Mt} {L : Lt} {Q : Option Value → Mt → Lt → Prop} {a : Int32} {b : Int32} (hI : Inv M)  (hd : 4 ≤ d) (hq : ∀ (r : Int32) (N : Mt), St (fun i k => i = 78 ∨ i = 82 ∨ i = 83 ∨ i = 84 ∨ i = 88 ∨ i = 89 ∨ (i = 76 ∧ (k = 7 ∨ k = 8 ∨ k = 9 ∨ k = 11))) M N → True → Q (some (.int r)) N L) : Wp d 167 0 [.ref 76, .int a, .int b, .null] [] M L Q := by
  refine (show ∀ N : Mt, N = M → St (fun i k => i = 78 ∨ i = 82 ∨ i = 83 ∨ i = 84 ∨ i = 88 ∨ i = 89 ∨ (i = 76 ∧ (k = 7 ∨ k = 8 ∨ k = 9 ∨ k = 11))) M N → Wp d 167 0 [.ref 76, .int a, .int b, .null] [] N L Q from ?_) M rfl (St.rf hI)
  intro N hNM hS
  refine w_load (.iload_n 1) 1 (by decide +kernel) rfl rfl ?_
  refine w_callS1 142 1 4 (by decide +kernel) (Nat.le_of_ble_eq_true rfl) rfl (by decide) (by omega) ?_
  refine k_142 hS.1  (by omega) (fun r1 hr1 => ?_)
  dsimp only [Option.toList, List.cons_append, List.nil_append]
  rcases hr1 with ⟨rfl, k2, hk2, rfl⟩ | ⟨rfl, hnok2⟩
  · skip
    refine w_ine 9 7 (by decide +kernel) (fun _ => ?_) (fun hz => absurd hz (by decide))
    refine w_load (.iload_n 2) 10 (by decide +kernel) rfl rfl ?_
    refine w_pure .i2l 11 (by decide +kernel) rfl rfl ?_
    refine w_pushL (0) 12 (by decide +kernel) ?_
    refine w_pushL (3) 15 (by decide +kernel) ?_
    refine w_callSL 134 6 18 (by decide +kernel) (Nat.le_of_ble_eq_true rfl) rfl (by omega) ?_
    refine k_134 hS.1  (by omega) (fun r4 hr4 => ?_)
    dsimp only [Option.toList, List.cons_append, List.nil_append]
    rcases hr4 with ⟨rfl, hlok5, hhik5⟩ | ⟨rfl, hnok5⟩
    · skip
      obtain ⟨k5, hlk5, hhk5, rfl⟩ := in_k (lo := 0) (hi := 3) hlok5 hhik5 (by decide)
      refine w_ine 24 21 (by decide +kernel) (fun _ => ?_) (fun hz => absurd hz (by decide))
      refine w_load (.aload_n 0) 25 (by decide +kernel) rfl rfl ?_
      refine w_pushN 0 26 (by decide +kernel) ?_
      refine w_pushN 1 27 (by decide +kernel) ?_
      refine w_callV2 160 8 4 30 (by decide +kernel) sh_76 (Nat.le_of_ble_eq_true rfl) rfl rfl (by decide) (by omega) ?_
      refine k_160 hS.1 (by omega) (by omega) (by omega) (fun N hT hr7 => ?_)
      have hS := hS.tr hT (by intro i k; first | exact rfl | omega | (dsimp only; omega) | (simp only [Hs, Tl, Sc, isHs, isScr, isTs] at *; omega))
      dsimp only [Option.toList, List.nil_append]
      refine w_load (.aload_n 0) 31 (by decide +kernel) rfl rfl ?_
      refine w_pushN 1 32 (by decide +kernel) ?_
      refine w_load (.iload_n 1) 33 (by decide +kernel) rfl rfl ?_
      refine w_pushN 0 34 (by decide +kernel) ?_
      refine w_callV3 159 8 7 37 (by decide +kernel) sh_76 (Nat.le_of_ble_eq_true rfl) rfl rfl rfl (by decide) (by omega) ?_
      refine k_159 hS.1 (by omega) (by omega) (by omega) (fun r8 N hT hr8 => ?_)
      have hS := hS.tr hT (by intro i k; first | exact rfl | omega | (dsimp only; omega) | (simp only [Hs, Tl, Sc, isHs, isScr, isTs] at *; omega))
      dsimp only [Option.toList, List.cons_append, List.nil_append]
      refine w_store (ls' := [.ref 76, .int (nI k2), .int (nI k5), .int r8]) (.istore_n 3) 38 (by decide +kernel) rfl rfl ?_
      refine w_load (.iload_n 2) 39 (by decide +kernel) rfl rfl ?_
      refine w_ineN 46 42 (by decide +kernel) (by omega) (fun h9 => ?_) (fun h9 => ?_)
      · skip
        refine w_load (.iload_n 2) 47 (by decide +kernel) rfl rfl ?_
        refine w_pushN 1 48 (by decide +kernel) ?_
        refine w_cneN 58 51 (by decide +kernel) (by omega) (by omega) (fun h10 => ?_) (fun h10 => ?_)
        · skip
          refine w_load (.iload_n 2) 59 (by decide +kernel) rfl rfl ?_
          refine w_pushN 2 60 (by decide +kernel) ?_
          refine w_cneN 71 63 (by decide +kernel) (by omega) (by omega) (fun h11 => ?_) (fun h11 => ?_)
          · skip
            refine w_load (.aload_n 0) 72 (by decide +kernel) rfl rfl ?_
            refine w_pushN 1 73 (by decide +kernel) ?_
            refine w_callV1 166 8 4 76 (by decide +kernel) sh_76 (Nat.le_of_ble_eq_true rfl) rfl (by decide) (by omega) ?_
            refine k_166 hS.1 (by omega) (by omega) (fun r12 hr12 => ?_)
            dsimp only [Option.toList, List.cons_append, List.nil_append]
            exact w_ret (by decide +kernel) (hq _ N hS trivial)
          · skip
            refine w_load (.aload_n 0) 64 (by decide +kernel) rfl rfl ?_
            refine w_pushN 1 65 (by decide +kernel) ?_
            refine w_callV1 165 8 2 68 (by decide +kernel) sh_76 (Nat.le_of_ble_eq_true rfl) rfl (by decide) (by omega) ?_
            refine k_165 hS.1 (by omega) (by omega) (fun r13 hr13 => ?_)
            dsimp only [Option.toList, List.cons_append, List.nil_append]
            refine w_goto 76 (by decide +kernel) ?_
            exact w_ret (by decide +kernel) (hq _ N hS trivial)
        · skip
          refine w_load (.aload_n 0) 52 (by decide +kernel) rfl rfl ?_
          refine w_getI (k := 7) 55 (by decide +kernel) sh_76 rfl ?_
          refine w_goto 76 (by decide +kernel) ?_
          exact w_ret (by decide +kernel) (hq _ N hS trivial)
      · skip
        refine w_load (.iload_n 3) 43 (by decide +kernel) rfl rfl ?_
        refine w_goto 76 (by decide +kernel) ?_
        exact w_ret (by decide +kernel) (hq _ N hS trivial)
    · skip
      refine w_ine 24 21 (by decide +kernel) (fun hz => absurd hz (by decide)) (fun _ => ?_)
      refine w_push (-2) 23 (by decide +kernel) ?_
      exact w_ret (by decide +kernel) (hq _ N hS trivial)
  · skip
    refine w_ine 9 7 (by decide +kernel) (fun hz => absurd hz (by decide)) (fun _ => ?_)
    refine w_push (-1) 8 (by decide +kernel) ?_
    exact w_ret (by decide +kernel) (hq _ N hS trivial)
-- X8_coins
set_option maxRecDepth 10000 in
theorem k_168 {d : Nat} {M : Mt} {L : Lt} {Q : Option Value → Mt → Lt → Prop} {a : Int32} {g : Int32} (hI : Inv M)  (hd : 4 ≤ d) (hq : ∀ (r : Int32) (N : Mt), St (fun i k => i = 78 ∨ i = 82 ∨ i = 83 ∨ i = 84 ∨ i = 88 ∨ i = 89 ∨ (i = 76 ∧ (k = 7 ∨ k = 8 ∨ k = 9 ∨ k = 11))) M N → True → Q (some (.int r)) N L) : Wp d 168 0 [.ref 76, .int a, .int g] [] M L Q := by
  refine (show ∀ N : Mt, N = M → St (fun i k => i = 78 ∨ i = 82 ∨ i = 83 ∨ i = 84 ∨ i = 88 ∨ i = 89 ∨ (i = 76 ∧ (k = 7 ∨ k = 8 ∨ k = 9 ∨ k = 11))) M N → Wp d 168 0 [.ref 76, .int a, .int g] [] N L Q from ?_) M rfl (St.rf hI)
  intro N hNM hS
  refine w_load (.iload_n 1) 1 (by decide +kernel) rfl rfl ?_
  refine w_callS1 142 1 4 (by decide +kernel) (Nat.le_of_ble_eq_true rfl) rfl (by decide) (by omega) ?_
  refine k_142 hS.1  (by omega) (fun r1 hr1 => ?_)
  dsimp only [Option.toList, List.cons_append, List.nil_append]
  rcases hr1 with ⟨rfl, k2, hk2, rfl⟩ | ⟨rfl, hnok2⟩
  · skip
    refine w_ieq 15 7 (by decide +kernel) (fun hz => absurd hz (by decide)) (fun _ => ?_)
    refine w_load (.aload_n 0) 8 (by decide +kernel) rfl rfl ?_
    refine w_load (.iload_n 2) 9 (by decide +kernel) rfl rfl ?_
    refine w_callV1 150 8 2 12 (by decide +kernel) sh_76 (Nat.le_of_ble_eq_true rfl) rfl (by decide) (by omega) ?_
    refine k_150 hS.1  (by omega) (fun r4 hr4 => ?_)
    dsimp only [Option.toList, List.cons_append, List.nil_append]
    rcases hr4 with ⟨rfl, k5, hk5, rfl⟩ | rfl
    · skip
      refine w_ine 17 15 (by decide +kernel) (fun _ => ?_) (fun hz => absurd hz (by decide))
      refine w_load (.aload_n 0) 18 (by decide +kernel) rfl rfl ?_
      refine w_pushN 0 19 (by decide +kernel) ?_
      refine w_pushN 1 20 (by decide +kernel) ?_
      refine w_callV2 160 8 4 23 (by decide +kernel) sh_76 (Nat.le_of_ble_eq_true rfl) rfl rfl (by decide) (by omega) ?_
      refine k_160 hS.1 (by omega) (by omega) (by omega) (fun N hT hr7 => ?_)
      have hS := hS.tr hT (by intro i k; first | exact rfl | omega | (dsimp only; omega) | (simp only [Hs, Tl, Sc, isHs, isScr, isTs] at *; omega))
      dsimp only [Option.toList, List.nil_append]
      refine w_load (.aload_n 0) 24 (by decide +kernel) rfl rfl ?_
      refine w_pushN 1 25 (by decide +kernel) ?_
      refine w_load (.iload_n 1) 26 (by decide +kernel) rfl rfl ?_
      refine w_pushN 0 27 (by decide +kernel) ?_
      refine w_callV3 159 8 7 30 (by decide +kernel) sh_76 (Nat.le_of_ble_eq_true rfl) rfl rfl rfl (by decide) (by omega) ?_
      refine k_159 hS.1 (by omega) (by omega) (by omega) (fun r8 N hT hr8 => ?_)
      have hS := hS.tr hT (by intro i k; first | exact rfl | omega | (dsimp only; omega) | (simp only [Hs, Tl, Sc, isHs, isScr, isTs] at *; omega))
      dsimp only [Option.toList, List.cons_append, List.nil_append]
      refine w_pure .pop 31 (by decide +kernel) rfl rfl ?_
      refine w_pushN 100 33 (by decide +kernel) ?_
      refine w_load (.aload_n 0) 34 (by decide +kernel) rfl rfl ?_
      refine w_getR (k := 2) (r := 78) 37 (by decide +kernel) sh_76 rfl ?_
      refine w_pushN 27 39 (by decide +kernel) ?_
      refine w_load (.iload_n 2) 40 (by decide +kernel) rfl rfl ?_
      refine w_addN (27 + k5) 41 (by decide +kernel) (by omega) ?_
      refine w_ialdN 42 (by decide +kernel) sh_78 (by omega) (by omega) ?_
      refine w_pure .iadd 43 (by decide +kernel) rfl rfl ?_
      exact w_ret (by decide +kernel) (hq _ N hS trivial)
    · skip
      refine w_ine 17 15 (by decide +kernel) (fun hz => absurd hz (by decide)) (fun _ => ?_)
      refine w_push (-1) 16 (by decide +kernel) ?_
      exact w_ret (by decide +kernel) (hq _ N hS trivial)
  · skip
    refine w_ieq 15 7 (by decide +kernel) (fun _ => ?_) (fun hz => absurd hz (by decide))
    refine w_push (-1) 16 (by decide +kernel) ?_
    exact w_ret (by decide +kernel) (hq _ N hS trivial)
-- X8_ends
set_option maxRecDepth 10000 in
theorem k_169 {d : Nat} {M : Mt} {L : Lt} {Q : Option Value → Mt → Lt → Prop} {lv g : Nat} {e : Int32} {v : Int32} (hI : Inv M) (hlv : lv ≤ 7) (hg : g < 5) (hd : 1 ≤ d) (hq : ∀ (r : Int32), (r = 0 ∨ r = 1) → Q (some (.int r)) M L) : Wp d 169 0 [.ref 76, .int (nI lv), .int (nI g), .int e, .int v, .null] [] M L Q := by
  refine w_pushN 22 2 (by decide +kernel) ?_
  refine w_load (.iload_n 1) 3 (by decide +kernel) rfl rfl ?_
  refine w_mulN (22 * lv) 4 (by decide +kernel) rfl ?_
  refine w_store (ls' := [.ref 76, .int (nI lv), .int (nI g), .int e, .int v, .int (nI (22 * lv))]) (.istore 5) 6 (by decide +kernel) rfl rfl ?_
  refine w_load (.iload_n 3) 7 (by decide +kernel) rfl rfl ?_
  refine w_tab (show insAt 169 7 = some (.tableswitch 93 0 2 #[25, 48, 71]) by decide +kernel) (fun h1 => ⟨100, rfl, ?_⟩) (fun z2 h1 h1b => ?_)
  · skip
    refine w_load (.aload_n 0) 101 (by decide +kernel) rfl rfl ?_
    refine w_getR (k := 2) (r := 78) 104 (by decide +kernel) sh_76 rfl ?_
    refine w_load (.iload 5) 106 (by decide +kernel) rfl rfl ?_
    refine w_load (.iload_n 2) 107 (by decide +kernel) rfl rfl ?_
    refine w_addN (22 * lv + g) 108 (by decide +kernel) (by omega) ?_
    refine w_ialdN 109 (by decide +kernel) sh_78 (by omega) (by omega) ?_
    refine w_load (.iload 4) 111 (by decide +kernel) rfl rfl ?_
    refine w_cne 118 114 (by decide +kernel) (fun h3 => ?_) (fun h3 => ?_)
    · skip
      refine w_pushN 0 119 (by decide +kernel) ?_
      exact w_retZ (by decide +kernel) (Or.inl rfl) (hq _ (Or.inl rfl))
    · skip
      refine w_pushN 1 115 (by decide +kernel) ?_
      refine w_goto 119 (by decide +kernel) ?_
      exact w_retZ (by decide +kernel) (Or.inr rfl) (hq _ (Or.inr rfl))
  · rcases (by omega : z2 = 0 ∨ z2 = 1 ∨ z2 = 2) with rfl | rfl | rfl
    · refine ⟨_, 32, rfl, rfl, ?_⟩
      refine w_load (.aload_n 0) 33 (by decide +kernel) rfl rfl ?_
      refine w_getR (k := 2) (r := 78) 36 (by decide +kernel) sh_76 rfl ?_
      refine w_load (.iload 5) 38 (by decide +kernel) rfl rfl ?_
      refine w_pushN 15 40 (by decide +kernel) ?_
      refine w_addN (22 * lv + 15) 41 (by decide +kernel) (by omega) ?_
      refine w_ialdN 42 (by decide +kernel) sh_78 (by omega) (by omega) ?_
      refine w_load (.iload_n 2) 43 (by decide +kernel) rfl rfl ?_
      refine w_callS2 135 2 46 (by decide +kernel) (Nat.le_of_ble_eq_true rfl) rfl rfl (by decide) (by omega) ?_
      refine k_135 hI  (by omega) (fun r4 hr4 => ?_)
      dsimp only [Option.toList, List.cons_append, List.nil_append]
      rcases hr4 with ⟨rfl, hbr4⟩ | ⟨rfl, hbr4⟩
      · skip
        refine w_ine 53 49 (by decide +kernel) (fun _ => ?_) (fun hz => absurd hz (by decide))
        refine w_pushN 0 54 (by decide +kernel) ?_
        exact w_retZ (by decide +kernel) (Or.inl rfl) (hq _ (Or.inl rfl))
      · skip
        refine w_ine 53 49 (by decide +kernel) (fun hz => absurd hz (by decide)) (fun _ => ?_)
        refine w_pushN 1 50 (by decide +kernel) ?_
        refine w_goto 54 (by decide +kernel) ?_
        exact w_retZ (by decide +kernel) (Or.inr rfl) (hq _ (Or.inr rfl))
    · refine ⟨_, 55, rfl, rfl, ?_⟩
      refine w_load (.aload_n 0) 56 (by decide +kernel) rfl rfl ?_
      refine w_getR (k := 2) (r := 78) 59 (by decide +kernel) sh_76 rfl ?_
      refine w_load (.iload 5) 61 (by decide +kernel) rfl rfl ?_
      refine w_pushN 10 63 (by decide +kernel) ?_
      refine w_addN (22 * lv + 10) 64 (by decide +kernel) (by omega) ?_
      refine w_load (.iload_n 2) 65 (by decide +kernel) rfl rfl ?_
      refine w_addN (22 * lv + 10 + g) 66 (by decide +kernel) (by omega) ?_
      refine w_ialdN 67 (by decide +kernel) sh_78 (by omega) (by omega) ?_
      refine w_load (.iload 4) 69 (by decide +kernel) rfl rfl ?_
      refine w_cne 76 72 (by decide +kernel) (fun h7 => ?_) (fun h7 => ?_)
      · skip
        refine w_pushN 0 77 (by decide +kernel) ?_
        exact w_retZ (by decide +kernel) (Or.inl rfl) (hq _ (Or.inl rfl))
      · skip
        refine w_pushN 1 73 (by decide +kernel) ?_
        refine w_goto 77 (by decide +kernel) ?_
        exact w_retZ (by decide +kernel) (Or.inr rfl) (hq _ (Or.inr rfl))
    · refine ⟨_, 78, rfl, rfl, ?_⟩
      refine w_load (.aload_n 0) 79 (by decide +kernel) rfl rfl ?_
      refine w_getR (k := 2) (r := 78) 82 (by decide +kernel) sh_76 rfl ?_
      refine w_load (.iload 5) 84 (by decide +kernel) rfl rfl ?_
      refine w_pushN 5 85 (by decide +kernel) ?_
      refine w_addN (22 * lv + 5) 86 (by decide +kernel) (by omega) ?_
      refine w_load (.iload_n 2) 87 (by decide +kernel) rfl rfl ?_
      refine w_addN (22 * lv + 5 + g) 88 (by decide +kernel) (by omega) ?_
      refine w_ialdN 89 (by decide +kernel) sh_78 (by omega) (by omega) ?_
      refine w_load (.iload 4) 91 (by decide +kernel) rfl rfl ?_
      refine w_clt 98 94 (by decide +kernel) (fun h8 => ?_) (fun h8 => ?_)
      · skip
        refine w_pushN 0 99 (by decide +kernel) ?_
        exact w_retZ (by decide +kernel) (Or.inl rfl) (hq _ (Or.inl rfl))
      · skip
        refine w_pushN 1 95 (by decide +kernel) ?_
        refine w_goto 99 (by decide +kernel) ?_
        exact w_retZ (by decide +kernel) (Or.inr rfl) (hq _ (Or.inr rfl))
-- X8_refusedEnd
set_option maxRecDepth 10000 in
theorem k_170 {d : Nat} {M : Mt} {L : Lt} {Q : Option Value → Mt → Lt → Prop} {g : Int32} {e : Int32} {v : Int32} (hI : Inv M)  (hd : 2 ≤ d) (hq : ∀ (r : Int32), ((r = 0 ∧ ∃ k, k < 5 ∧ g = nI k) ∨ ¬ r = 0) → Q (some (.int r)) M L) : Wp d 170 0 [.ref 76, .int g, .int e, .int v, .null] [] M L Q := by
  refine w_load (.iload_n 2) 1 (by decide +kernel) rfl rfl ?_
  refine w_ieq 51 4 (by decide +kernel) (fun h1 => ?_) (fun h1 => ?_)
  · skip
    refine w_pushN 1 52 (by decide +kernel) ?_
    refine w_goto 56 (by decide +kernel) ?_
    refine w_store (ls' := [.ref 76, .int g, .int e, .int v, .int (nI 1)]) (.istore 4) 58 (by decide +kernel) rfl rfl ?_
    refine w_load (.iload_n 2) 59 (by decide +kernel) rfl rfl ?_
    refine w_pure .i2l 60 (by decide +kernel) rfl rfl ?_
    refine w_pushL (0) 61 (by decide +kernel) ?_
    refine w_pushL (3) 64 (by decide +kernel) ?_
    refine w_callSL 134 6 67 (by decide +kernel) (Nat.le_of_ble_eq_true rfl) rfl (by omega) ?_
    refine k_134 hI  (by omega) (fun r2 hr2 => ?_)
    dsimp only [Option.toList, List.cons_append, List.nil_append]
    rcases hr2 with ⟨rfl, hlok3, hhik3⟩ | ⟨rfl, hnok3⟩
    · skip
      obtain ⟨k3, hlk3, hhk3, rfl⟩ := in_k (lo := 0) (hi := 3) hlok3 hhik3 (by decide)
      refine w_ieq 75 70 (by decide +kernel) (fun hz => absurd hz (by decide)) (fun _ => ?_)
      refine w_load (.iload 4) 72 (by decide +kernel) rfl rfl ?_
      refine w_ine 80 75 (by decide +kernel) (fun _ => ?_) (fun hz => absurd hz (by decide))
      refine w_load (.aload_n 0) 81 (by decide +kernel) rfl rfl ?_
      refine w_load (.iload_n 1) 82 (by decide +kernel) rfl rfl ?_
      refine w_callV1 150 8 2 85 (by decide +kernel) sh_76 (Nat.le_of_ble_eq_true rfl) rfl (by decide) (by omega) ?_
      refine k_150 hI  (by omega) (fun r6 hr6 => ?_)
      dsimp only [Option.toList, List.cons_append, List.nil_append]
      rcases hr6 with ⟨rfl, k7, hk7, rfl⟩ | rfl
      · skip
        refine w_ine 92 88 (by decide +kernel) (fun _ => ?_) (fun hz => absurd hz (by decide))
        refine w_pushN 0 93 (by decide +kernel) ?_
        exact w_ret (by decide +kernel) (hq _ (Or.inl ⟨rfl, _, by assumption, rfl⟩))
      · skip
        refine w_ine 92 88 (by decide +kernel) (fun hz => absurd hz (by decide)) (fun _ => ?_)
        refine w_push (-1) 89 (by decide +kernel) ?_
        refine w_goto 93 (by decide +kernel) ?_
        exact w_ret (by decide +kernel) (hq _ (Or.inr (by decide)))
    · skip
      refine w_ieq 75 70 (by decide +kernel) (fun _ => ?_) (fun hz => absurd hz (by decide))
      refine w_push (-2) 77 (by decide +kernel) ?_
      refine w_goto 93 (by decide +kernel) ?_
      exact w_ret (by decide +kernel) (hq _ (Or.inr (by decide)))
  · skip
    refine w_load (.iload_n 2) 5 (by decide +kernel) rfl rfl ?_
    refine w_pushN 1 6 (by decide +kernel) ?_
    refine w_cne 17 9 (by decide +kernel) (fun h11 => ?_) (fun h11 => ?_)
    · skip
      refine w_load (.iload_n 2) 18 (by decide +kernel) rfl rfl ?_
      refine w_pushN 2 19 (by decide +kernel) ?_
      refine w_cne 34 22 (by decide +kernel) (fun h12 => ?_) (fun h12 => ?_)
      · skip
        refine w_load (.iload_n 2) 35 (by decide +kernel) rfl rfl ?_
        refine w_pushN 3 36 (by decide +kernel) ?_
        refine w_cne 55 39 (by decide +kernel) (fun h13 => ?_) (fun h13 => ?_)
        · skip
          refine w_pushN 0 56 (by decide +kernel) ?_
          refine w_store (ls' := [.ref 76, .int g, .int e, .int v, .int (nI 0)]) (.istore 4) 58 (by decide +kernel) rfl rfl ?_
          refine w_load (.iload_n 2) 59 (by decide +kernel) rfl rfl ?_
          refine w_pure .i2l 60 (by decide +kernel) rfl rfl ?_
          refine w_pushL (0) 61 (by decide +kernel) ?_
          refine w_pushL (3) 64 (by decide +kernel) ?_
          refine w_callSL 134 6 67 (by decide +kernel) (Nat.le_of_ble_eq_true rfl) rfl (by omega) ?_
          refine k_134 hI  (by omega) (fun r14 hr14 => ?_)
          dsimp only [Option.toList, List.cons_append, List.nil_append]
          rcases hr14 with ⟨rfl, hlok15, hhik15⟩ | ⟨rfl, hnok15⟩
          · skip
            obtain ⟨k15, hlk15, hhk15, rfl⟩ := in_k (lo := 0) (hi := 3) hlok15 hhik15 (by decide)
            refine w_ieq 75 70 (by decide +kernel) (fun hz => absurd hz (by decide)) (fun _ => ?_)
            refine w_load (.iload 4) 72 (by decide +kernel) rfl rfl ?_
            refine w_ine 80 75 (by decide +kernel) (fun hz => absurd hz (by decide)) (fun _ => ?_)
            refine w_push (-2) 77 (by decide +kernel) ?_
            refine w_goto 93 (by decide +kernel) ?_
            exact w_ret (by decide +kernel) (hq _ (Or.inr (by decide)))
          · skip
            refine w_ieq 75 70 (by decide +kernel) (fun _ => ?_) (fun hz => absurd hz (by decide))
            refine w_push (-2) 77 (by decide +kernel) ?_
            refine w_goto 93 (by decide +kernel) ?_
            exact w_ret (by decide +kernel) (hq _ (Or.inr (by decide)))
        · skip
          refine w_load (.iload_n 3) 40 (by decide +kernel) rfl rfl ?_
          refine w_pure .i2l 41 (by decide +kernel) rfl rfl ?_
          refine w_pushL (0) 42 (by decide +kernel) ?_
          refine w_pushL (3) 45 (by decide +kernel) ?_
          refine w_callSL 134 6 48 (by decide +kernel) (Nat.le_of_ble_eq_true rfl) rfl (by omega) ?_
          refine k_134 hI  (by omega) (fun r19 hr19 => ?_)
          dsimp only [Option.toList, List.cons_append, List.nil_append]
          rcases hr19 with ⟨rfl, hlok20, hhik20⟩ | ⟨rfl, hnok20⟩
          · skip
            obtain ⟨k20, hlk20, hhk20, rfl⟩ := in_k (lo := 0) (hi := 3) hlok20 hhik20 (by decide)
            refine w_ieq 55 51 (by decide +kernel) (fun hz => absurd hz (by decide)) (fun _ => ?_)
            refine w_pushN 1 52 (by decide +kernel) ?_
            refine w_goto 56 (by decide +kernel) ?_
            refine w_store (ls' := [.ref 76, .int g, .int e, .int (nI k20), .int (nI 1)]) (.istore 4) 58 (by decide +kernel) rfl rfl ?_
            refine w_load (.iload_n 2) 59 (by decide +kernel) rfl rfl ?_
            refine w_pure .i2l 60 (by decide +kernel) rfl rfl ?_
            refine w_pushL (0) 61 (by decide +kernel) ?_
            refine w_pushL (3) 64 (by decide +kernel) ?_
            refine w_callSL 134 6 67 (by decide +kernel) (Nat.le_of_ble_eq_true rfl) rfl (by omega) ?_
            refine k_134 hI  (by omega) (fun r22 hr22 => ?_)
            dsimp only [Option.toList, List.cons_append, List.nil_append]
            rcases hr22 with ⟨rfl, hlok23, hhik23⟩ | ⟨rfl, hnok23⟩
            · skip
              obtain ⟨k23, hlk23, hhk23, rfl⟩ := in_k (lo := 0) (hi := 3) hlok23 hhik23 (by decide)
              refine w_ieq 75 70 (by decide +kernel) (fun hz => absurd hz (by decide)) (fun _ => ?_)
              refine w_load (.iload 4) 72 (by decide +kernel) rfl rfl ?_
              refine w_ine 80 75 (by decide +kernel) (fun _ => ?_) (fun hz => absurd hz (by decide))
              refine w_load (.aload_n 0) 81 (by decide +kernel) rfl rfl ?_
              refine w_load (.iload_n 1) 82 (by decide +kernel) rfl rfl ?_
              refine w_callV1 150 8 2 85 (by decide +kernel) sh_76 (Nat.le_of_ble_eq_true rfl) rfl (by decide) (by omega) ?_
              refine k_150 hI  (by omega) (fun r26 hr26 => ?_)
              dsimp only [Option.toList, List.cons_append, List.nil_append]
              rcases hr26 with ⟨rfl, k27, hk27, rfl⟩ | rfl
              · skip
                refine w_ine 92 88 (by decide +kernel) (fun _ => ?_) (fun hz => absurd hz (by decide))
                refine w_pushN 0 93 (by decide +kernel) ?_
                exact w_ret (by decide +kernel) (hq _ (Or.inl ⟨rfl, _, by assumption, rfl⟩))
              · skip
                refine w_ine 92 88 (by decide +kernel) (fun hz => absurd hz (by decide)) (fun _ => ?_)
                refine w_push (-1) 89 (by decide +kernel) ?_
                refine w_goto 93 (by decide +kernel) ?_
                exact w_ret (by decide +kernel) (hq _ (Or.inr (by decide)))
            · skip
              refine w_ieq 75 70 (by decide +kernel) (fun _ => ?_) (fun hz => absurd hz (by decide))
              refine w_push (-2) 77 (by decide +kernel) ?_
              refine w_goto 93 (by decide +kernel) ?_
              exact w_ret (by decide +kernel) (hq _ (Or.inr (by decide)))
          · skip
            refine w_ieq 55 51 (by decide +kernel) (fun _ => ?_) (fun hz => absurd hz (by decide))
            refine w_pushN 0 56 (by decide +kernel) ?_
            refine w_store (ls' := [.ref 76, .int g, .int e, .int v, .int (nI 0)]) (.istore 4) 58 (by decide +kernel) rfl rfl ?_
            refine w_load (.iload_n 2) 59 (by decide +kernel) rfl rfl ?_
            refine w_pure .i2l 60 (by decide +kernel) rfl rfl ?_
            refine w_pushL (0) 61 (by decide +kernel) ?_
            refine w_pushL (3) 64 (by decide +kernel) ?_
            refine w_callSL 134 6 67 (by decide +kernel) (Nat.le_of_ble_eq_true rfl) rfl (by omega) ?_
            refine k_134 hI  (by omega) (fun r32 hr32 => ?_)
            dsimp only [Option.toList, List.cons_append, List.nil_append]
            rcases hr32 with ⟨rfl, hlok33, hhik33⟩ | ⟨rfl, hnok33⟩
            · skip
              obtain ⟨k33, hlk33, hhk33, rfl⟩ := in_k (lo := 0) (hi := 3) hlok33 hhik33 (by decide)
              refine w_ieq 75 70 (by decide +kernel) (fun hz => absurd hz (by decide)) (fun _ => ?_)
              refine w_load (.iload 4) 72 (by decide +kernel) rfl rfl ?_
              refine w_ine 80 75 (by decide +kernel) (fun hz => absurd hz (by decide)) (fun _ => ?_)
              refine w_push (-2) 77 (by decide +kernel) ?_
              refine w_goto 93 (by decide +kernel) ?_
              exact w_ret (by decide +kernel) (hq _ (Or.inr (by decide)))
            · skip
              refine w_ieq 75 70 (by decide +kernel) (fun _ => ?_) (fun hz => absurd hz (by decide))
              refine w_push (-2) 77 (by decide +kernel) ?_
              refine w_goto 93 (by decide +kernel) ?_
              exact w_ret (by decide +kernel) (hq _ (Or.inr (by decide)))
      · skip
        refine w_load (.iload_n 3) 23 (by decide +kernel) rfl rfl ?_
        refine w_pure .i2l 24 (by decide +kernel) rfl rfl ?_
        refine w_pushL (0) 25 (by decide +kernel) ?_
        refine w_pushL (20) 28 (by decide +kernel) ?_
        refine w_callSL 134 6 31 (by decide +kernel) (Nat.le_of_ble_eq_true rfl) rfl (by omega) ?_
        refine k_134 hI  (by omega) (fun r37 hr37 => ?_)
        dsimp only [Option.toList, List.cons_append, List.nil_append]
        rcases hr37 with ⟨rfl, hlok38, hhik38⟩ | ⟨rfl, hnok38⟩
        · skip
          obtain ⟨k38, hlk38, hhk38, rfl⟩ := in_k (lo := 0) (hi := 20) hlok38 hhik38 (by decide)
          refine w_ine 51 34 (by decide +kernel) (fun _ => ?_) (fun hz => absurd hz (by decide))
          refine w_pushN 1 52 (by decide +kernel) ?_
          refine w_goto 56 (by decide +kernel) ?_
          refine w_store (ls' := [.ref 76, .int g, .int e, .int (nI k38), .int (nI 1)]) (.istore 4) 58 (by decide +kernel) rfl rfl ?_
          refine w_load (.iload_n 2) 59 (by decide +kernel) rfl rfl ?_
          refine w_pure .i2l 60 (by decide +kernel) rfl rfl ?_
          refine w_pushL (0) 61 (by decide +kernel) ?_
          refine w_pushL (3) 64 (by decide +kernel) ?_
          refine w_callSL 134 6 67 (by decide +kernel) (Nat.le_of_ble_eq_true rfl) rfl (by omega) ?_
          refine k_134 hI  (by omega) (fun r40 hr40 => ?_)
          dsimp only [Option.toList, List.cons_append, List.nil_append]
          rcases hr40 with ⟨rfl, hlok41, hhik41⟩ | ⟨rfl, hnok41⟩
          · skip
            obtain ⟨k41, hlk41, hhk41, rfl⟩ := in_k (lo := 0) (hi := 3) hlok41 hhik41 (by decide)
            refine w_ieq 75 70 (by decide +kernel) (fun hz => absurd hz (by decide)) (fun _ => ?_)
            refine w_load (.iload 4) 72 (by decide +kernel) rfl rfl ?_
            refine w_ine 80 75 (by decide +kernel) (fun _ => ?_) (fun hz => absurd hz (by decide))
            refine w_load (.aload_n 0) 81 (by decide +kernel) rfl rfl ?_
            refine w_load (.iload_n 1) 82 (by decide +kernel) rfl rfl ?_
            refine w_callV1 150 8 2 85 (by decide +kernel) sh_76 (Nat.le_of_ble_eq_true rfl) rfl (by decide) (by omega) ?_
            refine k_150 hI  (by omega) (fun r44 hr44 => ?_)
            dsimp only [Option.toList, List.cons_append, List.nil_append]
            rcases hr44 with ⟨rfl, k45, hk45, rfl⟩ | rfl
            · skip
              refine w_ine 92 88 (by decide +kernel) (fun _ => ?_) (fun hz => absurd hz (by decide))
              refine w_pushN 0 93 (by decide +kernel) ?_
              exact w_ret (by decide +kernel) (hq _ (Or.inl ⟨rfl, _, by assumption, rfl⟩))
            · skip
              refine w_ine 92 88 (by decide +kernel) (fun hz => absurd hz (by decide)) (fun _ => ?_)
              refine w_push (-1) 89 (by decide +kernel) ?_
              refine w_goto 93 (by decide +kernel) ?_
              exact w_ret (by decide +kernel) (hq _ (Or.inr (by decide)))
          · skip
            refine w_ieq 75 70 (by decide +kernel) (fun _ => ?_) (fun hz => absurd hz (by decide))
            refine w_push (-2) 77 (by decide +kernel) ?_
            refine w_goto 93 (by decide +kernel) ?_
            exact w_ret (by decide +kernel) (hq _ (Or.inr (by decide)))
        · skip
          refine w_ine 51 34 (by decide +kernel) (fun hz => absurd hz (by decide)) (fun _ => ?_)
          refine w_load (.iload_n 2) 35 (by decide +kernel) rfl rfl ?_
          refine w_pushN 3 36 (by decide +kernel) ?_
          refine w_cne 55 39 (by decide +kernel) (fun h50 => ?_) (fun h50 => ?_)
          · skip
            refine w_pushN 0 56 (by decide +kernel) ?_
            refine w_store (ls' := [.ref 76, .int g, .int e, .int v, .int (nI 0)]) (.istore 4) 58 (by decide +kernel) rfl rfl ?_
            refine w_load (.iload_n 2) 59 (by decide +kernel) rfl rfl ?_
            refine w_pure .i2l 60 (by decide +kernel) rfl rfl ?_
            refine w_pushL (0) 61 (by decide +kernel) ?_
            refine w_pushL (3) 64 (by decide +kernel) ?_
            refine w_callSL 134 6 67 (by decide +kernel) (Nat.le_of_ble_eq_true rfl) rfl (by omega) ?_
            refine k_134 hI  (by omega) (fun r51 hr51 => ?_)
            dsimp only [Option.toList, List.cons_append, List.nil_append]
            rcases hr51 with ⟨rfl, hlok52, hhik52⟩ | ⟨rfl, hnok52⟩
            · skip
              obtain ⟨k52, hlk52, hhk52, rfl⟩ := in_k (lo := 0) (hi := 3) hlok52 hhik52 (by decide)
              refine w_ieq 75 70 (by decide +kernel) (fun hz => absurd hz (by decide)) (fun _ => ?_)
              refine w_load (.iload 4) 72 (by decide +kernel) rfl rfl ?_
              refine w_ine 80 75 (by decide +kernel) (fun hz => absurd hz (by decide)) (fun _ => ?_)
              refine w_push (-2) 77 (by decide +kernel) ?_
              refine w_goto 93 (by decide +kernel) ?_
              exact w_ret (by decide +kernel) (hq _ (Or.inr (by decide)))
            · skip
              refine w_ieq 75 70 (by decide +kernel) (fun _ => ?_) (fun hz => absurd hz (by decide))
              refine w_push (-2) 77 (by decide +kernel) ?_
              refine w_goto 93 (by decide +kernel) ?_
              exact w_ret (by decide +kernel) (hq _ (Or.inr (by decide)))
          · skip
            refine w_load (.iload_n 3) 40 (by decide +kernel) rfl rfl ?_
            refine w_pure .i2l 41 (by decide +kernel) rfl rfl ?_
            refine w_pushL (0) 42 (by decide +kernel) ?_
            refine w_pushL (3) 45 (by decide +kernel) ?_
            refine w_callSL 134 6 48 (by decide +kernel) (Nat.le_of_ble_eq_true rfl) rfl (by omega) ?_
            refine k_134 hI  (by omega) (fun r56 hr56 => ?_)
            dsimp only [Option.toList, List.cons_append, List.nil_append]
            rcases hr56 with ⟨rfl, hlok57, hhik57⟩ | ⟨rfl, hnok57⟩
            · skip
              obtain ⟨k57, hlk57, hhk57, rfl⟩ := in_k (lo := 0) (hi := 3) hlok57 hhik57 (by decide)
              refine w_ieq 55 51 (by decide +kernel) (fun hz => absurd hz (by decide)) (fun _ => ?_)
              refine w_pushN 1 52 (by decide +kernel) ?_
              refine w_goto 56 (by decide +kernel) ?_
              refine w_store (ls' := [.ref 76, .int g, .int e, .int (nI k57), .int (nI 1)]) (.istore 4) 58 (by decide +kernel) rfl rfl ?_
              refine w_load (.iload_n 2) 59 (by decide +kernel) rfl rfl ?_
              refine w_pure .i2l 60 (by decide +kernel) rfl rfl ?_
              refine w_pushL (0) 61 (by decide +kernel) ?_
              refine w_pushL (3) 64 (by decide +kernel) ?_
              refine w_callSL 134 6 67 (by decide +kernel) (Nat.le_of_ble_eq_true rfl) rfl (by omega) ?_
              refine k_134 hI  (by omega) (fun r59 hr59 => ?_)
              dsimp only [Option.toList, List.cons_append, List.nil_append]
              rcases hr59 with ⟨rfl, hlok60, hhik60⟩ | ⟨rfl, hnok60⟩
              · skip
                obtain ⟨k60, hlk60, hhk60, rfl⟩ := in_k (lo := 0) (hi := 3) hlok60 hhik60 (by decide)
                refine w_ieq 75 70 (by decide +kernel) (fun hz => absurd hz (by decide)) (fun _ => ?_)
                refine w_load (.iload 4) 72 (by decide +kernel) rfl rfl ?_
                refine w_ine 80 75 (by decide +kernel) (fun _ => ?_) (fun hz => absurd hz (by decide))
                refine w_load (.aload_n 0) 81 (by decide +kernel) rfl rfl ?_
                refine w_load (.iload_n 1) 82 (by decide +kernel) rfl rfl ?_
                refine w_callV1 150 8 2 85 (by decide +kernel) sh_76 (Nat.le_of_ble_eq_true rfl) rfl (by decide) (by omega) ?_
                refine k_150 hI  (by omega) (fun r63 hr63 => ?_)
                dsimp only [Option.toList, List.cons_append, List.nil_append]
                rcases hr63 with ⟨rfl, k64, hk64, rfl⟩ | rfl
                · skip
                  refine w_ine 92 88 (by decide +kernel) (fun _ => ?_) (fun hz => absurd hz (by decide))
                  refine w_pushN 0 93 (by decide +kernel) ?_
                  exact w_ret (by decide +kernel) (hq _ (Or.inl ⟨rfl, _, by assumption, rfl⟩))
                · skip
                  refine w_ine 92 88 (by decide +kernel) (fun hz => absurd hz (by decide)) (fun _ => ?_)
                  refine w_push (-1) 89 (by decide +kernel) ?_
                  refine w_goto 93 (by decide +kernel) ?_
                  exact w_ret (by decide +kernel) (hq _ (Or.inr (by decide)))
              · skip
                refine w_ieq 75 70 (by decide +kernel) (fun _ => ?_) (fun hz => absurd hz (by decide))
                refine w_push (-2) 77 (by decide +kernel) ?_
                refine w_goto 93 (by decide +kernel) ?_
                exact w_ret (by decide +kernel) (hq _ (Or.inr (by decide)))
            · skip
              refine w_ieq 55 51 (by decide +kernel) (fun _ => ?_) (fun hz => absurd hz (by decide))
              refine w_pushN 0 56 (by decide +kernel) ?_
              refine w_store (ls' := [.ref 76, .int g, .int e, .int v, .int (nI 0)]) (.istore 4) 58 (by decide +kernel) rfl rfl ?_
              refine w_load (.iload_n 2) 59 (by decide +kernel) rfl rfl ?_
              refine w_pure .i2l 60 (by decide +kernel) rfl rfl ?_
              refine w_pushL (0) 61 (by decide +kernel) ?_
              refine w_pushL (3) 64 (by decide +kernel) ?_
              refine w_callSL 134 6 67 (by decide +kernel) (Nat.le_of_ble_eq_true rfl) rfl (by omega) ?_
              refine k_134 hI  (by omega) (fun r69 hr69 => ?_)
              dsimp only [Option.toList, List.cons_append, List.nil_append]
              rcases hr69 with ⟨rfl, hlok70, hhik70⟩ | ⟨rfl, hnok70⟩
              · skip
                obtain ⟨k70, hlk70, hhk70, rfl⟩ := in_k (lo := 0) (hi := 3) hlok70 hhik70 (by decide)
                refine w_ieq 75 70 (by decide +kernel) (fun hz => absurd hz (by decide)) (fun _ => ?_)
                refine w_load (.iload 4) 72 (by decide +kernel) rfl rfl ?_
                refine w_ine 80 75 (by decide +kernel) (fun hz => absurd hz (by decide)) (fun _ => ?_)
                refine w_push (-2) 77 (by decide +kernel) ?_
                refine w_goto 93 (by decide +kernel) ?_
                exact w_ret (by decide +kernel) (hq _ (Or.inr (by decide)))
              · skip
                refine w_ieq 75 70 (by decide +kernel) (fun _ => ?_) (fun hz => absurd hz (by decide))
                refine w_push (-2) 77 (by decide +kernel) ?_
                refine w_goto 93 (by decide +kernel) ?_
                exact w_ret (by decide +kernel) (hq _ (Or.inr (by decide)))
    · skip
      refine w_load (.aload_n 0) 10 (by decide +kernel) rfl rfl ?_
      refine w_load (.iload_n 3) 11 (by decide +kernel) rfl rfl ?_
      refine w_callV1 150 8 2 14 (by decide +kernel) sh_76 (Nat.le_of_ble_eq_true rfl) rfl (by decide) (by omega) ?_
      refine k_150 hI  (by omega) (fun r74 hr74 => ?_)
      dsimp only [Option.toList, List.cons_append, List.nil_append]
      rcases hr74 with ⟨rfl, k75, hk75, rfl⟩ | rfl
      · skip
        refine w_ine 51 17 (by decide +kernel) (fun _ => ?_) (fun hz => absurd hz (by decide))
        refine w_pushN 1 52 (by decide +kernel) ?_
        refine w_goto 56 (by decide +kernel) ?_
        refine w_store (ls' := [.ref 76, .int g, .int e, .int (nI k75), .int (nI 1)]) (.istore 4) 58 (by decide +kernel) rfl rfl ?_
        refine w_load (.iload_n 2) 59 (by decide +kernel) rfl rfl ?_
        refine w_pure .i2l 60 (by decide +kernel) rfl rfl ?_
        refine w_pushL (0) 61 (by decide +kernel) ?_
        refine w_pushL (3) 64 (by decide +kernel) ?_
        refine w_callSL 134 6 67 (by decide +kernel) (Nat.le_of_ble_eq_true rfl) rfl (by omega) ?_
        refine k_134 hI  (by omega) (fun r77 hr77 => ?_)
        dsimp only [Option.toList, List.cons_append, List.nil_append]
        rcases hr77 with ⟨rfl, hlok78, hhik78⟩ | ⟨rfl, hnok78⟩
        · skip
          obtain ⟨k78, hlk78, hhk78, rfl⟩ := in_k (lo := 0) (hi := 3) hlok78 hhik78 (by decide)
          refine w_ieq 75 70 (by decide +kernel) (fun hz => absurd hz (by decide)) (fun _ => ?_)
          refine w_load (.iload 4) 72 (by decide +kernel) rfl rfl ?_
          refine w_ine 80 75 (by decide +kernel) (fun _ => ?_) (fun hz => absurd hz (by decide))
          refine w_load (.aload_n 0) 81 (by decide +kernel) rfl rfl ?_
          refine w_load (.iload_n 1) 82 (by decide +kernel) rfl rfl ?_
          refine w_callV1 150 8 2 85 (by decide +kernel) sh_76 (Nat.le_of_ble_eq_true rfl) rfl (by decide) (by omega) ?_
          refine k_150 hI  (by omega) (fun r81 hr81 => ?_)
          dsimp only [Option.toList, List.cons_append, List.nil_append]
          rcases hr81 with ⟨rfl, k82, hk82, rfl⟩ | rfl
          · skip
            refine w_ine 92 88 (by decide +kernel) (fun _ => ?_) (fun hz => absurd hz (by decide))
            refine w_pushN 0 93 (by decide +kernel) ?_
            exact w_ret (by decide +kernel) (hq _ (Or.inl ⟨rfl, _, by assumption, rfl⟩))
          · skip
            refine w_ine 92 88 (by decide +kernel) (fun hz => absurd hz (by decide)) (fun _ => ?_)
            refine w_push (-1) 89 (by decide +kernel) ?_
            refine w_goto 93 (by decide +kernel) ?_
            exact w_ret (by decide +kernel) (hq _ (Or.inr (by decide)))
        · skip
          refine w_ieq 75 70 (by decide +kernel) (fun _ => ?_) (fun hz => absurd hz (by decide))
          refine w_push (-2) 77 (by decide +kernel) ?_
          refine w_goto 93 (by decide +kernel) ?_
          exact w_ret (by decide +kernel) (hq _ (Or.inr (by decide)))
      · skip
        refine w_ine 51 17 (by decide +kernel) (fun hz => absurd hz (by decide)) (fun _ => ?_)
        refine w_load (.iload_n 2) 18 (by decide +kernel) rfl rfl ?_
        refine w_pushN 2 19 (by decide +kernel) ?_
        refine w_cne 34 22 (by decide +kernel) (fun h87 => ?_) (fun h87 => ?_)
        · skip
          refine w_load (.iload_n 2) 35 (by decide +kernel) rfl rfl ?_
          refine w_pushN 3 36 (by decide +kernel) ?_
          refine w_cne 55 39 (by decide +kernel) (fun h88 => ?_) (fun h88 => ?_)
          · skip
            refine w_pushN 0 56 (by decide +kernel) ?_
            refine w_store (ls' := [.ref 76, .int g, .int e, .int v, .int (nI 0)]) (.istore 4) 58 (by decide +kernel) rfl rfl ?_
            refine w_load (.iload_n 2) 59 (by decide +kernel) rfl rfl ?_
            refine w_pure .i2l 60 (by decide +kernel) rfl rfl ?_
            refine w_pushL (0) 61 (by decide +kernel) ?_
            refine w_pushL (3) 64 (by decide +kernel) ?_
            refine w_callSL 134 6 67 (by decide +kernel) (Nat.le_of_ble_eq_true rfl) rfl (by omega) ?_
            refine k_134 hI  (by omega) (fun r89 hr89 => ?_)
            dsimp only [Option.toList, List.cons_append, List.nil_append]
            rcases hr89 with ⟨rfl, hlok90, hhik90⟩ | ⟨rfl, hnok90⟩
            · skip
              obtain ⟨k90, hlk90, hhk90, rfl⟩ := in_k (lo := 0) (hi := 3) hlok90 hhik90 (by decide)
              refine w_ieq 75 70 (by decide +kernel) (fun hz => absurd hz (by decide)) (fun _ => ?_)
              refine w_load (.iload 4) 72 (by decide +kernel) rfl rfl ?_
              refine w_ine 80 75 (by decide +kernel) (fun hz => absurd hz (by decide)) (fun _ => ?_)
              refine w_push (-2) 77 (by decide +kernel) ?_
              refine w_goto 93 (by decide +kernel) ?_
              exact w_ret (by decide +kernel) (hq _ (Or.inr (by decide)))
            · skip
              refine w_ieq 75 70 (by decide +kernel) (fun _ => ?_) (fun hz => absurd hz (by decide))
              refine w_push (-2) 77 (by decide +kernel) ?_
              refine w_goto 93 (by decide +kernel) ?_
              exact w_ret (by decide +kernel) (hq _ (Or.inr (by decide)))
          · skip
            refine w_load (.iload_n 3) 40 (by decide +kernel) rfl rfl ?_
            refine w_pure .i2l 41 (by decide +kernel) rfl rfl ?_
            refine w_pushL (0) 42 (by decide +kernel) ?_
            refine w_pushL (3) 45 (by decide +kernel) ?_
            refine w_callSL 134 6 48 (by decide +kernel) (Nat.le_of_ble_eq_true rfl) rfl (by omega) ?_
            refine k_134 hI  (by omega) (fun r94 hr94 => ?_)
            dsimp only [Option.toList, List.cons_append, List.nil_append]
            rcases hr94 with ⟨rfl, hlok95, hhik95⟩ | ⟨rfl, hnok95⟩
            · skip
              obtain ⟨k95, hlk95, hhk95, rfl⟩ := in_k (lo := 0) (hi := 3) hlok95 hhik95 (by decide)
              refine w_ieq 55 51 (by decide +kernel) (fun hz => absurd hz (by decide)) (fun _ => ?_)
              refine w_pushN 1 52 (by decide +kernel) ?_
              refine w_goto 56 (by decide +kernel) ?_
              refine w_store (ls' := [.ref 76, .int g, .int e, .int (nI k95), .int (nI 1)]) (.istore 4) 58 (by decide +kernel) rfl rfl ?_
              refine w_load (.iload_n 2) 59 (by decide +kernel) rfl rfl ?_
              refine w_pure .i2l 60 (by decide +kernel) rfl rfl ?_
              refine w_pushL (0) 61 (by decide +kernel) ?_
              refine w_pushL (3) 64 (by decide +kernel) ?_
              refine w_callSL 134 6 67 (by decide +kernel) (Nat.le_of_ble_eq_true rfl) rfl (by omega) ?_
              refine k_134 hI  (by omega) (fun r97 hr97 => ?_)
              dsimp only [Option.toList, List.cons_append, List.nil_append]
              rcases hr97 with ⟨rfl, hlok98, hhik98⟩ | ⟨rfl, hnok98⟩
              · skip
                obtain ⟨k98, hlk98, hhk98, rfl⟩ := in_k (lo := 0) (hi := 3) hlok98 hhik98 (by decide)
                refine w_ieq 75 70 (by decide +kernel) (fun hz => absurd hz (by decide)) (fun _ => ?_)
                refine w_load (.iload 4) 72 (by decide +kernel) rfl rfl ?_
                refine w_ine 80 75 (by decide +kernel) (fun _ => ?_) (fun hz => absurd hz (by decide))
                refine w_load (.aload_n 0) 81 (by decide +kernel) rfl rfl ?_
                refine w_load (.iload_n 1) 82 (by decide +kernel) rfl rfl ?_
                refine w_callV1 150 8 2 85 (by decide +kernel) sh_76 (Nat.le_of_ble_eq_true rfl) rfl (by decide) (by omega) ?_
                refine k_150 hI  (by omega) (fun r101 hr101 => ?_)
                dsimp only [Option.toList, List.cons_append, List.nil_append]
                rcases hr101 with ⟨rfl, k102, hk102, rfl⟩ | rfl
                · skip
                  refine w_ine 92 88 (by decide +kernel) (fun _ => ?_) (fun hz => absurd hz (by decide))
                  refine w_pushN 0 93 (by decide +kernel) ?_
                  exact w_ret (by decide +kernel) (hq _ (Or.inl ⟨rfl, _, by assumption, rfl⟩))
                · skip
                  refine w_ine 92 88 (by decide +kernel) (fun hz => absurd hz (by decide)) (fun _ => ?_)
                  refine w_push (-1) 89 (by decide +kernel) ?_
                  refine w_goto 93 (by decide +kernel) ?_
                  exact w_ret (by decide +kernel) (hq _ (Or.inr (by decide)))
              · skip
                refine w_ieq 75 70 (by decide +kernel) (fun _ => ?_) (fun hz => absurd hz (by decide))
                refine w_push (-2) 77 (by decide +kernel) ?_
                refine w_goto 93 (by decide +kernel) ?_
                exact w_ret (by decide +kernel) (hq _ (Or.inr (by decide)))
            · skip
              refine w_ieq 55 51 (by decide +kernel) (fun _ => ?_) (fun hz => absurd hz (by decide))
              refine w_pushN 0 56 (by decide +kernel) ?_
              refine w_store (ls' := [.ref 76, .int g, .int e, .int v, .int (nI 0)]) (.istore 4) 58 (by decide +kernel) rfl rfl ?_
              refine w_load (.iload_n 2) 59 (by decide +kernel) rfl rfl ?_
              refine w_pure .i2l 60 (by decide +kernel) rfl rfl ?_
              refine w_pushL (0) 61 (by decide +kernel) ?_
              refine w_pushL (3) 64 (by decide +kernel) ?_
              refine w_callSL 134 6 67 (by decide +kernel) (Nat.le_of_ble_eq_true rfl) rfl (by omega) ?_
              refine k_134 hI  (by omega) (fun r107 hr107 => ?_)
              dsimp only [Option.toList, List.cons_append, List.nil_append]
              rcases hr107 with ⟨rfl, hlok108, hhik108⟩ | ⟨rfl, hnok108⟩
              · skip
                obtain ⟨k108, hlk108, hhk108, rfl⟩ := in_k (lo := 0) (hi := 3) hlok108 hhik108 (by decide)
                refine w_ieq 75 70 (by decide +kernel) (fun hz => absurd hz (by decide)) (fun _ => ?_)
                refine w_load (.iload 4) 72 (by decide +kernel) rfl rfl ?_
                refine w_ine 80 75 (by decide +kernel) (fun hz => absurd hz (by decide)) (fun _ => ?_)
                refine w_push (-2) 77 (by decide +kernel) ?_
                refine w_goto 93 (by decide +kernel) ?_
                exact w_ret (by decide +kernel) (hq _ (Or.inr (by decide)))
              · skip
                refine w_ieq 75 70 (by decide +kernel) (fun _ => ?_) (fun hz => absurd hz (by decide))
                refine w_push (-2) 77 (by decide +kernel) ?_
                refine w_goto 93 (by decide +kernel) ?_
                exact w_ret (by decide +kernel) (hq _ (Or.inr (by decide)))
        · skip
          refine w_load (.iload_n 3) 23 (by decide +kernel) rfl rfl ?_
          refine w_pure .i2l 24 (by decide +kernel) rfl rfl ?_
          refine w_pushL (0) 25 (by decide +kernel) ?_
          refine w_pushL (20) 28 (by decide +kernel) ?_
          refine w_callSL 134 6 31 (by decide +kernel) (Nat.le_of_ble_eq_true rfl) rfl (by omega) ?_
          refine k_134 hI  (by omega) (fun r112 hr112 => ?_)
          dsimp only [Option.toList, List.cons_append, List.nil_append]
          rcases hr112 with ⟨rfl, hlok113, hhik113⟩ | ⟨rfl, hnok113⟩
          · skip
            obtain ⟨k113, hlk113, hhk113, rfl⟩ := in_k (lo := 0) (hi := 20) hlok113 hhik113 (by decide)
            refine w_ine 51 34 (by decide +kernel) (fun _ => ?_) (fun hz => absurd hz (by decide))
            refine w_pushN 1 52 (by decide +kernel) ?_
            refine w_goto 56 (by decide +kernel) ?_
            refine w_store (ls' := [.ref 76, .int g, .int e, .int (nI k113), .int (nI 1)]) (.istore 4) 58 (by decide +kernel) rfl rfl ?_
            refine w_load (.iload_n 2) 59 (by decide +kernel) rfl rfl ?_
            refine w_pure .i2l 60 (by decide +kernel) rfl rfl ?_
            refine w_pushL (0) 61 (by decide +kernel) ?_
            refine w_pushL (3) 64 (by decide +kernel) ?_
            refine w_callSL 134 6 67 (by decide +kernel) (Nat.le_of_ble_eq_true rfl) rfl (by omega) ?_
            refine k_134 hI  (by omega) (fun r115 hr115 => ?_)
            dsimp only [Option.toList, List.cons_append, List.nil_append]
            rcases hr115 with ⟨rfl, hlok116, hhik116⟩ | ⟨rfl, hnok116⟩
            · skip
              obtain ⟨k116, hlk116, hhk116, rfl⟩ := in_k (lo := 0) (hi := 3) hlok116 hhik116 (by decide)
              refine w_ieq 75 70 (by decide +kernel) (fun hz => absurd hz (by decide)) (fun _ => ?_)
              refine w_load (.iload 4) 72 (by decide +kernel) rfl rfl ?_
              refine w_ine 80 75 (by decide +kernel) (fun _ => ?_) (fun hz => absurd hz (by decide))
              refine w_load (.aload_n 0) 81 (by decide +kernel) rfl rfl ?_
              refine w_load (.iload_n 1) 82 (by decide +kernel) rfl rfl ?_
              refine w_callV1 150 8 2 85 (by decide +kernel) sh_76 (Nat.le_of_ble_eq_true rfl) rfl (by decide) (by omega) ?_
              refine k_150 hI  (by omega) (fun r119 hr119 => ?_)
              dsimp only [Option.toList, List.cons_append, List.nil_append]
              rcases hr119 with ⟨rfl, k120, hk120, rfl⟩ | rfl
              · skip
                refine w_ine 92 88 (by decide +kernel) (fun _ => ?_) (fun hz => absurd hz (by decide))
                refine w_pushN 0 93 (by decide +kernel) ?_
                exact w_ret (by decide +kernel) (hq _ (Or.inl ⟨rfl, _, by assumption, rfl⟩))
              · skip
                refine w_ine 92 88 (by decide +kernel) (fun hz => absurd hz (by decide)) (fun _ => ?_)
                refine w_push (-1) 89 (by decide +kernel) ?_
                refine w_goto 93 (by decide +kernel) ?_
                exact w_ret (by decide +kernel) (hq _ (Or.inr (by decide)))
            · skip
              refine w_ieq 75 70 (by decide +kernel) (fun _ => ?_) (fun hz => absurd hz (by decide))
              refine w_push (-2) 77 (by decide +kernel) ?_
              refine w_goto 93 (by decide +kernel) ?_
              exact w_ret (by decide +kernel) (hq _ (Or.inr (by decide)))
          · skip
            refine w_ine 51 34 (by decide +kernel) (fun hz => absurd hz (by decide)) (fun _ => ?_)
            refine w_load (.iload_n 2) 35 (by decide +kernel) rfl rfl ?_
            refine w_pushN 3 36 (by decide +kernel) ?_
            refine w_cne 55 39 (by decide +kernel) (fun h125 => ?_) (fun h125 => ?_)
            · skip
              refine w_pushN 0 56 (by decide +kernel) ?_
              refine w_store (ls' := [.ref 76, .int g, .int e, .int v, .int (nI 0)]) (.istore 4) 58 (by decide +kernel) rfl rfl ?_
              refine w_load (.iload_n 2) 59 (by decide +kernel) rfl rfl ?_
              refine w_pure .i2l 60 (by decide +kernel) rfl rfl ?_
              refine w_pushL (0) 61 (by decide +kernel) ?_
              refine w_pushL (3) 64 (by decide +kernel) ?_
              refine w_callSL 134 6 67 (by decide +kernel) (Nat.le_of_ble_eq_true rfl) rfl (by omega) ?_
              refine k_134 hI  (by omega) (fun r126 hr126 => ?_)
              dsimp only [Option.toList, List.cons_append, List.nil_append]
              rcases hr126 with ⟨rfl, hlok127, hhik127⟩ | ⟨rfl, hnok127⟩
              · skip
                obtain ⟨k127, hlk127, hhk127, rfl⟩ := in_k (lo := 0) (hi := 3) hlok127 hhik127 (by decide)
                refine w_ieq 75 70 (by decide +kernel) (fun hz => absurd hz (by decide)) (fun _ => ?_)
                refine w_load (.iload 4) 72 (by decide +kernel) rfl rfl ?_
                refine w_ine 80 75 (by decide +kernel) (fun hz => absurd hz (by decide)) (fun _ => ?_)
                refine w_push (-2) 77 (by decide +kernel) ?_
                refine w_goto 93 (by decide +kernel) ?_
                exact w_ret (by decide +kernel) (hq _ (Or.inr (by decide)))
              · skip
                refine w_ieq 75 70 (by decide +kernel) (fun _ => ?_) (fun hz => absurd hz (by decide))
                refine w_push (-2) 77 (by decide +kernel) ?_
                refine w_goto 93 (by decide +kernel) ?_
                exact w_ret (by decide +kernel) (hq _ (Or.inr (by decide)))
            · skip
              refine w_load (.iload_n 3) 40 (by decide +kernel) rfl rfl ?_
              refine w_pure .i2l 41 (by decide +kernel) rfl rfl ?_
              refine w_pushL (0) 42 (by decide +kernel) ?_
              refine w_pushL (3) 45 (by decide +kernel) ?_
              refine w_callSL 134 6 48 (by decide +kernel) (Nat.le_of_ble_eq_true rfl) rfl (by omega) ?_
              refine k_134 hI  (by omega) (fun r131 hr131 => ?_)
              dsimp only [Option.toList, List.cons_append, List.nil_append]
              rcases hr131 with ⟨rfl, hlok132, hhik132⟩ | ⟨rfl, hnok132⟩
              · skip
                obtain ⟨k132, hlk132, hhk132, rfl⟩ := in_k (lo := 0) (hi := 3) hlok132 hhik132 (by decide)
                refine w_ieq 55 51 (by decide +kernel) (fun hz => absurd hz (by decide)) (fun _ => ?_)
                refine w_pushN 1 52 (by decide +kernel) ?_
                refine w_goto 56 (by decide +kernel) ?_
                refine w_store (ls' := [.ref 76, .int g, .int e, .int (nI k132), .int (nI 1)]) (.istore 4) 58 (by decide +kernel) rfl rfl ?_
                refine w_load (.iload_n 2) 59 (by decide +kernel) rfl rfl ?_
                refine w_pure .i2l 60 (by decide +kernel) rfl rfl ?_
                refine w_pushL (0) 61 (by decide +kernel) ?_
                refine w_pushL (3) 64 (by decide +kernel) ?_
                refine w_callSL 134 6 67 (by decide +kernel) (Nat.le_of_ble_eq_true rfl) rfl (by omega) ?_
                refine k_134 hI  (by omega) (fun r134 hr134 => ?_)
                dsimp only [Option.toList, List.cons_append, List.nil_append]
                rcases hr134 with ⟨rfl, hlok135, hhik135⟩ | ⟨rfl, hnok135⟩
                · skip
                  obtain ⟨k135, hlk135, hhk135, rfl⟩ := in_k (lo := 0) (hi := 3) hlok135 hhik135 (by decide)
                  refine w_ieq 75 70 (by decide +kernel) (fun hz => absurd hz (by decide)) (fun _ => ?_)
                  refine w_load (.iload 4) 72 (by decide +kernel) rfl rfl ?_
                  refine w_ine 80 75 (by decide +kernel) (fun _ => ?_) (fun hz => absurd hz (by decide))
                  refine w_load (.aload_n 0) 81 (by decide +kernel) rfl rfl ?_
                  refine w_load (.iload_n 1) 82 (by decide +kernel) rfl rfl ?_
                  refine w_callV1 150 8 2 85 (by decide +kernel) sh_76 (Nat.le_of_ble_eq_true rfl) rfl (by decide) (by omega) ?_
                  refine k_150 hI  (by omega) (fun r138 hr138 => ?_)
                  dsimp only [Option.toList, List.cons_append, List.nil_append]
                  rcases hr138 with ⟨rfl, k139, hk139, rfl⟩ | rfl
                  · skip
                    refine w_ine 92 88 (by decide +kernel) (fun _ => ?_) (fun hz => absurd hz (by decide))
                    refine w_pushN 0 93 (by decide +kernel) ?_
                    exact w_ret (by decide +kernel) (hq _ (Or.inl ⟨rfl, _, by assumption, rfl⟩))
                  · skip
                    refine w_ine 92 88 (by decide +kernel) (fun hz => absurd hz (by decide)) (fun _ => ?_)
                    refine w_push (-1) 89 (by decide +kernel) ?_
                    refine w_goto 93 (by decide +kernel) ?_
                    exact w_ret (by decide +kernel) (hq _ (Or.inr (by decide)))
                · skip
                  refine w_ieq 75 70 (by decide +kernel) (fun _ => ?_) (fun hz => absurd hz (by decide))
                  refine w_push (-2) 77 (by decide +kernel) ?_
                  refine w_goto 93 (by decide +kernel) ?_
                  exact w_ret (by decide +kernel) (hq _ (Or.inr (by decide)))
              · skip
                refine w_ieq 55 51 (by decide +kernel) (fun _ => ?_) (fun hz => absurd hz (by decide))
                refine w_pushN 0 56 (by decide +kernel) ?_
                refine w_store (ls' := [.ref 76, .int g, .int e, .int v, .int (nI 0)]) (.istore 4) 58 (by decide +kernel) rfl rfl ?_
                refine w_load (.iload_n 2) 59 (by decide +kernel) rfl rfl ?_
                refine w_pure .i2l 60 (by decide +kernel) rfl rfl ?_
                refine w_pushL (0) 61 (by decide +kernel) ?_
                refine w_pushL (3) 64 (by decide +kernel) ?_
                refine w_callSL 134 6 67 (by decide +kernel) (Nat.le_of_ble_eq_true rfl) rfl (by omega) ?_
                refine k_134 hI  (by omega) (fun r144 hr144 => ?_)
                dsimp only [Option.toList, List.cons_append, List.nil_append]
                rcases hr144 with ⟨rfl, hlok145, hhik145⟩ | ⟨rfl, hnok145⟩
                · skip
                  obtain ⟨k145, hlk145, hhk145, rfl⟩ := in_k (lo := 0) (hi := 3) hlok145 hhik145 (by decide)
                  refine w_ieq 75 70 (by decide +kernel) (fun hz => absurd hz (by decide)) (fun _ => ?_)
                  refine w_load (.iload 4) 72 (by decide +kernel) rfl rfl ?_
                  refine w_ine 80 75 (by decide +kernel) (fun hz => absurd hz (by decide)) (fun _ => ?_)
                  refine w_push (-2) 77 (by decide +kernel) ?_
                  refine w_goto 93 (by decide +kernel) ?_
                  exact w_ret (by decide +kernel) (hq _ (Or.inr (by decide)))
                · skip
                  refine w_ieq 75 70 (by decide +kernel) (fun _ => ?_) (fun hz => absurd hz (by decide))
                  refine w_push (-2) 77 (by decide +kernel) ?_
                  refine w_goto 93 (by decide +kernel) ?_
                  exact w_ret (by decide +kernel) (hq _ (Or.inr (by decide)))
