theorem kX10_0 : decode cX10_init 0 = .ok (.aload_n 0, 1) := by decide +kernel
theorem kX10_1 : decode cX10_init 1 = .ok (.invokespecial 1, 3) := by decide +kernel
theorem kX10_4 : decode cX10_init 4 = .ok (.aload_n 0, 1) := by decide +kernel
theorem kX10_5 : decode cX10_init 5 = .ok (.sipush 1200, 3) := by decide +kernel
theorem kX10_8 : decode cX10_init 8 = .ok (.newarray .byte, 2) := by decide +kernel
theorem kX10_10 : decode cX10_init 10 = .ok (.putfield 7, 3) := by decide +kernel
theorem kX10_13 : decode cX10_init 13 = .ok (.aload_n 0, 1) := by decide +kernel
theorem kX10_14 : decode cX10_init 14 = .ok (.iconst (-1), 1) := by decide +kernel
theorem kX10_15 : decode cX10_init 15 = .ok (.putfield 13, 3) := by decide +kernel
theorem kX10_18 : decode cX10_init 18 = .ok (.aload_n 0, 1) := by decide +kernel
theorem kX10_19 : decode cX10_init 19 = .ok (.bipush 20, 2) := by decide +kernel
theorem kX10_21 : decode cX10_init 21 = .ok (.newarray .int, 2) := by decide +kernel
theorem kX10_23 : decode cX10_init 23 = .ok (.putfield 17, 3) := by decide +kernel
theorem kX10_26 : decode cX10_init 26 = .ok (.aload_n 0, 1) := by decide +kernel
theorem kX10_27 : decode cX10_init 27 = .ok (.bipush 64, 2) := by decide +kernel
theorem kX10_29 : decode cX10_init 29 = .ok (.newarray .long, 2) := by decide +kernel
theorem kX10_31 : decode cX10_init 31 = .ok (.putfield 21, 3) := by decide +kernel
theorem kX10_34 : decode cX10_init 34 = .ok (.aload_n 0, 1) := by decide +kernel
theorem kX10_35 : decode cX10_init 35 = .ok (.bipush 64, 2) := by decide +kernel
theorem kX10_37 : decode cX10_init 37 = .ok (.newarray .long, 2) := by decide +kernel
theorem kX10_39 : decode cX10_init 39 = .ok (.putfield 25, 3) := by decide +kernel
theorem kX10_42 : decode cX10_init 42 = .ok (.aload_n 0, 1) := by decide +kernel
theorem kX10_43 : decode cX10_init 43 = .ok (.bipush 24, 2) := by decide +kernel
theorem kX10_45 : decode cX10_init 45 = .ok (.newarray .int, 2) := by decide +kernel
theorem kX10_47 : decode cX10_init 47 = .ok (.putfield 28, 3) := by decide +kernel
theorem kX10_50 : decode cX10_init 50 = .ok (.aload_n 0, 1) := by decide +kernel
theorem kX10_51 : decode cX10_init 51 = .ok (.bipush 40, 2) := by decide +kernel
theorem kX10_53 : decode cX10_init 53 = .ok (.newarray .int, 2) := by decide +kernel
theorem kX10_55 : decode cX10_init 55 = .ok (.putfield 31, 3) := by decide +kernel
theorem kX10_58 : decode cX10_init 58 = .ok (.aload_n 0, 1) := by decide +kernel
theorem kX10_59 : decode cX10_init 59 = .ok (.bipush 48, 2) := by decide +kernel
theorem kX10_61 : decode cX10_init 61 = .ok (.newarray .int, 2) := by decide +kernel
theorem kX10_63 : decode cX10_init 63 = .ok (.putfield 34, 3) := by decide +kernel
theorem kX10_66 : decode cX10_init 66 = .ok (.aload_n 0, 1) := by decide +kernel
theorem kX10_67 : decode cX10_init 67 = .ok (.bipush 48, 2) := by decide +kernel
theorem kX10_69 : decode cX10_init 69 = .ok (.newarray .int, 2) := by decide +kernel
theorem kX10_71 : decode cX10_init 71 = .ok (.putfield 37, 3) := by decide +kernel
theorem kX10_74 : decode cX10_init 74 = .ok (.aload_n 0, 1) := by decide +kernel
theorem kX10_75 : decode cX10_init 75 = .ok (.bipush 40, 2) := by decide +kernel
theorem kX10_77 : decode cX10_init 77 = .ok (.newarray .int, 2) := by decide +kernel
theorem kX10_79 : decode cX10_init 79 = .ok (.putfield 40, 3) := by decide +kernel
theorem kX10_82 : decode cX10_init 82 = .ok (.aload_n 0, 1) := by decide +kernel
theorem kX10_83 : decode cX10_init 83 = .ok (.bipush 40, 2) := by decide +kernel
theorem kX10_85 : decode cX10_init 85 = .ok (.newarray .int, 2) := by decide +kernel
theorem kX10_87 : decode cX10_init 87 = .ok (.putfield 43, 3) := by decide +kernel
theorem kX10_90 : decode cX10_init 90 = .ok (.aload_n 0, 1) := by decide +kernel
theorem kX10_91 : decode cX10_init 91 = .ok (.bipush 40, 2) := by decide +kernel
theorem kX10_93 : decode cX10_init 93 = .ok (.newarray .int, 2) := by decide +kernel
theorem kX10_95 : decode cX10_init 95 = .ok (.putfield 46, 3) := by decide +kernel
theorem kX10_98 : decode cX10_init 98 = .ok (.aload_n 0, 1) := by decide +kernel
theorem kX10_99 : decode cX10_init 99 = .ok (.bipush 12, 2) := by decide +kernel
theorem kX10_101 : decode cX10_init 101 = .ok (.newarray .int, 2) := by decide +kernel
theorem kX10_103 : decode cX10_init 103 = .ok (.putfield 49, 3) := by decide +kernel
theorem kX10_106 : decode cX10_init 106 = .ok (.aload_n 0, 1) := by decide +kernel
theorem kX10_107 : decode cX10_init 107 = .ok (.bipush 12, 2) := by decide +kernel
theorem kX10_109 : decode cX10_init 109 = .ok (.newarray .int, 2) := by decide +kernel
theorem kX10_111 : decode cX10_init 111 = .ok (.putfield 52, 3) := by decide +kernel
theorem kX10_114 : decode cX10_init 114 = .ok (.aload_n 0, 1) := by decide +kernel
theorem kX10_115 : decode cX10_init 115 = .ok (.bipush 48, 2) := by decide +kernel
theorem kX10_117 : decode cX10_init 117 = .ok (.newarray .int, 2) := by decide +kernel
theorem kX10_119 : decode cX10_init 119 = .ok (.putfield 55, 3) := by decide +kernel
theorem kX10_122 : decode cX10_init 122 = .ok (.aload_n 0, 1) := by decide +kernel
theorem kX10_123 : decode cX10_init 123 = .ok (.bipush 24, 2) := by decide +kernel
theorem kX10_125 : decode cX10_init 125 = .ok (.newarray .int, 2) := by decide +kernel
theorem kX10_127 : decode cX10_init 127 = .ok (.putfield 58, 3) := by decide +kernel
theorem kX10_130 : decode cX10_init 130 = .ok (.aload_n 0, 1) := by decide +kernel
theorem kX10_131 : decode cX10_init 131 = .ok (.bipush 24, 2) := by decide +kernel
theorem kX10_133 : decode cX10_init 133 = .ok (.newarray .int, 2) := by decide +kernel
theorem kX10_135 : decode cX10_init 135 = .ok (.putfield 61, 3) := by decide +kernel
theorem kX10_138 : decode cX10_init 138 = .ok (.aload_n 0, 1) := by decide +kernel
theorem kX10_139 : decode cX10_init 139 = .ok (.bipush 24, 2) := by decide +kernel
theorem kX10_141 : decode cX10_init 141 = .ok (.newarray .int, 2) := by decide +kernel
theorem kX10_143 : decode cX10_init 143 = .ok (.putfield 64, 3) := by decide +kernel
theorem kX10_146 : decode cX10_init 146 = .ok (.aload_n 0, 1) := by decide +kernel
theorem kX10_147 : decode cX10_init 147 = .ok (.bipush 24, 2) := by decide +kernel
theorem kX10_149 : decode cX10_init 149 = .ok (.newarray .int, 2) := by decide +kernel
theorem kX10_151 : decode cX10_init 151 = .ok (.putfield 67, 3) := by decide +kernel
theorem kX10_154 : decode cX10_init 154 = .ok (.aload_n 0, 1) := by decide +kernel
theorem kX10_155 : decode cX10_init 155 = .ok (.bipush 24, 2) := by decide +kernel
theorem kX10_157 : decode cX10_init 157 = .ok (.newarray .int, 2) := by decide +kernel
theorem kX10_159 : decode cX10_init 159 = .ok (.putfield 70, 3) := by decide +kernel
theorem kX10_162 : decode cX10_init 162 = .ok (.aload_n 0, 1) := by decide +kernel
theorem kX10_163 : decode cX10_init 163 = .ok (.iconst 4, 1) := by decide +kernel
theorem kX10_164 : decode cX10_init 164 = .ok (.newarray .int, 2) := by decide +kernel
theorem kX10_166 : decode cX10_init 166 = .ok (.putfield 73, 3) := by decide +kernel
theorem kX10_169 : decode cX10_init 169 = .ok (.aload_n 0, 1) := by decide +kernel
theorem kX10_170 : decode cX10_init 170 = .ok (.iconst 4, 1) := by decide +kernel
theorem kX10_171 : decode cX10_init 171 = .ok (.newarray .int, 2) := by decide +kernel
theorem kX10_173 : decode cX10_init 173 = .ok (.putfield 76, 3) := by decide +kernel
theorem kX10_176 : decode cX10_init 176 = .ok (.aload_n 0, 1) := by decide +kernel
theorem kX10_177 : decode cX10_init 177 = .ok (.iconst 4, 1) := by decide +kernel
theorem kX10_178 : decode cX10_init 178 = .ok (.newarray .int, 2) := by decide +kernel
theorem kX10_180 : decode cX10_init 180 = .ok (.putfield 79, 3) := by decide +kernel
theorem kX10_183 : decode cX10_init 183 = .ok (.aload_n 0, 1) := by decide +kernel
theorem kX10_184 : decode cX10_init 184 = .ok (.iconst 4, 1) := by decide +kernel
theorem kX10_185 : decode cX10_init 185 = .ok (.newarray .int, 2) := by decide +kernel
theorem kX10_187 : decode cX10_init 187 = .ok (.putfield 82, 3) := by decide +kernel
theorem kX10_190 : decode cX10_init 190 = .ok (.aload_n 0, 1) := by decide +kernel
theorem kX10_191 : decode cX10_init 191 = .ok (.iconst 4, 1) := by decide +kernel
theorem kX10_192 : decode cX10_init 192 = .ok (.newarray .int, 2) := by decide +kernel
theorem kX10_194 : decode cX10_init 194 = .ok (.putfield 85, 3) := by decide +kernel
theorem kX10_197 : decode cX10_init 197 = .ok (.aload_n 0, 1) := by decide +kernel
theorem kX10_198 : decode cX10_init 198 = .ok (.iconst 4, 1) := by decide +kernel
theorem kX10_199 : decode cX10_init 199 = .ok (.newarray .boolean, 2) := by decide +kernel
theorem kX10_201 : decode cX10_init 201 = .ok (.putfield 88, 3) := by decide +kernel
theorem kX10_204 : decode cX10_init 204 = .ok (.aload_n 0, 1) := by decide +kernel
theorem kX10_205 : decode cX10_init 205 = .ok (.bipush 120, 2) := by decide +kernel
theorem kX10_207 : decode cX10_init 207 = .ok (.newarray .int, 2) := by decide +kernel
theorem kX10_209 : decode cX10_init 209 = .ok (.putfield 92, 3) := by decide +kernel
theorem kX10_212 : decode cX10_init 212 = .ok (.aload_n 0, 1) := by decide +kernel
theorem kX10_213 : decode cX10_init 213 = .ok (.bipush 120, 2) := by decide +kernel
theorem kX10_215 : decode cX10_init 215 = .ok (.newarray .int, 2) := by decide +kernel
theorem kX10_217 : decode cX10_init 217 = .ok (.putfield 95, 3) := by decide +kernel
theorem kX10_220 : decode cX10_init 220 = .ok (.aload_n 0, 1) := by decide +kernel
theorem kX10_221 : decode cX10_init 221 = .ok (.bipush 120, 2) := by decide +kernel
theorem kX10_223 : decode cX10_init 223 = .ok (.newarray .int, 2) := by decide +kernel
theorem kX10_225 : decode cX10_init 225 = .ok (.putfield 98, 3) := by decide +kernel
theorem kX10_228 : decode cX10_init 228 = .ok (.aload_n 0, 1) := by decide +kernel
theorem kX10_229 : decode cX10_init 229 = .ok (.bipush 120, 2) := by decide +kernel
theorem kX10_231 : decode cX10_init 231 = .ok (.newarray .int, 2) := by decide +kernel
theorem kX10_233 : decode cX10_init 233 = .ok (.putfield 101, 3) := by decide +kernel
theorem kX10_236 : decode cX10_init 236 = .ok (.aload_n 0, 1) := by decide +kernel
theorem kX10_237 : decode cX10_init 237 = .ok (.bipush 120, 2) := by decide +kernel
theorem kX10_239 : decode cX10_init 239 = .ok (.newarray .int, 2) := by decide +kernel
theorem kX10_241 : decode cX10_init 241 = .ok (.putfield 104, 3) := by decide +kernel
theorem kX10_244 : decode cX10_init 244 = .ok (.aload_n 0, 1) := by decide +kernel
theorem kX10_245 : decode cX10_init 245 = .ok (.sipush 1920, 3) := by decide +kernel
theorem kX10_248 : decode cX10_init 248 = .ok (.newarray .int, 2) := by decide +kernel
theorem kX10_250 : decode cX10_init 250 = .ok (.putfield 107, 3) := by decide +kernel
theorem kX10_253 : decode cX10_init 253 = .ok (.aload_n 0, 1) := by decide +kernel
theorem kX10_254 : decode cX10_init 254 = .ok (.bipush 40, 2) := by decide +kernel
theorem kX10_256 : decode cX10_init 256 = .ok (.newarray .int, 2) := by decide +kernel
theorem kX10_258 : decode cX10_init 258 = .ok (.putfield 110, 3) := by decide +kernel
theorem kX10_261 : decode cX10_init 261 = .ok (.aload_n 0, 1) := by decide +kernel
theorem kX10_262 : decode cX10_init 262 = .ok (.bipush 40, 2) := by decide +kernel
theorem kX10_264 : decode cX10_init 264 = .ok (.newarray .int, 2) := by decide +kernel
theorem kX10_266 : decode cX10_init 266 = .ok (.putfield 113, 3) := by decide +kernel
theorem kX10_269 : decode cX10_init 269 = .ok (.aload_n 0, 1) := by decide +kernel
theorem kX10_270 : decode cX10_init 270 = .ok (.bipush 40, 2) := by decide +kernel
theorem kX10_272 : decode cX10_init 272 = .ok (.newarray .int, 2) := by decide +kernel
theorem kX10_274 : decode cX10_init 274 = .ok (.putfield 116, 3) := by decide +kernel
theorem kX10_277 : decode cX10_init 277 = .ok (.aload_n 0, 1) := by decide +kernel
theorem kX10_278 : decode cX10_init 278 = .ok (.bipush 30, 2) := by decide +kernel
theorem kX10_280 : decode cX10_init 280 = .ok (.newarray .int, 2) := by decide +kernel
theorem kX10_282 : decode cX10_init 282 = .ok (.putfield 119, 3) := by decide +kernel
theorem kX10_285 : decode cX10_init 285 = .ok (.aload_n 0, 1) := by decide +kernel
theorem kX10_286 : decode cX10_init 286 = .ok (.bipush 30, 2) := by decide +kernel
theorem kX10_288 : decode cX10_init 288 = .ok (.newarray .int, 2) := by decide +kernel
theorem kX10_290 : decode cX10_init 290 = .ok (.putfield 122, 3) := by decide +kernel
theorem kX10_293 : decode cX10_init 293 = .ok (.aload_n 0, 1) := by decide +kernel
theorem kX10_294 : decode cX10_init 294 = .ok (.bipush 30, 2) := by decide +kernel
theorem kX10_296 : decode cX10_init 296 = .ok (.newarray .int, 2) := by decide +kernel
theorem kX10_298 : decode cX10_init 298 = .ok (.putfield 125, 3) := by decide +kernel
theorem kX10_301 : decode cX10_init 301 = .ok (.aload_n 0, 1) := by decide +kernel
theorem kX10_302 : decode cX10_init 302 = .ok (.bipush 30, 2) := by decide +kernel
theorem kX10_304 : decode cX10_init 304 = .ok (.newarray .int, 2) := by decide +kernel
theorem kX10_306 : decode cX10_init 306 = .ok (.putfield 128, 3) := by decide +kernel
theorem kX10_309 : decode cX10_init 309 = .ok (.aload_n 0, 1) := by decide +kernel
theorem kX10_310 : decode cX10_init 310 = .ok (.bipush 20, 2) := by decide +kernel
theorem kX10_312 : decode cX10_init 312 = .ok (.newarray .int, 2) := by decide +kernel
theorem kX10_314 : decode cX10_init 314 = .ok (.putfield 131, 3) := by decide +kernel
theorem kX10_317 : decode cX10_init 317 = .ok (.aload_n 0, 1) := by decide +kernel
theorem kX10_318 : decode cX10_init 318 = .ok (.bipush 20, 2) := by decide +kernel
theorem kX10_320 : decode cX10_init 320 = .ok (.newarray .int, 2) := by decide +kernel
theorem kX10_322 : decode cX10_init 322 = .ok (.putfield 134, 3) := by decide +kernel
theorem kX10_325 : decode cX10_init 325 = .ok (.aload_n 0, 1) := by decide +kernel
theorem kX10_326 : decode cX10_init 326 = .ok (.bipush 20, 2) := by decide +kernel
theorem kX10_328 : decode cX10_init 328 = .ok (.newarray .int, 2) := by decide +kernel
theorem kX10_330 : decode cX10_init 330 = .ok (.putfield 137, 3) := by decide +kernel
theorem kX10_333 : decode cX10_init 333 = .ok (.aload_n 0, 1) := by decide +kernel
theorem kX10_334 : decode cX10_init 334 = .ok (.sipush 300, 3) := by decide +kernel
theorem kX10_337 : decode cX10_init 337 = .ok (.newarray .boolean, 2) := by decide +kernel
theorem kX10_339 : decode cX10_init 339 = .ok (.putfield 140, 3) := by decide +kernel
theorem kX10_342 : decode cX10_init 342 = .ok (.aload_n 0, 1) := by decide +kernel
theorem kX10_343 : decode cX10_init 343 = .ok (.invokevirtual 143, 3) := by decide +kernel
theorem kX10_346 : decode cX10_init 346 = .ok (.aload_n 0, 1) := by decide +kernel
theorem kX10_347 : decode cX10_init 347 = .ok (.invokevirtual 146, 3) := by decide +kernel
theorem kX10_350 : decode cX10_init 350 = .ok (.return_, 1) := by decide +kernel
abbrev shModel (n : Nat) : List Nat := [3 + 2 * (n + 1), 0, 0, 0, 0, 0, 0, 0, 0, 0, 1, 1, 0, 3 + 2 * (n + 2), 3 + 2 * (n + 3), 3 + 2 * (n + 4), 3 + 2 * (n + 5), 3 + 2 * (n + 6), 3 + 2 * (n + 7), 3 + 2 * (n + 8), 3 + 2 * (n + 9), 3 + 2 * (n + 10), 3 + 2 * (n + 11), 3 + 2 * (n + 12), 3 + 2 * (n + 13), 3 + 2 * (n + 14), 0, 3 + 2 * (n + 15), 3 + 2 * (n + 16), 3 + 2 * (n + 17), 3 + 2 * (n + 18), 3 + 2 * (n + 19), 3 + 2 * (n + 20), 3 + 2 * (n + 21), 3 + 2 * (n + 22), 3 + 2 * (n + 23), 3 + 2 * (n + 24), 3 + 2 * (n + 25), 3 + 2 * (n + 26), 3 + 2 * (n + 27), 3 + 2 * (n + 28), 3 + 2 * (n + 29), 3 + 2 * (n + 30), 3 + 2 * (n + 31), 0, 3 + 2 * (n + 32), 3 + 2 * (n + 33), 3 + 2 * (n + 34), 0, 0, 0, 3 + 2 * (n + 35), 3 + 2 * (n + 36), 3 + 2 * (n + 37), 3 + 2 * (n + 38), 3 + 2 * (n + 39), 3 + 2 * (n + 40), 3 + 2 * (n + 41), 3 + 2 * (n + 42)]
theorem rws_hi {k : Nat} (h : 54 < k) : rws k = 0 := by unfold rws; rw [if_neg (by omega), if_neg (by omega), if_neg (by omega)]
abbrev mA0 : List pSh := [(1, 1200, []), (0, 20, []), (3, 64, []), (3, 64, []), (0, 24, [])]
abbrev mP0 : List (Nat × Int32) := [(0, 1), (9, -1), (13, 1), (14, 1), (15, 1), (16, 1)]
set_option maxHeartbeats 4000000 in
set_option maxRecDepth 100000 in
theorem mo_seg0 {p : Program} {l : Launch} {e : Env} {s : State} {m : MethodId} {args : Array Value} {below : List Frame} {meth : Method} {c : Code} {Q : State → Prop} {S : List pSh} {base : Nat} {adK : Nat → Nat} {un : Nat} {cA : Nat → ClassId} {dg : va_G} {H H0 : Heap} {locs : List Loc} {ls : Array Slot} {n : Nat} {σ : pSt} (F : kF p s m args meth c cX10_init RX10 cA dg) (hn : 54 < n) (hm : n + 43 ≤ 143) (hl : lv_has ls 1 [(0, .ref (adB base adK n 0))]) (len0 : S.length = n + 1) (q0 : S[n]? = some (17, 0, (shModel n).map opn)) (hW : wB base adK un cA dg S σ H) (hS : va_S (fun q => base ≤ q) H0 H locs) (kk : ∀ (H1 : Heap) (locs1 : List Loc), wB base adK un cA dg (S ++ mA0) (dsl σ.1 n mP0, σ.2) H1 → va_S (fun q => base ≤ q) H0 H1 locs1 → W p l e { frames := 12, cells := 42, slots := 4964, locals := 1000 } s m args below meth c H1 locs1 5 1372 Q (F0 m 50 ls [])) : W p l e { frames := 12, cells := 42, slots := 4964, locals := 1000 } s m args below meth c H locs 0 0 Q (F0 m 4 ls []) := by
  have hx := F.1
  have hb := F.2.1
  refine lv_aload_n hx hb kX10_4 rfl (lv_at hl 0 rfl) ?_
  refine lv_sipush (v := nI 1200) hx hb kX10_5 (by decide) ?_
  refine w_arrF (t := 1) (n := 1200) (k := n) (a := 10) (b := 0) F (by decide) (by decide) hw_ab q0 rfl (by decide) (hasW_in (i := 1179) (by decide +kernel)) rfl rfl (by rw [len0, ← opn_e]; rfl) (tyX10_ok 0 (by decide)) (fun _ => rfl) (fun _ => rfl) (by rw [len0]; omega) (by rw [len0]; exact rws_hi (by omega)) (Nat.le_of_ble_eq_true rfl) (Nat.le_of_ble_eq_true rfl) kX10_8 kX10_10 hW hS fun H locs hW hS => ?_
  have len1 : ((S ++ [(1, 1200, [])]) : List pSh).length = n + 2 := by rw [List.length_append, len0]; first | rfl | done
  have q1 : ((S ++ [(1, 1200, [])]) : List pSh)[n]? = some (17, 0, (shModel n).map opn) := by rw [List.getElem?_append_left (by rw [len0]; omega)]; exact q0
  refine lv_aload_n hx hb kX10_13 rfl (lv_at hl 0 rfl) ?_
  refine lv_iconst (v := -1) hx hb kX10_14 (by decide) ?_
  refine w_put (k := n) (a := 10) (b := 9) (x := -1) F.G q1 rfl (by decide) (hasW_in (i := 1188) (by decide +kernel)) rfl rfl (tyX10_ok 9 (by decide)) rfl rfl (by show Value.int (dset _ _ _ _ _ _ _ _) = _; rw [dsA, if_pos rfl]) kX10_15 hW hS fun H locs hW hS => ?_
  refine lv_aload_n hx hb kX10_18 rfl (lv_at hl 0 rfl) ?_
  refine lv_bipush (v := nI 20) hx hb kX10_19 (by decide) ?_
  refine w_arrF (t := 0) (n := 20) (k := n) (a := 10) (b := 13) F (by decide) (by decide) hw_ai q1 rfl (by decide) (hasW_in (i := 1192) (by decide +kernel)) rfl rfl (by rw [len1, ← opn_e]; rfl) (tyX10_ok 13 (by decide)) (fun _ => rfl) (fun _ => rfl) (by rw [len1]; omega) (by rw [len1]; exact rws_hi (by omega)) (Nat.le_of_ble_eq_true rfl) (Nat.le_of_ble_eq_true rfl) kX10_21 kX10_23 hW hS fun H locs hW hS => ?_
  have len2 : (((S ++ [(1, 1200, [])]) ++ [(0, 20, [])]) : List pSh).length = n + 3 := by rw [List.length_append, len1]; first | rfl | done
  have q2 : (((S ++ [(1, 1200, [])]) ++ [(0, 20, [])]) : List pSh)[n]? = some (17, 0, (shModel n).map opn) := by rw [List.getElem?_append_left (by rw [len1]; omega)]; exact q1
  refine lv_aload_n hx hb kX10_26 rfl (lv_at hl 0 rfl) ?_
  refine lv_bipush (v := nI 64) hx hb kX10_27 (by decide) ?_
  refine w_arrF (t := 3) (n := 64) (k := n) (a := 10) (b := 14) F (by decide) (by decide) hw_al q2 rfl (by decide) (hasW_in (i := 1193) (by decide +kernel)) rfl rfl (by rw [len2, ← opn_e]; rfl) (tyX10_ok 14 (by decide)) (fun _ => rfl) (fun _ => rfl) (by rw [len2]; omega) (by rw [len2]; exact rws_hi (by omega)) (Nat.le_of_ble_eq_true rfl) (Nat.le_of_ble_eq_true rfl) kX10_29 kX10_31 hW hS fun H locs hW hS => ?_
  have len3 : ((((S ++ [(1, 1200, [])]) ++ [(0, 20, [])]) ++ [(3, 64, [])]) : List pSh).length = n + 4 := by rw [List.length_append, len2]; first | rfl | done
  have q3 : ((((S ++ [(1, 1200, [])]) ++ [(0, 20, [])]) ++ [(3, 64, [])]) : List pSh)[n]? = some (17, 0, (shModel n).map opn) := by rw [List.getElem?_append_left (by rw [len2]; omega)]; exact q2
  refine lv_aload_n hx hb kX10_34 rfl (lv_at hl 0 rfl) ?_
  refine lv_bipush (v := nI 64) hx hb kX10_35 (by decide) ?_
  refine w_arrF (t := 3) (n := 64) (k := n) (a := 10) (b := 15) F (by decide) (by decide) hw_al q3 rfl (by decide) (hasW_in (i := 1194) (by decide +kernel)) rfl rfl (by rw [len3, ← opn_e]; rfl) (tyX10_ok 15 (by decide)) (fun _ => rfl) (fun _ => rfl) (by rw [len3]; omega) (by rw [len3]; exact rws_hi (by omega)) (Nat.le_of_ble_eq_true rfl) (Nat.le_of_ble_eq_true rfl) kX10_37 kX10_39 hW hS fun H locs hW hS => ?_
  have len4 : (((((S ++ [(1, 1200, [])]) ++ [(0, 20, [])]) ++ [(3, 64, [])]) ++ [(3, 64, [])]) : List pSh).length = n + 5 := by rw [List.length_append, len3]; first | rfl | done
  have q4 : (((((S ++ [(1, 1200, [])]) ++ [(0, 20, [])]) ++ [(3, 64, [])]) ++ [(3, 64, [])]) : List pSh)[n]? = some (17, 0, (shModel n).map opn) := by rw [List.getElem?_append_left (by rw [len3]; omega)]; exact q3
  refine lv_aload_n hx hb kX10_42 rfl (lv_at hl 0 rfl) ?_
  refine lv_bipush (v := nI 24) hx hb kX10_43 (by decide) ?_
  refine w_arrF (t := 0) (n := 24) (k := n) (a := 10) (b := 16) F (by decide) (by decide) hw_ai q4 rfl (by decide) (hasW_in (i := 1195) (by decide +kernel)) rfl rfl (by rw [len4, ← opn_e]; rfl) (tyX10_ok 16 (by decide)) (fun _ => rfl) (fun _ => rfl) (by rw [len4]; omega) (by rw [len4]; exact rws_hi (by omega)) (Nat.le_of_ble_eq_true rfl) (Nat.le_of_ble_eq_true rfl) kX10_45 kX10_47 hW hS fun H locs hW hS => ?_
  have len5 : ((((((S ++ [(1, 1200, [])]) ++ [(0, 20, [])]) ++ [(3, 64, [])]) ++ [(3, 64, [])]) ++ [(0, 24, [])]) : List pSh).length = n + 6 := by rw [List.length_append, len4]; first | rfl | done
  have q5 : ((((((S ++ [(1, 1200, [])]) ++ [(0, 20, [])]) ++ [(3, 64, [])]) ++ [(3, 64, [])]) ++ [(0, 24, [])]) : List pSh)[n]? = some (17, 0, (shModel n).map opn) := by rw [List.getElem?_append_left (by rw [len4]; omega)]; exact q4
  rw [List.append_assoc, List.append_assoc, List.append_assoc, List.append_assoc] at hW
  exact kk H locs hW hS
abbrev mA1 : List pSh := [(0, 40, []), (0, 48, []), (0, 48, []), (0, 40, []), (0, 40, []), (0, 40, [])]
abbrev mP1 : List (Nat × Int32) := [(17, 1), (18, 1), (19, 1), (20, 1), (21, 1), (22, 1)]
set_option maxHeartbeats 4000000 in
set_option maxRecDepth 100000 in
theorem mo_seg1 {p : Program} {l : Launch} {e : Env} {s : State} {m : MethodId} {args : Array Value} {below : List Frame} {meth : Method} {c : Code} {Q : State → Prop} {S : List pSh} {base : Nat} {adK : Nat → Nat} {un : Nat} {cA : Nat → ClassId} {dg : va_G} {H H0 : Heap} {locs : List Loc} {ls : Array Slot} {n : Nat} {σ : pSt} (F : kF p s m args meth c cX10_init RX10 cA dg) (hn : 54 < n) (hm : n + 43 ≤ 143) (hl : lv_has ls 1 [(0, .ref (adB base adK n 0))]) (len0 : S.length = n + 6) (q0 : S[n]? = some (17, 0, (shModel n).map opn)) (hW : wB base adK un cA dg S σ H) (hS : va_S (fun q => base ≤ q) H0 H locs) (kk : ∀ (H1 : Heap) (locs1 : List Loc), wB base adK un cA dg (S ++ mA1) (dsl σ.1 n mP1, σ.2) H1 → va_S (fun q => base ≤ q) H0 H1 locs1 → W p l e { frames := 12, cells := 42, slots := 4964, locals := 1000 } s m args below meth c H1 locs1 11 1628 Q (F0 m 98 ls [])) : W p l e { frames := 12, cells := 42, slots := 4964, locals := 1000 } s m args below meth c H locs 5 1372 Q (F0 m 50 ls []) := by
  have hx := F.1
  have hb := F.2.1
  refine lv_aload_n hx hb kX10_50 rfl (lv_at hl 0 rfl) ?_
  refine lv_bipush (v := nI 40) hx hb kX10_51 (by decide) ?_
  refine w_arrF (t := 0) (n := 40) (k := n) (a := 10) (b := 17) F (by decide) (by decide) hw_ai q0 rfl (by decide) (hasW_in (i := 1196) (by decide +kernel)) rfl rfl (by rw [len0, ← opn_e]; rfl) (tyX10_ok 17 (by decide)) (fun _ => rfl) (fun _ => rfl) (by rw [len0]; omega) (by rw [len0]; exact rws_hi (by omega)) (Nat.le_of_ble_eq_true rfl) (Nat.le_of_ble_eq_true rfl) kX10_53 kX10_55 hW hS fun H locs hW hS => ?_
  have len1 : ((S ++ [(0, 40, [])]) : List pSh).length = n + 7 := by rw [List.length_append, len0]; first | rfl | done
  have q1 : ((S ++ [(0, 40, [])]) : List pSh)[n]? = some (17, 0, (shModel n).map opn) := by rw [List.getElem?_append_left (by rw [len0]; omega)]; exact q0
  refine lv_aload_n hx hb kX10_58 rfl (lv_at hl 0 rfl) ?_
  refine lv_bipush (v := nI 48) hx hb kX10_59 (by decide) ?_
  refine w_arrF (t := 0) (n := 48) (k := n) (a := 10) (b := 18) F (by decide) (by decide) hw_ai q1 rfl (by decide) (hasW_in (i := 1197) (by decide +kernel)) rfl rfl (by rw [len1, ← opn_e]; rfl) (tyX10_ok 18 (by decide)) (fun _ => rfl) (fun _ => rfl) (by rw [len1]; omega) (by rw [len1]; exact rws_hi (by omega)) (Nat.le_of_ble_eq_true rfl) (Nat.le_of_ble_eq_true rfl) kX10_61 kX10_63 hW hS fun H locs hW hS => ?_
  have len2 : (((S ++ [(0, 40, [])]) ++ [(0, 48, [])]) : List pSh).length = n + 8 := by rw [List.length_append, len1]; first | rfl | done
  have q2 : (((S ++ [(0, 40, [])]) ++ [(0, 48, [])]) : List pSh)[n]? = some (17, 0, (shModel n).map opn) := by rw [List.getElem?_append_left (by rw [len1]; omega)]; exact q1
  refine lv_aload_n hx hb kX10_66 rfl (lv_at hl 0 rfl) ?_
  refine lv_bipush (v := nI 48) hx hb kX10_67 (by decide) ?_
  refine w_arrF (t := 0) (n := 48) (k := n) (a := 10) (b := 19) F (by decide) (by decide) hw_ai q2 rfl (by decide) (hasW_in (i := 1198) (by decide +kernel)) rfl rfl (by rw [len2, ← opn_e]; rfl) (tyX10_ok 19 (by decide)) (fun _ => rfl) (fun _ => rfl) (by rw [len2]; omega) (by rw [len2]; exact rws_hi (by omega)) (Nat.le_of_ble_eq_true rfl) (Nat.le_of_ble_eq_true rfl) kX10_69 kX10_71 hW hS fun H locs hW hS => ?_
  have len3 : ((((S ++ [(0, 40, [])]) ++ [(0, 48, [])]) ++ [(0, 48, [])]) : List pSh).length = n + 9 := by rw [List.length_append, len2]; first | rfl | done
  have q3 : ((((S ++ [(0, 40, [])]) ++ [(0, 48, [])]) ++ [(0, 48, [])]) : List pSh)[n]? = some (17, 0, (shModel n).map opn) := by rw [List.getElem?_append_left (by rw [len2]; omega)]; exact q2
  refine lv_aload_n hx hb kX10_74 rfl (lv_at hl 0 rfl) ?_
  refine lv_bipush (v := nI 40) hx hb kX10_75 (by decide) ?_
  refine w_arrF (t := 0) (n := 40) (k := n) (a := 10) (b := 20) F (by decide) (by decide) hw_ai q3 rfl (by decide) (hasW_in (i := 1199) (by decide +kernel)) rfl rfl (by rw [len3, ← opn_e]; rfl) (tyX10_ok 20 (by decide)) (fun _ => rfl) (fun _ => rfl) (by rw [len3]; omega) (by rw [len3]; exact rws_hi (by omega)) (Nat.le_of_ble_eq_true rfl) (Nat.le_of_ble_eq_true rfl) kX10_77 kX10_79 hW hS fun H locs hW hS => ?_
  have len4 : (((((S ++ [(0, 40, [])]) ++ [(0, 48, [])]) ++ [(0, 48, [])]) ++ [(0, 40, [])]) : List pSh).length = n + 10 := by rw [List.length_append, len3]; first | rfl | done
  have q4 : (((((S ++ [(0, 40, [])]) ++ [(0, 48, [])]) ++ [(0, 48, [])]) ++ [(0, 40, [])]) : List pSh)[n]? = some (17, 0, (shModel n).map opn) := by rw [List.getElem?_append_left (by rw [len3]; omega)]; exact q3
  refine lv_aload_n hx hb kX10_82 rfl (lv_at hl 0 rfl) ?_
  refine lv_bipush (v := nI 40) hx hb kX10_83 (by decide) ?_
  refine w_arrF (t := 0) (n := 40) (k := n) (a := 10) (b := 21) F (by decide) (by decide) hw_ai q4 rfl (by decide) (hasW_in (i := 1200) (by decide +kernel)) rfl rfl (by rw [len4, ← opn_e]; rfl) (tyX10_ok 21 (by decide)) (fun _ => rfl) (fun _ => rfl) (by rw [len4]; omega) (by rw [len4]; exact rws_hi (by omega)) (Nat.le_of_ble_eq_true rfl) (Nat.le_of_ble_eq_true rfl) kX10_85 kX10_87 hW hS fun H locs hW hS => ?_
  have len5 : ((((((S ++ [(0, 40, [])]) ++ [(0, 48, [])]) ++ [(0, 48, [])]) ++ [(0, 40, [])]) ++ [(0, 40, [])]) : List pSh).length = n + 11 := by rw [List.length_append, len4]; first | rfl | done
  have q5 : ((((((S ++ [(0, 40, [])]) ++ [(0, 48, [])]) ++ [(0, 48, [])]) ++ [(0, 40, [])]) ++ [(0, 40, [])]) : List pSh)[n]? = some (17, 0, (shModel n).map opn) := by rw [List.getElem?_append_left (by rw [len4]; omega)]; exact q4
  refine lv_aload_n hx hb kX10_90 rfl (lv_at hl 0 rfl) ?_
  refine lv_bipush (v := nI 40) hx hb kX10_91 (by decide) ?_
  refine w_arrF (t := 0) (n := 40) (k := n) (a := 10) (b := 22) F (by decide) (by decide) hw_ai q5 rfl (by decide) (hasW_in (i := 1201) (by decide +kernel)) rfl rfl (by rw [len5, ← opn_e]; rfl) (tyX10_ok 22 (by decide)) (fun _ => rfl) (fun _ => rfl) (by rw [len5]; omega) (by rw [len5]; exact rws_hi (by omega)) (Nat.le_of_ble_eq_true rfl) (Nat.le_of_ble_eq_true rfl) kX10_93 kX10_95 hW hS fun H locs hW hS => ?_
  have len6 : (((((((S ++ [(0, 40, [])]) ++ [(0, 48, [])]) ++ [(0, 48, [])]) ++ [(0, 40, [])]) ++ [(0, 40, [])]) ++ [(0, 40, [])]) : List pSh).length = n + 12 := by rw [List.length_append, len5]; first | rfl | done
  have q6 : (((((((S ++ [(0, 40, [])]) ++ [(0, 48, [])]) ++ [(0, 48, [])]) ++ [(0, 40, [])]) ++ [(0, 40, [])]) ++ [(0, 40, [])]) : List pSh)[n]? = some (17, 0, (shModel n).map opn) := by rw [List.getElem?_append_left (by rw [len5]; omega)]; exact q5
  rw [List.append_assoc, List.append_assoc, List.append_assoc, List.append_assoc, List.append_assoc] at hW
  exact kk H locs hW hS
abbrev mA2 : List pSh := [(0, 12, []), (0, 12, []), (0, 48, []), (0, 24, []), (0, 24, []), (0, 24, [])]
abbrev mP2 : List (Nat × Int32) := [(23, 1), (24, 1), (25, 1), (27, 1), (28, 1), (29, 1)]
set_option maxHeartbeats 4000000 in
set_option maxRecDepth 100000 in
theorem mo_seg2 {p : Program} {l : Launch} {e : Env} {s : State} {m : MethodId} {args : Array Value} {below : List Frame} {meth : Method} {c : Code} {Q : State → Prop} {S : List pSh} {base : Nat} {adK : Nat → Nat} {un : Nat} {cA : Nat → ClassId} {dg : va_G} {H H0 : Heap} {locs : List Loc} {ls : Array Slot} {n : Nat} {σ : pSt} (F : kF p s m args meth c cX10_init RX10 cA dg) (hn : 54 < n) (hm : n + 43 ≤ 143) (hl : lv_has ls 1 [(0, .ref (adB base adK n 0))]) (len0 : S.length = n + 12) (q0 : S[n]? = some (17, 0, (shModel n).map opn)) (hW : wB base adK un cA dg S σ H) (hS : va_S (fun q => base ≤ q) H0 H locs) (kk : ∀ (H1 : Heap) (locs1 : List Loc), wB base adK un cA dg (S ++ mA2) (dsl σ.1 n mP2, σ.2) H1 → va_S (fun q => base ≤ q) H0 H1 locs1 → W p l e { frames := 12, cells := 42, slots := 4964, locals := 1000 } s m args below meth c H1 locs1 17 1772 Q (F0 m 146 ls [])) : W p l e { frames := 12, cells := 42, slots := 4964, locals := 1000 } s m args below meth c H locs 11 1628 Q (F0 m 98 ls []) := by
  have hx := F.1
  have hb := F.2.1
  refine lv_aload_n hx hb kX10_98 rfl (lv_at hl 0 rfl) ?_
  refine lv_bipush (v := nI 12) hx hb kX10_99 (by decide) ?_
  refine w_arrF (t := 0) (n := 12) (k := n) (a := 10) (b := 23) F (by decide) (by decide) hw_ai q0 rfl (by decide) (hasW_in (i := 1202) (by decide +kernel)) rfl rfl (by rw [len0, ← opn_e]; rfl) (tyX10_ok 23 (by decide)) (fun _ => rfl) (fun _ => rfl) (by rw [len0]; omega) (by rw [len0]; exact rws_hi (by omega)) (Nat.le_of_ble_eq_true rfl) (Nat.le_of_ble_eq_true rfl) kX10_101 kX10_103 hW hS fun H locs hW hS => ?_
  have len1 : ((S ++ [(0, 12, [])]) : List pSh).length = n + 13 := by rw [List.length_append, len0]; first | rfl | done
  have q1 : ((S ++ [(0, 12, [])]) : List pSh)[n]? = some (17, 0, (shModel n).map opn) := by rw [List.getElem?_append_left (by rw [len0]; omega)]; exact q0
  refine lv_aload_n hx hb kX10_106 rfl (lv_at hl 0 rfl) ?_
  refine lv_bipush (v := nI 12) hx hb kX10_107 (by decide) ?_
  refine w_arrF (t := 0) (n := 12) (k := n) (a := 10) (b := 24) F (by decide) (by decide) hw_ai q1 rfl (by decide) (hasW_in (i := 1203) (by decide +kernel)) rfl rfl (by rw [len1, ← opn_e]; rfl) (tyX10_ok 24 (by decide)) (fun _ => rfl) (fun _ => rfl) (by rw [len1]; omega) (by rw [len1]; exact rws_hi (by omega)) (Nat.le_of_ble_eq_true rfl) (Nat.le_of_ble_eq_true rfl) kX10_109 kX10_111 hW hS fun H locs hW hS => ?_
  have len2 : (((S ++ [(0, 12, [])]) ++ [(0, 12, [])]) : List pSh).length = n + 14 := by rw [List.length_append, len1]; first | rfl | done
  have q2 : (((S ++ [(0, 12, [])]) ++ [(0, 12, [])]) : List pSh)[n]? = some (17, 0, (shModel n).map opn) := by rw [List.getElem?_append_left (by rw [len1]; omega)]; exact q1
  refine lv_aload_n hx hb kX10_114 rfl (lv_at hl 0 rfl) ?_
  refine lv_bipush (v := nI 48) hx hb kX10_115 (by decide) ?_
  refine w_arrF (t := 0) (n := 48) (k := n) (a := 10) (b := 25) F (by decide) (by decide) hw_ai q2 rfl (by decide) (hasW_in (i := 1204) (by decide +kernel)) rfl rfl (by rw [len2, ← opn_e]; rfl) (tyX10_ok 25 (by decide)) (fun _ => rfl) (fun _ => rfl) (by rw [len2]; omega) (by rw [len2]; exact rws_hi (by omega)) (Nat.le_of_ble_eq_true rfl) (Nat.le_of_ble_eq_true rfl) kX10_117 kX10_119 hW hS fun H locs hW hS => ?_
  have len3 : ((((S ++ [(0, 12, [])]) ++ [(0, 12, [])]) ++ [(0, 48, [])]) : List pSh).length = n + 15 := by rw [List.length_append, len2]; first | rfl | done
  have q3 : ((((S ++ [(0, 12, [])]) ++ [(0, 12, [])]) ++ [(0, 48, [])]) : List pSh)[n]? = some (17, 0, (shModel n).map opn) := by rw [List.getElem?_append_left (by rw [len2]; omega)]; exact q2
  refine lv_aload_n hx hb kX10_122 rfl (lv_at hl 0 rfl) ?_
  refine lv_bipush (v := nI 24) hx hb kX10_123 (by decide) ?_
  refine w_arrF (t := 0) (n := 24) (k := n) (a := 10) (b := 27) F (by decide) (by decide) hw_ai q3 rfl (by decide) (hasW_in (i := 1206) (by decide +kernel)) rfl rfl (by rw [len3, ← opn_e]; rfl) (tyX10_ok 27 (by decide)) (fun _ => rfl) (fun _ => rfl) (by rw [len3]; omega) (by rw [len3]; exact rws_hi (by omega)) (Nat.le_of_ble_eq_true rfl) (Nat.le_of_ble_eq_true rfl) kX10_125 kX10_127 hW hS fun H locs hW hS => ?_
  have len4 : (((((S ++ [(0, 12, [])]) ++ [(0, 12, [])]) ++ [(0, 48, [])]) ++ [(0, 24, [])]) : List pSh).length = n + 16 := by rw [List.length_append, len3]; first | rfl | done
  have q4 : (((((S ++ [(0, 12, [])]) ++ [(0, 12, [])]) ++ [(0, 48, [])]) ++ [(0, 24, [])]) : List pSh)[n]? = some (17, 0, (shModel n).map opn) := by rw [List.getElem?_append_left (by rw [len3]; omega)]; exact q3
  refine lv_aload_n hx hb kX10_130 rfl (lv_at hl 0 rfl) ?_
  refine lv_bipush (v := nI 24) hx hb kX10_131 (by decide) ?_
  refine w_arrF (t := 0) (n := 24) (k := n) (a := 10) (b := 28) F (by decide) (by decide) hw_ai q4 rfl (by decide) (hasW_in (i := 1207) (by decide +kernel)) rfl rfl (by rw [len4, ← opn_e]; rfl) (tyX10_ok 28 (by decide)) (fun _ => rfl) (fun _ => rfl) (by rw [len4]; omega) (by rw [len4]; exact rws_hi (by omega)) (Nat.le_of_ble_eq_true rfl) (Nat.le_of_ble_eq_true rfl) kX10_133 kX10_135 hW hS fun H locs hW hS => ?_
  have len5 : ((((((S ++ [(0, 12, [])]) ++ [(0, 12, [])]) ++ [(0, 48, [])]) ++ [(0, 24, [])]) ++ [(0, 24, [])]) : List pSh).length = n + 17 := by rw [List.length_append, len4]; first | rfl | done
  have q5 : ((((((S ++ [(0, 12, [])]) ++ [(0, 12, [])]) ++ [(0, 48, [])]) ++ [(0, 24, [])]) ++ [(0, 24, [])]) : List pSh)[n]? = some (17, 0, (shModel n).map opn) := by rw [List.getElem?_append_left (by rw [len4]; omega)]; exact q4
  refine lv_aload_n hx hb kX10_138 rfl (lv_at hl 0 rfl) ?_
  refine lv_bipush (v := nI 24) hx hb kX10_139 (by decide) ?_
  refine w_arrF (t := 0) (n := 24) (k := n) (a := 10) (b := 29) F (by decide) (by decide) hw_ai q5 rfl (by decide) (hasW_in (i := 1208) (by decide +kernel)) rfl rfl (by rw [len5, ← opn_e]; rfl) (tyX10_ok 29 (by decide)) (fun _ => rfl) (fun _ => rfl) (by rw [len5]; omega) (by rw [len5]; exact rws_hi (by omega)) (Nat.le_of_ble_eq_true rfl) (Nat.le_of_ble_eq_true rfl) kX10_141 kX10_143 hW hS fun H locs hW hS => ?_
  have len6 : (((((((S ++ [(0, 12, [])]) ++ [(0, 12, [])]) ++ [(0, 48, [])]) ++ [(0, 24, [])]) ++ [(0, 24, [])]) ++ [(0, 24, [])]) : List pSh).length = n + 18 := by rw [List.length_append, len5]; first | rfl | done
  have q6 : (((((((S ++ [(0, 12, [])]) ++ [(0, 12, [])]) ++ [(0, 48, [])]) ++ [(0, 24, [])]) ++ [(0, 24, [])]) ++ [(0, 24, [])]) : List pSh)[n]? = some (17, 0, (shModel n).map opn) := by rw [List.getElem?_append_left (by rw [len5]; omega)]; exact q5
  rw [List.append_assoc, List.append_assoc, List.append_assoc, List.append_assoc, List.append_assoc] at hW
  exact kk H locs hW hS
abbrev mA3 : List pSh := [(0, 24, []), (0, 24, []), (0, 4, []), (0, 4, []), (0, 4, []), (0, 4, [])]
abbrev mP3 : List (Nat × Int32) := [(30, 1), (31, 1), (32, 1), (33, 1), (34, 1), (35, 1)]
set_option maxHeartbeats 4000000 in
set_option maxRecDepth 100000 in
theorem mo_seg3 {p : Program} {l : Launch} {e : Env} {s : State} {m : MethodId} {args : Array Value} {below : List Frame} {meth : Method} {c : Code} {Q : State → Prop} {S : List pSh} {base : Nat} {adK : Nat → Nat} {un : Nat} {cA : Nat → ClassId} {dg : va_G} {H H0 : Heap} {locs : List Loc} {ls : Array Slot} {n : Nat} {σ : pSt} (F : kF p s m args meth c cX10_init RX10 cA dg) (hn : 54 < n) (hm : n + 43 ≤ 143) (hl : lv_has ls 1 [(0, .ref (adB base adK n 0))]) (len0 : S.length = n + 18) (q0 : S[n]? = some (17, 0, (shModel n).map opn)) (hW : wB base adK un cA dg S σ H) (hS : va_S (fun q => base ≤ q) H0 H locs) (kk : ∀ (H1 : Heap) (locs1 : List Loc), wB base adK un cA dg (S ++ mA3) (dsl σ.1 n mP3, σ.2) H1 → va_S (fun q => base ≤ q) H0 H1 locs1 → W p l e { frames := 12, cells := 42, slots := 4964, locals := 1000 } s m args below meth c H1 locs1 23 1836 Q (F0 m 190 ls [])) : W p l e { frames := 12, cells := 42, slots := 4964, locals := 1000 } s m args below meth c H locs 17 1772 Q (F0 m 146 ls []) := by
  have hx := F.1
  have hb := F.2.1
  refine lv_aload_n hx hb kX10_146 rfl (lv_at hl 0 rfl) ?_
  refine lv_bipush (v := nI 24) hx hb kX10_147 (by decide) ?_
  refine w_arrF (t := 0) (n := 24) (k := n) (a := 10) (b := 30) F (by decide) (by decide) hw_ai q0 rfl (by decide) (hasW_in (i := 1209) (by decide +kernel)) rfl rfl (by rw [len0, ← opn_e]; rfl) (tyX10_ok 30 (by decide)) (fun _ => rfl) (fun _ => rfl) (by rw [len0]; omega) (by rw [len0]; exact rws_hi (by omega)) (Nat.le_of_ble_eq_true rfl) (Nat.le_of_ble_eq_true rfl) kX10_149 kX10_151 hW hS fun H locs hW hS => ?_
  have len1 : ((S ++ [(0, 24, [])]) : List pSh).length = n + 19 := by rw [List.length_append, len0]; first | rfl | done
  have q1 : ((S ++ [(0, 24, [])]) : List pSh)[n]? = some (17, 0, (shModel n).map opn) := by rw [List.getElem?_append_left (by rw [len0]; omega)]; exact q0
  refine lv_aload_n hx hb kX10_154 rfl (lv_at hl 0 rfl) ?_
  refine lv_bipush (v := nI 24) hx hb kX10_155 (by decide) ?_
  refine w_arrF (t := 0) (n := 24) (k := n) (a := 10) (b := 31) F (by decide) (by decide) hw_ai q1 rfl (by decide) (hasW_in (i := 1210) (by decide +kernel)) rfl rfl (by rw [len1, ← opn_e]; rfl) (tyX10_ok 31 (by decide)) (fun _ => rfl) (fun _ => rfl) (by rw [len1]; omega) (by rw [len1]; exact rws_hi (by omega)) (Nat.le_of_ble_eq_true rfl) (Nat.le_of_ble_eq_true rfl) kX10_157 kX10_159 hW hS fun H locs hW hS => ?_
  have len2 : (((S ++ [(0, 24, [])]) ++ [(0, 24, [])]) : List pSh).length = n + 20 := by rw [List.length_append, len1]; first | rfl | done
  have q2 : (((S ++ [(0, 24, [])]) ++ [(0, 24, [])]) : List pSh)[n]? = some (17, 0, (shModel n).map opn) := by rw [List.getElem?_append_left (by rw [len1]; omega)]; exact q1
  refine lv_aload_n hx hb kX10_162 rfl (lv_at hl 0 rfl) ?_
  refine lv_iconst (v := nI 4) hx hb kX10_163 (by decide) ?_
  refine w_arrF (t := 0) (n := 4) (k := n) (a := 10) (b := 32) F (by decide) (by decide) hw_ai q2 rfl (by decide) (hasW_in (i := 1211) (by decide +kernel)) rfl rfl (by rw [len2, ← opn_e]; rfl) (tyX10_ok 32 (by decide)) (fun _ => rfl) (fun _ => rfl) (by rw [len2]; omega) (by rw [len2]; exact rws_hi (by omega)) (Nat.le_of_ble_eq_true rfl) (Nat.le_of_ble_eq_true rfl) kX10_164 kX10_166 hW hS fun H locs hW hS => ?_
  have len3 : ((((S ++ [(0, 24, [])]) ++ [(0, 24, [])]) ++ [(0, 4, [])]) : List pSh).length = n + 21 := by rw [List.length_append, len2]; first | rfl | done
  have q3 : ((((S ++ [(0, 24, [])]) ++ [(0, 24, [])]) ++ [(0, 4, [])]) : List pSh)[n]? = some (17, 0, (shModel n).map opn) := by rw [List.getElem?_append_left (by rw [len2]; omega)]; exact q2
  refine lv_aload_n hx hb kX10_169 rfl (lv_at hl 0 rfl) ?_
  refine lv_iconst (v := nI 4) hx hb kX10_170 (by decide) ?_
  refine w_arrF (t := 0) (n := 4) (k := n) (a := 10) (b := 33) F (by decide) (by decide) hw_ai q3 rfl (by decide) (hasW_in (i := 1212) (by decide +kernel)) rfl rfl (by rw [len3, ← opn_e]; rfl) (tyX10_ok 33 (by decide)) (fun _ => rfl) (fun _ => rfl) (by rw [len3]; omega) (by rw [len3]; exact rws_hi (by omega)) (Nat.le_of_ble_eq_true rfl) (Nat.le_of_ble_eq_true rfl) kX10_171 kX10_173 hW hS fun H locs hW hS => ?_
  have len4 : (((((S ++ [(0, 24, [])]) ++ [(0, 24, [])]) ++ [(0, 4, [])]) ++ [(0, 4, [])]) : List pSh).length = n + 22 := by rw [List.length_append, len3]; first | rfl | done
  have q4 : (((((S ++ [(0, 24, [])]) ++ [(0, 24, [])]) ++ [(0, 4, [])]) ++ [(0, 4, [])]) : List pSh)[n]? = some (17, 0, (shModel n).map opn) := by rw [List.getElem?_append_left (by rw [len3]; omega)]; exact q3
  refine lv_aload_n hx hb kX10_176 rfl (lv_at hl 0 rfl) ?_
  refine lv_iconst (v := nI 4) hx hb kX10_177 (by decide) ?_
  refine w_arrF (t := 0) (n := 4) (k := n) (a := 10) (b := 34) F (by decide) (by decide) hw_ai q4 rfl (by decide) (hasW_in (i := 1213) (by decide +kernel)) rfl rfl (by rw [len4, ← opn_e]; rfl) (tyX10_ok 34 (by decide)) (fun _ => rfl) (fun _ => rfl) (by rw [len4]; omega) (by rw [len4]; exact rws_hi (by omega)) (Nat.le_of_ble_eq_true rfl) (Nat.le_of_ble_eq_true rfl) kX10_178 kX10_180 hW hS fun H locs hW hS => ?_
  have len5 : ((((((S ++ [(0, 24, [])]) ++ [(0, 24, [])]) ++ [(0, 4, [])]) ++ [(0, 4, [])]) ++ [(0, 4, [])]) : List pSh).length = n + 23 := by rw [List.length_append, len4]; first | rfl | done
  have q5 : ((((((S ++ [(0, 24, [])]) ++ [(0, 24, [])]) ++ [(0, 4, [])]) ++ [(0, 4, [])]) ++ [(0, 4, [])]) : List pSh)[n]? = some (17, 0, (shModel n).map opn) := by rw [List.getElem?_append_left (by rw [len4]; omega)]; exact q4
  refine lv_aload_n hx hb kX10_183 rfl (lv_at hl 0 rfl) ?_
  refine lv_iconst (v := nI 4) hx hb kX10_184 (by decide) ?_
  refine w_arrF (t := 0) (n := 4) (k := n) (a := 10) (b := 35) F (by decide) (by decide) hw_ai q5 rfl (by decide) (hasW_in (i := 1214) (by decide +kernel)) rfl rfl (by rw [len5, ← opn_e]; rfl) (tyX10_ok 35 (by decide)) (fun _ => rfl) (fun _ => rfl) (by rw [len5]; omega) (by rw [len5]; exact rws_hi (by omega)) (Nat.le_of_ble_eq_true rfl) (Nat.le_of_ble_eq_true rfl) kX10_185 kX10_187 hW hS fun H locs hW hS => ?_
  have len6 : (((((((S ++ [(0, 24, [])]) ++ [(0, 24, [])]) ++ [(0, 4, [])]) ++ [(0, 4, [])]) ++ [(0, 4, [])]) ++ [(0, 4, [])]) : List pSh).length = n + 24 := by rw [List.length_append, len5]; first | rfl | done
  have q6 : (((((((S ++ [(0, 24, [])]) ++ [(0, 24, [])]) ++ [(0, 4, [])]) ++ [(0, 4, [])]) ++ [(0, 4, [])]) ++ [(0, 4, [])]) : List pSh)[n]? = some (17, 0, (shModel n).map opn) := by rw [List.getElem?_append_left (by rw [len5]; omega)]; exact q5
  rw [List.append_assoc, List.append_assoc, List.append_assoc, List.append_assoc, List.append_assoc] at hW
  exact kk H locs hW hS
abbrev mA4 : List pSh := [(0, 4, []), (2, 4, []), (0, 120, []), (0, 120, []), (0, 120, []), (0, 120, [])]
abbrev mP4 : List (Nat × Int32) := [(36, 1), (37, 1), (38, 1), (39, 1), (40, 1), (41, 1)]
set_option maxHeartbeats 4000000 in
set_option maxRecDepth 100000 in
theorem mo_seg4 {p : Program} {l : Launch} {e : Env} {s : State} {m : MethodId} {args : Array Value} {below : List Frame} {meth : Method} {c : Code} {Q : State → Prop} {S : List pSh} {base : Nat} {adK : Nat → Nat} {un : Nat} {cA : Nat → ClassId} {dg : va_G} {H H0 : Heap} {locs : List Loc} {ls : Array Slot} {n : Nat} {σ : pSt} (F : kF p s m args meth c cX10_init RX10 cA dg) (hn : 54 < n) (hm : n + 43 ≤ 143) (hl : lv_has ls 1 [(0, .ref (adB base adK n 0))]) (len0 : S.length = n + 24) (q0 : S[n]? = some (17, 0, (shModel n).map opn)) (hW : wB base adK un cA dg S σ H) (hS : va_S (fun q => base ≤ q) H0 H locs) (kk : ∀ (H1 : Heap) (locs1 : List Loc), wB base adK un cA dg (S ++ mA4) (dsl σ.1 n mP4, σ.2) H1 → va_S (fun q => base ≤ q) H0 H1 locs1 → W p l e { frames := 12, cells := 42, slots := 4964, locals := 1000 } s m args below meth c H1 locs1 29 2324 Q (F0 m 236 ls [])) : W p l e { frames := 12, cells := 42, slots := 4964, locals := 1000 } s m args below meth c H locs 23 1836 Q (F0 m 190 ls []) := by
  have hx := F.1
  have hb := F.2.1
  refine lv_aload_n hx hb kX10_190 rfl (lv_at hl 0 rfl) ?_
  refine lv_iconst (v := nI 4) hx hb kX10_191 (by decide) ?_
  refine w_arrF (t := 0) (n := 4) (k := n) (a := 10) (b := 36) F (by decide) (by decide) hw_ai q0 rfl (by decide) (hasW_in (i := 1215) (by decide +kernel)) rfl rfl (by rw [len0, ← opn_e]; rfl) (tyX10_ok 36 (by decide)) (fun _ => rfl) (fun _ => rfl) (by rw [len0]; omega) (by rw [len0]; exact rws_hi (by omega)) (Nat.le_of_ble_eq_true rfl) (Nat.le_of_ble_eq_true rfl) kX10_192 kX10_194 hW hS fun H locs hW hS => ?_
  have len1 : ((S ++ [(0, 4, [])]) : List pSh).length = n + 25 := by rw [List.length_append, len0]; first | rfl | done
  have q1 : ((S ++ [(0, 4, [])]) : List pSh)[n]? = some (17, 0, (shModel n).map opn) := by rw [List.getElem?_append_left (by rw [len0]; omega)]; exact q0
  refine lv_aload_n hx hb kX10_197 rfl (lv_at hl 0 rfl) ?_
  refine lv_iconst (v := nI 4) hx hb kX10_198 (by decide) ?_
  refine w_arrF (t := 2) (n := 4) (k := n) (a := 10) (b := 37) F (by decide) (by decide) hw_az q1 rfl (by decide) (hasW_in (i := 1216) (by decide +kernel)) rfl rfl (by rw [len1, ← opn_e]; rfl) (tyX10_ok 37 (by decide)) (fun _ => rfl) (fun _ => rfl) (by rw [len1]; omega) (by rw [len1]; exact rws_hi (by omega)) (Nat.le_of_ble_eq_true rfl) (Nat.le_of_ble_eq_true rfl) kX10_199 kX10_201 hW hS fun H locs hW hS => ?_
  have len2 : (((S ++ [(0, 4, [])]) ++ [(2, 4, [])]) : List pSh).length = n + 26 := by rw [List.length_append, len1]; first | rfl | done
  have q2 : (((S ++ [(0, 4, [])]) ++ [(2, 4, [])]) : List pSh)[n]? = some (17, 0, (shModel n).map opn) := by rw [List.getElem?_append_left (by rw [len1]; omega)]; exact q1
  refine lv_aload_n hx hb kX10_204 rfl (lv_at hl 0 rfl) ?_
  refine lv_bipush (v := nI 120) hx hb kX10_205 (by decide) ?_
  refine w_arrF (t := 0) (n := 120) (k := n) (a := 10) (b := 38) F (by decide) (by decide) hw_ai q2 rfl (by decide) (hasW_in (i := 1217) (by decide +kernel)) rfl rfl (by rw [len2, ← opn_e]; rfl) (tyX10_ok 38 (by decide)) (fun _ => rfl) (fun _ => rfl) (by rw [len2]; omega) (by rw [len2]; exact rws_hi (by omega)) (Nat.le_of_ble_eq_true rfl) (Nat.le_of_ble_eq_true rfl) kX10_207 kX10_209 hW hS fun H locs hW hS => ?_
  have len3 : ((((S ++ [(0, 4, [])]) ++ [(2, 4, [])]) ++ [(0, 120, [])]) : List pSh).length = n + 27 := by rw [List.length_append, len2]; first | rfl | done
  have q3 : ((((S ++ [(0, 4, [])]) ++ [(2, 4, [])]) ++ [(0, 120, [])]) : List pSh)[n]? = some (17, 0, (shModel n).map opn) := by rw [List.getElem?_append_left (by rw [len2]; omega)]; exact q2
  refine lv_aload_n hx hb kX10_212 rfl (lv_at hl 0 rfl) ?_
  refine lv_bipush (v := nI 120) hx hb kX10_213 (by decide) ?_
  refine w_arrF (t := 0) (n := 120) (k := n) (a := 10) (b := 39) F (by decide) (by decide) hw_ai q3 rfl (by decide) (hasW_in (i := 1218) (by decide +kernel)) rfl rfl (by rw [len3, ← opn_e]; rfl) (tyX10_ok 39 (by decide)) (fun _ => rfl) (fun _ => rfl) (by rw [len3]; omega) (by rw [len3]; exact rws_hi (by omega)) (Nat.le_of_ble_eq_true rfl) (Nat.le_of_ble_eq_true rfl) kX10_215 kX10_217 hW hS fun H locs hW hS => ?_
  have len4 : (((((S ++ [(0, 4, [])]) ++ [(2, 4, [])]) ++ [(0, 120, [])]) ++ [(0, 120, [])]) : List pSh).length = n + 28 := by rw [List.length_append, len3]; first | rfl | done
  have q4 : (((((S ++ [(0, 4, [])]) ++ [(2, 4, [])]) ++ [(0, 120, [])]) ++ [(0, 120, [])]) : List pSh)[n]? = some (17, 0, (shModel n).map opn) := by rw [List.getElem?_append_left (by rw [len3]; omega)]; exact q3
  refine lv_aload_n hx hb kX10_220 rfl (lv_at hl 0 rfl) ?_
  refine lv_bipush (v := nI 120) hx hb kX10_221 (by decide) ?_
  refine w_arrF (t := 0) (n := 120) (k := n) (a := 10) (b := 40) F (by decide) (by decide) hw_ai q4 rfl (by decide) (hasW_in (i := 1219) (by decide +kernel)) rfl rfl (by rw [len4, ← opn_e]; rfl) (tyX10_ok 40 (by decide)) (fun _ => rfl) (fun _ => rfl) (by rw [len4]; omega) (by rw [len4]; exact rws_hi (by omega)) (Nat.le_of_ble_eq_true rfl) (Nat.le_of_ble_eq_true rfl) kX10_223 kX10_225 hW hS fun H locs hW hS => ?_
  have len5 : ((((((S ++ [(0, 4, [])]) ++ [(2, 4, [])]) ++ [(0, 120, [])]) ++ [(0, 120, [])]) ++ [(0, 120, [])]) : List pSh).length = n + 29 := by rw [List.length_append, len4]; first | rfl | done
  have q5 : ((((((S ++ [(0, 4, [])]) ++ [(2, 4, [])]) ++ [(0, 120, [])]) ++ [(0, 120, [])]) ++ [(0, 120, [])]) : List pSh)[n]? = some (17, 0, (shModel n).map opn) := by rw [List.getElem?_append_left (by rw [len4]; omega)]; exact q4
  refine lv_aload_n hx hb kX10_228 rfl (lv_at hl 0 rfl) ?_
  refine lv_bipush (v := nI 120) hx hb kX10_229 (by decide) ?_
  refine w_arrF (t := 0) (n := 120) (k := n) (a := 10) (b := 41) F (by decide) (by decide) hw_ai q5 rfl (by decide) (hasW_in (i := 1220) (by decide +kernel)) rfl rfl (by rw [len5, ← opn_e]; rfl) (tyX10_ok 41 (by decide)) (fun _ => rfl) (fun _ => rfl) (by rw [len5]; omega) (by rw [len5]; exact rws_hi (by omega)) (Nat.le_of_ble_eq_true rfl) (Nat.le_of_ble_eq_true rfl) kX10_231 kX10_233 hW hS fun H locs hW hS => ?_
  have len6 : (((((((S ++ [(0, 4, [])]) ++ [(2, 4, [])]) ++ [(0, 120, [])]) ++ [(0, 120, [])]) ++ [(0, 120, [])]) ++ [(0, 120, [])]) : List pSh).length = n + 30 := by rw [List.length_append, len5]; first | rfl | done
  have q6 : (((((((S ++ [(0, 4, [])]) ++ [(2, 4, [])]) ++ [(0, 120, [])]) ++ [(0, 120, [])]) ++ [(0, 120, [])]) ++ [(0, 120, [])]) : List pSh)[n]? = some (17, 0, (shModel n).map opn) := by rw [List.getElem?_append_left (by rw [len5]; omega)]; exact q5
  rw [List.append_assoc, List.append_assoc, List.append_assoc, List.append_assoc, List.append_assoc] at hW
  exact kk H locs hW hS
abbrev mA5 : List pSh := [(0, 120, []), (0, 1920, []), (0, 40, []), (0, 40, []), (0, 40, []), (0, 30, [])]
abbrev mP5 : List (Nat × Int32) := [(42, 1), (43, 1), (45, 1), (46, 1), (47, 1), (51, 1)]
set_option maxHeartbeats 4000000 in
set_option maxRecDepth 100000 in
theorem mo_seg5 {p : Program} {l : Launch} {e : Env} {s : State} {m : MethodId} {args : Array Value} {below : List Frame} {meth : Method} {c : Code} {Q : State → Prop} {S : List pSh} {base : Nat} {adK : Nat → Nat} {un : Nat} {cA : Nat → ClassId} {dg : va_G} {H H0 : Heap} {locs : List Loc} {ls : Array Slot} {n : Nat} {σ : pSt} (F : kF p s m args meth c cX10_init RX10 cA dg) (hn : 54 < n) (hm : n + 43 ≤ 143) (hl : lv_has ls 1 [(0, .ref (adB base adK n 0))]) (len0 : S.length = n + 30) (q0 : S[n]? = some (17, 0, (shModel n).map opn)) (hW : wB base adK un cA dg S σ H) (hS : va_S (fun q => base ≤ q) H0 H locs) (kk : ∀ (H1 : Heap) (locs1 : List Loc), wB base adK un cA dg (S ++ mA5) (dsl σ.1 n mP5, σ.2) H1 → va_S (fun q => base ≤ q) H0 H1 locs1 → W p l e { frames := 12, cells := 42, slots := 4964, locals := 1000 } s m args below meth c H1 locs1 35 4514 Q (F0 m 285 ls [])) : W p l e { frames := 12, cells := 42, slots := 4964, locals := 1000 } s m args below meth c H locs 29 2324 Q (F0 m 236 ls []) := by
  have hx := F.1
  have hb := F.2.1
  refine lv_aload_n hx hb kX10_236 rfl (lv_at hl 0 rfl) ?_
  refine lv_bipush (v := nI 120) hx hb kX10_237 (by decide) ?_
  refine w_arrF (t := 0) (n := 120) (k := n) (a := 10) (b := 42) F (by decide) (by decide) hw_ai q0 rfl (by decide) (hasW_in (i := 1221) (by decide +kernel)) rfl rfl (by rw [len0, ← opn_e]; rfl) (tyX10_ok 42 (by decide)) (fun _ => rfl) (fun _ => rfl) (by rw [len0]; omega) (by rw [len0]; exact rws_hi (by omega)) (Nat.le_of_ble_eq_true rfl) (Nat.le_of_ble_eq_true rfl) kX10_239 kX10_241 hW hS fun H locs hW hS => ?_
  have len1 : ((S ++ [(0, 120, [])]) : List pSh).length = n + 31 := by rw [List.length_append, len0]; first | rfl | done
  have q1 : ((S ++ [(0, 120, [])]) : List pSh)[n]? = some (17, 0, (shModel n).map opn) := by rw [List.getElem?_append_left (by rw [len0]; omega)]; exact q0
  refine lv_aload_n hx hb kX10_244 rfl (lv_at hl 0 rfl) ?_
  refine lv_sipush (v := nI 1920) hx hb kX10_245 (by decide) ?_
  refine w_arrF (t := 0) (n := 1920) (k := n) (a := 10) (b := 43) F (by decide) (by decide) hw_ai q1 rfl (by decide) (hasW_in (i := 1222) (by decide +kernel)) rfl rfl (by rw [len1, ← opn_e]; rfl) (tyX10_ok 43 (by decide)) (fun _ => rfl) (fun _ => rfl) (by rw [len1]; omega) (by rw [len1]; exact rws_hi (by omega)) (Nat.le_of_ble_eq_true rfl) (Nat.le_of_ble_eq_true rfl) kX10_248 kX10_250 hW hS fun H locs hW hS => ?_
  have len2 : (((S ++ [(0, 120, [])]) ++ [(0, 1920, [])]) : List pSh).length = n + 32 := by rw [List.length_append, len1]; first | rfl | done
  have q2 : (((S ++ [(0, 120, [])]) ++ [(0, 1920, [])]) : List pSh)[n]? = some (17, 0, (shModel n).map opn) := by rw [List.getElem?_append_left (by rw [len1]; omega)]; exact q1
  refine lv_aload_n hx hb kX10_253 rfl (lv_at hl 0 rfl) ?_
  refine lv_bipush (v := nI 40) hx hb kX10_254 (by decide) ?_
  refine w_arrF (t := 0) (n := 40) (k := n) (a := 10) (b := 45) F (by decide) (by decide) hw_ai q2 rfl (by decide) (hasW_in (i := 1224) (by decide +kernel)) rfl rfl (by rw [len2, ← opn_e]; rfl) (tyX10_ok 45 (by decide)) (fun _ => rfl) (fun _ => rfl) (by rw [len2]; omega) (by rw [len2]; exact rws_hi (by omega)) (Nat.le_of_ble_eq_true rfl) (Nat.le_of_ble_eq_true rfl) kX10_256 kX10_258 hW hS fun H locs hW hS => ?_
  have len3 : ((((S ++ [(0, 120, [])]) ++ [(0, 1920, [])]) ++ [(0, 40, [])]) : List pSh).length = n + 33 := by rw [List.length_append, len2]; first | rfl | done
  have q3 : ((((S ++ [(0, 120, [])]) ++ [(0, 1920, [])]) ++ [(0, 40, [])]) : List pSh)[n]? = some (17, 0, (shModel n).map opn) := by rw [List.getElem?_append_left (by rw [len2]; omega)]; exact q2
  refine lv_aload_n hx hb kX10_261 rfl (lv_at hl 0 rfl) ?_
  refine lv_bipush (v := nI 40) hx hb kX10_262 (by decide) ?_
  refine w_arrF (t := 0) (n := 40) (k := n) (a := 10) (b := 46) F (by decide) (by decide) hw_ai q3 rfl (by decide) (hasW_in (i := 1225) (by decide +kernel)) rfl rfl (by rw [len3, ← opn_e]; rfl) (tyX10_ok 46 (by decide)) (fun _ => rfl) (fun _ => rfl) (by rw [len3]; omega) (by rw [len3]; exact rws_hi (by omega)) (Nat.le_of_ble_eq_true rfl) (Nat.le_of_ble_eq_true rfl) kX10_264 kX10_266 hW hS fun H locs hW hS => ?_
  have len4 : (((((S ++ [(0, 120, [])]) ++ [(0, 1920, [])]) ++ [(0, 40, [])]) ++ [(0, 40, [])]) : List pSh).length = n + 34 := by rw [List.length_append, len3]; first | rfl | done
  have q4 : (((((S ++ [(0, 120, [])]) ++ [(0, 1920, [])]) ++ [(0, 40, [])]) ++ [(0, 40, [])]) : List pSh)[n]? = some (17, 0, (shModel n).map opn) := by rw [List.getElem?_append_left (by rw [len3]; omega)]; exact q3
  refine lv_aload_n hx hb kX10_269 rfl (lv_at hl 0 rfl) ?_
  refine lv_bipush (v := nI 40) hx hb kX10_270 (by decide) ?_
  refine w_arrF (t := 0) (n := 40) (k := n) (a := 10) (b := 47) F (by decide) (by decide) hw_ai q4 rfl (by decide) (hasW_in (i := 1226) (by decide +kernel)) rfl rfl (by rw [len4, ← opn_e]; rfl) (tyX10_ok 47 (by decide)) (fun _ => rfl) (fun _ => rfl) (by rw [len4]; omega) (by rw [len4]; exact rws_hi (by omega)) (Nat.le_of_ble_eq_true rfl) (Nat.le_of_ble_eq_true rfl) kX10_272 kX10_274 hW hS fun H locs hW hS => ?_
  have len5 : ((((((S ++ [(0, 120, [])]) ++ [(0, 1920, [])]) ++ [(0, 40, [])]) ++ [(0, 40, [])]) ++ [(0, 40, [])]) : List pSh).length = n + 35 := by rw [List.length_append, len4]; first | rfl | done
  have q5 : ((((((S ++ [(0, 120, [])]) ++ [(0, 1920, [])]) ++ [(0, 40, [])]) ++ [(0, 40, [])]) ++ [(0, 40, [])]) : List pSh)[n]? = some (17, 0, (shModel n).map opn) := by rw [List.getElem?_append_left (by rw [len4]; omega)]; exact q4
  refine lv_aload_n hx hb kX10_277 rfl (lv_at hl 0 rfl) ?_
  refine lv_bipush (v := nI 30) hx hb kX10_278 (by decide) ?_
  refine w_arrF (t := 0) (n := 30) (k := n) (a := 10) (b := 51) F (by decide) (by decide) hw_ai q5 rfl (by decide) (hasW_in (i := 1230) (by decide +kernel)) rfl rfl (by rw [len5, ← opn_e]; rfl) (tyX10_ok 51 (by decide)) (fun _ => rfl) (fun _ => rfl) (by rw [len5]; omega) (by rw [len5]; exact rws_hi (by omega)) (Nat.le_of_ble_eq_true rfl) (Nat.le_of_ble_eq_true rfl) kX10_280 kX10_282 hW hS fun H locs hW hS => ?_
  have len6 : (((((((S ++ [(0, 120, [])]) ++ [(0, 1920, [])]) ++ [(0, 40, [])]) ++ [(0, 40, [])]) ++ [(0, 40, [])]) ++ [(0, 30, [])]) : List pSh).length = n + 36 := by rw [List.length_append, len5]; first | rfl | done
  have q6 : (((((((S ++ [(0, 120, [])]) ++ [(0, 1920, [])]) ++ [(0, 40, [])]) ++ [(0, 40, [])]) ++ [(0, 40, [])]) ++ [(0, 30, [])]) : List pSh)[n]? = some (17, 0, (shModel n).map opn) := by rw [List.getElem?_append_left (by rw [len5]; omega)]; exact q5
  rw [List.append_assoc, List.append_assoc, List.append_assoc, List.append_assoc, List.append_assoc] at hW
  exact kk H locs hW hS
abbrev mA6 : List pSh := [(0, 30, []), (0, 30, []), (0, 30, []), (0, 20, []), (0, 20, []), (0, 20, [])]
abbrev mP6 : List (Nat × Int32) := [(52, 1), (53, 1), (54, 1), (55, 1), (56, 1), (57, 1)]
set_option maxHeartbeats 4000000 in
set_option maxRecDepth 100000 in
theorem mo_seg6 {p : Program} {l : Launch} {e : Env} {s : State} {m : MethodId} {args : Array Value} {below : List Frame} {meth : Method} {c : Code} {Q : State → Prop} {S : List pSh} {base : Nat} {adK : Nat → Nat} {un : Nat} {cA : Nat → ClassId} {dg : va_G} {H H0 : Heap} {locs : List Loc} {ls : Array Slot} {n : Nat} {σ : pSt} (F : kF p s m args meth c cX10_init RX10 cA dg) (hn : 54 < n) (hm : n + 43 ≤ 143) (hl : lv_has ls 1 [(0, .ref (adB base adK n 0))]) (len0 : S.length = n + 36) (q0 : S[n]? = some (17, 0, (shModel n).map opn)) (hW : wB base adK un cA dg S σ H) (hS : va_S (fun q => base ≤ q) H0 H locs) (kk : ∀ (H1 : Heap) (locs1 : List Loc), wB base adK un cA dg (S ++ mA6) (dsl σ.1 n mP6, σ.2) H1 → va_S (fun q => base ≤ q) H0 H1 locs1 → W p l e { frames := 12, cells := 42, slots := 4964, locals := 1000 } s m args below meth c H1 locs1 41 4664 Q (F0 m 333 ls [])) : W p l e { frames := 12, cells := 42, slots := 4964, locals := 1000 } s m args below meth c H locs 35 4514 Q (F0 m 285 ls []) := by
  have hx := F.1
  have hb := F.2.1
  refine lv_aload_n hx hb kX10_285 rfl (lv_at hl 0 rfl) ?_
  refine lv_bipush (v := nI 30) hx hb kX10_286 (by decide) ?_
  refine w_arrF (t := 0) (n := 30) (k := n) (a := 10) (b := 52) F (by decide) (by decide) hw_ai q0 rfl (by decide) (hasW_in (i := 1231) (by decide +kernel)) rfl rfl (by rw [len0, ← opn_e]; rfl) (tyX10_ok 52 (by decide)) (fun _ => rfl) (fun _ => rfl) (by rw [len0]; omega) (by rw [len0]; exact rws_hi (by omega)) (Nat.le_of_ble_eq_true rfl) (Nat.le_of_ble_eq_true rfl) kX10_288 kX10_290 hW hS fun H locs hW hS => ?_
  have len1 : ((S ++ [(0, 30, [])]) : List pSh).length = n + 37 := by rw [List.length_append, len0]; first | rfl | done
  have q1 : ((S ++ [(0, 30, [])]) : List pSh)[n]? = some (17, 0, (shModel n).map opn) := by rw [List.getElem?_append_left (by rw [len0]; omega)]; exact q0
  refine lv_aload_n hx hb kX10_293 rfl (lv_at hl 0 rfl) ?_
  refine lv_bipush (v := nI 30) hx hb kX10_294 (by decide) ?_
  refine w_arrF (t := 0) (n := 30) (k := n) (a := 10) (b := 53) F (by decide) (by decide) hw_ai q1 rfl (by decide) (hasW_in (i := 1232) (by decide +kernel)) rfl rfl (by rw [len1, ← opn_e]; rfl) (tyX10_ok 53 (by decide)) (fun _ => rfl) (fun _ => rfl) (by rw [len1]; omega) (by rw [len1]; exact rws_hi (by omega)) (Nat.le_of_ble_eq_true rfl) (Nat.le_of_ble_eq_true rfl) kX10_296 kX10_298 hW hS fun H locs hW hS => ?_
  have len2 : (((S ++ [(0, 30, [])]) ++ [(0, 30, [])]) : List pSh).length = n + 38 := by rw [List.length_append, len1]; first | rfl | done
  have q2 : (((S ++ [(0, 30, [])]) ++ [(0, 30, [])]) : List pSh)[n]? = some (17, 0, (shModel n).map opn) := by rw [List.getElem?_append_left (by rw [len1]; omega)]; exact q1
  refine lv_aload_n hx hb kX10_301 rfl (lv_at hl 0 rfl) ?_
  refine lv_bipush (v := nI 30) hx hb kX10_302 (by decide) ?_
  refine w_arrF (t := 0) (n := 30) (k := n) (a := 10) (b := 54) F (by decide) (by decide) hw_ai q2 rfl (by decide) (hasW_in (i := 1233) (by decide +kernel)) rfl rfl (by rw [len2, ← opn_e]; rfl) (tyX10_ok 54 (by decide)) (fun _ => rfl) (fun _ => rfl) (by rw [len2]; omega) (by rw [len2]; exact rws_hi (by omega)) (Nat.le_of_ble_eq_true rfl) (Nat.le_of_ble_eq_true rfl) kX10_304 kX10_306 hW hS fun H locs hW hS => ?_
  have len3 : ((((S ++ [(0, 30, [])]) ++ [(0, 30, [])]) ++ [(0, 30, [])]) : List pSh).length = n + 39 := by rw [List.length_append, len2]; first | rfl | done
  have q3 : ((((S ++ [(0, 30, [])]) ++ [(0, 30, [])]) ++ [(0, 30, [])]) : List pSh)[n]? = some (17, 0, (shModel n).map opn) := by rw [List.getElem?_append_left (by rw [len2]; omega)]; exact q2
  refine lv_aload_n hx hb kX10_309 rfl (lv_at hl 0 rfl) ?_
  refine lv_bipush (v := nI 20) hx hb kX10_310 (by decide) ?_
  refine w_arrF (t := 0) (n := 20) (k := n) (a := 10) (b := 55) F (by decide) (by decide) hw_ai q3 rfl (by decide) (hasW_in (i := 1234) (by decide +kernel)) rfl rfl (by rw [len3, ← opn_e]; rfl) (tyX10_ok 55 (by decide)) (fun _ => rfl) (fun _ => rfl) (by rw [len3]; omega) (by rw [len3]; exact rws_hi (by omega)) (Nat.le_of_ble_eq_true rfl) (Nat.le_of_ble_eq_true rfl) kX10_312 kX10_314 hW hS fun H locs hW hS => ?_
  have len4 : (((((S ++ [(0, 30, [])]) ++ [(0, 30, [])]) ++ [(0, 30, [])]) ++ [(0, 20, [])]) : List pSh).length = n + 40 := by rw [List.length_append, len3]; first | rfl | done
  have q4 : (((((S ++ [(0, 30, [])]) ++ [(0, 30, [])]) ++ [(0, 30, [])]) ++ [(0, 20, [])]) : List pSh)[n]? = some (17, 0, (shModel n).map opn) := by rw [List.getElem?_append_left (by rw [len3]; omega)]; exact q3
  refine lv_aload_n hx hb kX10_317 rfl (lv_at hl 0 rfl) ?_
  refine lv_bipush (v := nI 20) hx hb kX10_318 (by decide) ?_
  refine w_arrF (t := 0) (n := 20) (k := n) (a := 10) (b := 56) F (by decide) (by decide) hw_ai q4 rfl (by decide) (hasW_in (i := 1235) (by decide +kernel)) rfl rfl (by rw [len4, ← opn_e]; rfl) (tyX10_ok 56 (by decide)) (fun _ => rfl) (fun _ => rfl) (by rw [len4]; omega) (by rw [len4]; exact rws_hi (by omega)) (Nat.le_of_ble_eq_true rfl) (Nat.le_of_ble_eq_true rfl) kX10_320 kX10_322 hW hS fun H locs hW hS => ?_
  have len5 : ((((((S ++ [(0, 30, [])]) ++ [(0, 30, [])]) ++ [(0, 30, [])]) ++ [(0, 20, [])]) ++ [(0, 20, [])]) : List pSh).length = n + 41 := by rw [List.length_append, len4]; first | rfl | done
  have q5 : ((((((S ++ [(0, 30, [])]) ++ [(0, 30, [])]) ++ [(0, 30, [])]) ++ [(0, 20, [])]) ++ [(0, 20, [])]) : List pSh)[n]? = some (17, 0, (shModel n).map opn) := by rw [List.getElem?_append_left (by rw [len4]; omega)]; exact q4
  refine lv_aload_n hx hb kX10_325 rfl (lv_at hl 0 rfl) ?_
  refine lv_bipush (v := nI 20) hx hb kX10_326 (by decide) ?_
  refine w_arrF (t := 0) (n := 20) (k := n) (a := 10) (b := 57) F (by decide) (by decide) hw_ai q5 rfl (by decide) (hasW_in (i := 1236) (by decide +kernel)) rfl rfl (by rw [len5, ← opn_e]; rfl) (tyX10_ok 57 (by decide)) (fun _ => rfl) (fun _ => rfl) (by rw [len5]; omega) (by rw [len5]; exact rws_hi (by omega)) (Nat.le_of_ble_eq_true rfl) (Nat.le_of_ble_eq_true rfl) kX10_328 kX10_330 hW hS fun H locs hW hS => ?_
  have len6 : (((((((S ++ [(0, 30, [])]) ++ [(0, 30, [])]) ++ [(0, 30, [])]) ++ [(0, 20, [])]) ++ [(0, 20, [])]) ++ [(0, 20, [])]) : List pSh).length = n + 42 := by rw [List.length_append, len5]; first | rfl | done
  have q6 : (((((((S ++ [(0, 30, [])]) ++ [(0, 30, [])]) ++ [(0, 30, [])]) ++ [(0, 20, [])]) ++ [(0, 20, [])]) ++ [(0, 20, [])]) : List pSh)[n]? = some (17, 0, (shModel n).map opn) := by rw [List.getElem?_append_left (by rw [len5]; omega)]; exact q5
  rw [List.append_assoc, List.append_assoc, List.append_assoc, List.append_assoc, List.append_assoc] at hW
  exact kk H locs hW hS
abbrev mA7 : List pSh := [(2, 300, [])]
abbrev mP7 : List (Nat × Int32) := [(58, 1)]
set_option maxHeartbeats 4000000 in
set_option maxRecDepth 100000 in
theorem mo_seg7 {p : Program} {l : Launch} {e : Env} {s : State} {m : MethodId} {args : Array Value} {below : List Frame} {meth : Method} {c : Code} {Q : State → Prop} {S : List pSh} {base : Nat} {adK : Nat → Nat} {un : Nat} {cA : Nat → ClassId} {dg : va_G} {H H0 : Heap} {locs : List Loc} {ls : Array Slot} {n : Nat} {σ : pSt} (F : kF p s m args meth c cX10_init RX10 cA dg) (hn : 54 < n) (hm : n + 43 ≤ 143) (hl : lv_has ls 1 [(0, .ref (adB base adK n 0))]) (len0 : S.length = n + 42) (q0 : S[n]? = some (17, 0, (shModel n).map opn)) (hW : wB base adK un cA dg S σ H) (hS : va_S (fun q => base ≤ q) H0 H locs) (kk : ∀ (H1 : Heap) (locs1 : List Loc), wB base adK un cA dg (S ++ mA7) (dsl σ.1 n mP7, σ.2) H1 → va_S (fun q => base ≤ q) H0 H1 locs1 → W p l e { frames := 12, cells := 42, slots := 4964, locals := 1000 } s m args below meth c H1 locs1 42 4964 Q (F0 m 342 ls [])) : W p l e { frames := 12, cells := 42, slots := 4964, locals := 1000 } s m args below meth c H locs 41 4664 Q (F0 m 333 ls []) := by
  have hx := F.1
  have hb := F.2.1
  refine lv_aload_n hx hb kX10_333 rfl (lv_at hl 0 rfl) ?_
  refine lv_sipush (v := nI 300) hx hb kX10_334 (by decide) ?_
  refine w_arrF (t := 2) (n := 300) (k := n) (a := 10) (b := 58) F (by decide) (by decide) hw_az q0 rfl (by decide) (hasW_in (i := 1237) (by decide +kernel)) rfl rfl (by rw [len0, ← opn_e]; rfl) (tyX10_ok 58 (by decide)) (fun _ => rfl) (fun _ => rfl) (by rw [len0]; omega) (by rw [len0]; exact rws_hi (by omega)) (Nat.le_of_ble_eq_true rfl) (Nat.le_of_ble_eq_true rfl) kX10_337 kX10_339 hW hS fun H locs hW hS => ?_
  have len1 : ((S ++ [(2, 300, [])]) : List pSh).length = n + 43 := by rw [List.length_append, len0]; first | rfl | done
  have q1 : ((S ++ [(2, 300, [])]) : List pSh)[n]? = some (17, 0, (shModel n).map opn) := by rw [List.getElem?_append_left (by rw [len0]; omega)]; exact q0
  exact kk H locs hW hS
