/-! the law: its loop -/
section LAW
variable {G : GG} {X : CX} {own : String} {cc : ByteArray} {nL lv pc : Nat} {rt : Option FieldType} {Q : State → Prop} {S : ST} {L L' : List (Nat × Value)} {st : List Value} {b N : Nat} {sc : Nat → Int32}
theorem at_scrld (C : Cx G X own cc nL lv rt) (hX : va_X b N sc (xs X) (xs X).heap) (hbl : b < (xs X).heap.size) (hbA : ¬ Aw G b) {i : Nat} (k : Nat) (hi : i + k < N) (hN : N ≤ 3072) (d : decode cc pc = .ok (.iaload, 1)) (kk : At G X nL Q (pc + 1) L (.int (sc (i + k)) :: st) S) : At G X nL Q pc L (.int (nI i + nI k) :: .ref b :: st) S := by
  intro ls H locs hl hP hS
  rw [nI_add]
  refine va_sld C.1 C.2.1 hX hbl hbA hS (inb_in (inb_n hi (by omega))) d ?_
  rw [nI_clamp (by omega)]
  exact kk ls H locs hl hP hS
theorem at_scrlen (C : Cx G X own cc nL lv rt) (hX : va_X b N sc (xs X) (xs X).heap) (hbl : b < (xs X).heap.size) (hbA : ¬ Aw G b) (d : decode cc pc = .ok (.arraylength, 1)) (kk : At G X nL Q (pc + 1) L (.int (nI N) :: st) S) : At G X nL Q pc L (.ref b :: st) S := fun ls H locs hl hP hS => va_slen C.1 C.2.1 hX hbl hbA hS d (kk ls H locs hl hP hS)

theorem lw_road (C : Cx G X RcLw code 4 lv (some .boolean)) (hlv : 40 ≤ lv) (hX : va_X b N sc (xs X) (xs X).heap) (hbl : b < (xs X).heap.size) (hbA : ¬ Aw G b) (hN : N ≤ 3072) {i : Nat} (hi : i + 6 ≤ N) (h : Rel S) (kk : ∀ S2, Rel S2 → At G X 4 Q 937 [(3, .int (nI i)), (0, .ref b), (1, .ref (ad G 0)), (2, .ref (ad G 40))] [] S2) : At G X 4 Q 144 [(3, .int (nI i)), (0, .ref b), (1, .ref (ad G 0)), (2, .ref (ad G 40))] [] S := by
  obtain ⟨r, S1, S2, m1, m2, hR⟩ := lo_road (l := xl X) C.2.2.2.2.2.2.1 h (sc (i + 1)) (sc (i + 2)) (sc (i + 3))
  refine at_aload_n (j := 2) C dlw_144 rfl rfl ?_
  refine at_aload_n (j := 1) C dlw_145 rfl rfl ?_
  refine at_iload_n (j := 0) C dlw_146 rfl rfl ?_
  refine at_iconst (x := nI 1) C dlw_147 rfl ?_
  refine at_iadd C dlw_148 ?_
  refine at_scrld C hX hbl hbA 1 (by omega) hN dlw_149 ?_
  refine at_aload_n (j := 1) C dlw_150 rfl rfl ?_
  refine at_iload_n (j := 0) C dlw_151 rfl rfl ?_
  refine at_iconst (x := nI 2) C dlw_152 rfl ?_
  refine at_iadd C dlw_153 ?_
  refine at_scrld C hX hbl hbA 2 (by omega) hN dlw_154 ?_
  refine at_aload_n (j := 1) C dlw_155 rfl rfl ?_
  refine at_iload_n (j := 0) C dlw_156 rfl rfl ?_
  refine at_iconst (x := nI 3) C dlw_157 rfl ?_
  refine at_iadd C dlw_158 ?_
  refine at_scrld C hX hbl hbA 3 (by omega) hN dlw_159 ?_
  refine at_callV C kLw_13 m1 (by omega) rfl rfl rfl rfl (Nat.le_of_ble_eq_true rfl) dlw_160 ?_
  refine at_aload_n (j := 3) C dlw_163 rfl rfl ?_
  refine at_aload_n (j := 1) C dlw_164 rfl rfl ?_
  refine at_iload_n (j := 0) C dlw_165 rfl rfl ?_
  refine at_iconst (x := nI 1) C dlw_166 rfl ?_
  refine at_iadd C dlw_167 ?_
  refine at_scrld C hX hbl hbA 1 (by omega) hN dlw_168 ?_
  refine at_aload_n (j := 1) C dlw_169 rfl rfl ?_
  refine at_iload_n (j := 0) C dlw_170 rfl rfl ?_
  refine at_iconst (x := nI 2) C dlw_171 rfl ?_
  refine at_iadd C dlw_172 ?_
  refine at_scrld C hX hbl hbA 2 (by omega) hN dlw_173 ?_
  refine at_aload_n (j := 1) C dlw_174 rfl rfl ?_
  refine at_iload_n (j := 0) C dlw_175 rfl rfl ?_
  refine at_iconst (x := nI 3) C dlw_176 rfl ?_
  refine at_iadd C dlw_177 ?_
  refine at_scrld C hX hbl hbA 3 (by omega) hN dlw_178 ?_
  refine at_callV C kLw_17 m2 (by omega) rfl rfl rfl rfl (Nat.le_of_ble_eq_true rfl) dlw_179 ?_
  exact at_icmp_eq C dlw_182 rfl (fun _ => kk S2 hR) (fun hc => absurd rfl hc)
theorem lw_way (C : Cx G X RcLw code 4 lv (some .boolean)) (hlv : 40 ≤ lv) (hX : va_X b N sc (xs X) (xs X).heap) (hbl : b < (xs X).heap.size) (hbA : ¬ Aw G b) (hN : N ≤ 3072) {i : Nat} (hi : i + 6 ≤ N) (h : Rel S) (kk : ∀ S2, Rel S2 → At G X 4 Q 937 [(3, .int (nI i)), (0, .ref b), (1, .ref (ad G 0)), (2, .ref (ad G 40))] [] S2) : At G X 4 Q 187 [(3, .int (nI i)), (0, .ref b), (1, .ref (ad G 0)), (2, .ref (ad G 40))] [] S := by
  obtain ⟨r, S1, S2, m1, m2, hR⟩ := lo_way (l := xl X) C.2.2.2.2.2.2.1 h (sc (i + 1)) (sc (i + 2))
  refine at_aload_n (j := 2) C dlw_187 rfl rfl ?_
  refine at_aload_n (j := 1) C dlw_188 rfl rfl ?_
  refine at_iload_n (j := 0) C dlw_189 rfl rfl ?_
  refine at_iconst (x := nI 1) C dlw_190 rfl ?_
  refine at_iadd C dlw_191 ?_
  refine at_scrld C hX hbl hbA 1 (by omega) hN dlw_192 ?_
  refine at_aload_n (j := 1) C dlw_193 rfl rfl ?_
  refine at_iload_n (j := 0) C dlw_194 rfl rfl ?_
  refine at_iconst (x := nI 2) C dlw_195 rfl ?_
  refine at_iadd C dlw_196 ?_
  refine at_scrld C hX hbl hbA 2 (by omega) hN dlw_197 ?_
  refine at_callV C kLw_18 m1 (by omega) rfl rfl rfl rfl (Nat.le_of_ble_eq_true rfl) dlw_198 ?_
  refine at_aload_n (j := 3) C dlw_201 rfl rfl ?_
  refine at_aload_n (j := 1) C dlw_202 rfl rfl ?_
  refine at_iload_n (j := 0) C dlw_203 rfl rfl ?_
  refine at_iconst (x := nI 1) C dlw_204 rfl ?_
  refine at_iadd C dlw_205 ?_
  refine at_scrld C hX hbl hbA 1 (by omega) hN dlw_206 ?_
  refine at_aload_n (j := 1) C dlw_207 rfl rfl ?_
  refine at_iload_n (j := 0) C dlw_208 rfl rfl ?_
  refine at_iconst (x := nI 2) C dlw_209 rfl ?_
  refine at_iadd C dlw_210 ?_
  refine at_scrld C hX hbl hbA 2 (by omega) hN dlw_211 ?_
  refine at_callV C kLw_22 m2 (by omega) rfl rfl rfl rfl (Nat.le_of_ble_eq_true rfl) dlw_212 ?_
  exact at_icmp_eq C dlw_215 rfl (fun _ => kk S2 hR) (fun hc => absurd rfl hc)
theorem lw_weight (C : Cx G X RcLw code 4 lv (some .boolean)) (hlv : 40 ≤ lv) (hX : va_X b N sc (xs X) (xs X).heap) (hbl : b < (xs X).heap.size) (hbA : ¬ Aw G b) (hN : N ≤ 3072) {i : Nat} (hi : i + 6 ≤ N) (h : Rel S) (kk : ∀ S2, Rel S2 → At G X 4 Q 937 [(3, .int (nI i)), (0, .ref b), (1, .ref (ad G 0)), (2, .ref (ad G 40))] [] S2) : At G X 4 Q 220 [(3, .int (nI i)), (0, .ref b), (1, .ref (ad G 0)), (2, .ref (ad G 40))] [] S := by
  obtain ⟨r, S1, S2, m1, m2, hR⟩ := lo_weight (l := xl X) C.2.2.2.2.2.2.1 h (sc (i + 1)) (sc (i + 2))
  refine at_aload_n (j := 2) C dlw_220 rfl rfl ?_
  refine at_aload_n (j := 1) C dlw_221 rfl rfl ?_
  refine at_iload_n (j := 0) C dlw_222 rfl rfl ?_
  refine at_iconst (x := nI 1) C dlw_223 rfl ?_
  refine at_iadd C dlw_224 ?_
  refine at_scrld C hX hbl hbA 1 (by omega) hN dlw_225 ?_
  refine at_aload_n (j := 1) C dlw_226 rfl rfl ?_
  refine at_iload_n (j := 0) C dlw_227 rfl rfl ?_
  refine at_iconst (x := nI 2) C dlw_228 rfl ?_
  refine at_iadd C dlw_229 ?_
  refine at_scrld C hX hbl hbA 2 (by omega) hN dlw_230 ?_
  refine at_callV C kLw_23 m1 (by omega) rfl rfl rfl rfl (Nat.le_of_ble_eq_true rfl) dlw_231 ?_
  refine at_aload_n (j := 3) C dlw_234 rfl rfl ?_
  refine at_aload_n (j := 1) C dlw_235 rfl rfl ?_
  refine at_iload_n (j := 0) C dlw_236 rfl rfl ?_
  refine at_iconst (x := nI 1) C dlw_237 rfl ?_
  refine at_iadd C dlw_238 ?_
  refine at_scrld C hX hbl hbA 1 (by omega) hN dlw_239 ?_
  refine at_aload_n (j := 1) C dlw_240 rfl rfl ?_
  refine at_iload_n (j := 0) C dlw_241 rfl rfl ?_
  refine at_iconst (x := nI 2) C dlw_242 rfl ?_
  refine at_iadd C dlw_243 ?_
  refine at_scrld C hX hbl hbA 2 (by omega) hN dlw_244 ?_
  refine at_callV C kLw_27 m2 (by omega) rfl rfl rfl rfl (Nat.le_of_ble_eq_true rfl) dlw_245 ?_
  exact at_icmp_eq C dlw_248 rfl (fun _ => kk S2 hR) (fun hc => absurd rfl hc)
theorem lw_carriers (C : Cx G X RcLw code 4 lv (some .boolean)) (hlv : 40 ≤ lv) (hX : va_X b N sc (xs X) (xs X).heap) (hbl : b < (xs X).heap.size) (hbA : ¬ Aw G b) (hN : N ≤ 3072) {i : Nat} (hi : i + 6 ≤ N) (h : Rel S) (kk : ∀ S2, Rel S2 → At G X 4 Q 937 [(3, .int (nI i)), (0, .ref b), (1, .ref (ad G 0)), (2, .ref (ad G 40))] [] S2) : At G X 4 Q 253 [(3, .int (nI i)), (0, .ref b), (1, .ref (ad G 0)), (2, .ref (ad G 40))] [] S := by
  obtain ⟨r, S1, S2, m1, m2, hR⟩ := lo_carriers (l := xl X) C.2.2.2.2.2.2.1 h (sc (i + 1)) (sc (i + 2))
  refine at_aload_n (j := 2) C dlw_253 rfl rfl ?_
  refine at_aload_n (j := 1) C dlw_254 rfl rfl ?_
  refine at_iload_n (j := 0) C dlw_255 rfl rfl ?_
  refine at_iconst (x := nI 1) C dlw_256 rfl ?_
  refine at_iadd C dlw_257 ?_
  refine at_scrld C hX hbl hbA 1 (by omega) hN dlw_258 ?_
  refine at_aload_n (j := 1) C dlw_259 rfl rfl ?_
  refine at_iload_n (j := 0) C dlw_260 rfl rfl ?_
  refine at_iconst (x := nI 2) C dlw_261 rfl ?_
  refine at_iadd C dlw_262 ?_
  refine at_scrld C hX hbl hbA 2 (by omega) hN dlw_263 ?_
  refine at_callV C kLw_28 m1 (by omega) rfl rfl rfl rfl (Nat.le_of_ble_eq_true rfl) dlw_264 ?_
  refine at_aload_n (j := 3) C dlw_267 rfl rfl ?_
  refine at_aload_n (j := 1) C dlw_268 rfl rfl ?_
  refine at_iload_n (j := 0) C dlw_269 rfl rfl ?_
  refine at_iconst (x := nI 1) C dlw_270 rfl ?_
  refine at_iadd C dlw_271 ?_
  refine at_scrld C hX hbl hbA 1 (by omega) hN dlw_272 ?_
  refine at_aload_n (j := 1) C dlw_273 rfl rfl ?_
  refine at_iload_n (j := 0) C dlw_274 rfl rfl ?_
  refine at_iconst (x := nI 2) C dlw_275 rfl ?_
  refine at_iadd C dlw_276 ?_
  refine at_scrld C hX hbl hbA 2 (by omega) hN dlw_277 ?_
  refine at_callV C kLw_31 m2 (by omega) rfl rfl rfl rfl (Nat.le_of_ble_eq_true rfl) dlw_278 ?_
  exact at_icmp_eq C dlw_281 rfl (fun _ => kk S2 hR) (fun hc => absurd rfl hc)
theorem lw_feed (C : Cx G X RcLw code 4 lv (some .boolean)) (hlv : 40 ≤ lv) (hX : va_X b N sc (xs X) (xs X).heap) (hbl : b < (xs X).heap.size) (hbA : ¬ Aw G b) (hN : N ≤ 3072) {i : Nat} (hi : i + 6 ≤ N) (h : Rel S) (kk : ∀ S2, Rel S2 → At G X 4 Q 937 [(3, .int (nI i)), (0, .ref b), (1, .ref (ad G 0)), (2, .ref (ad G 40))] [] S2) : At G X 4 Q 286 [(3, .int (nI i)), (0, .ref b), (1, .ref (ad G 0)), (2, .ref (ad G 40))] [] S := by
  obtain ⟨r, S1, S2, m1, m2, hR⟩ := lo_feed (l := xl X) C.2.2.2.2.2.2.1 h (sc (i + 1)) (sc (i + 2)) (sc (i + 3)) (sc (i + 4)) (sc (i + 5))
  refine at_aload_n (j := 2) C dlw_286 rfl rfl ?_
  refine at_aload_n (j := 1) C dlw_287 rfl rfl ?_
  refine at_iload_n (j := 0) C dlw_288 rfl rfl ?_
  refine at_iconst (x := nI 1) C dlw_289 rfl ?_
  refine at_iadd C dlw_290 ?_
  refine at_scrld C hX hbl hbA 1 (by omega) hN dlw_291 ?_
  refine at_aload_n (j := 1) C dlw_292 rfl rfl ?_
  refine at_iload_n (j := 0) C dlw_293 rfl rfl ?_
  refine at_iconst (x := nI 2) C dlw_294 rfl ?_
  refine at_iadd C dlw_295 ?_
  refine at_scrld C hX hbl hbA 2 (by omega) hN dlw_296 ?_
  refine at_aload_n (j := 1) C dlw_297 rfl rfl ?_
  refine at_iload_n (j := 0) C dlw_298 rfl rfl ?_
  refine at_iconst (x := nI 3) C dlw_299 rfl ?_
  refine at_iadd C dlw_300 ?_
  refine at_scrld C hX hbl hbA 3 (by omega) hN dlw_301 ?_
  refine at_aload_n (j := 1) C dlw_302 rfl rfl ?_
  refine at_iload_n (j := 0) C dlw_303 rfl rfl ?_
  refine at_iconst (x := nI 4) C dlw_304 rfl ?_
  refine at_iadd C dlw_305 ?_
  refine at_scrld C hX hbl hbA 4 (by omega) hN dlw_306 ?_
  refine at_aload_n (j := 1) C dlw_307 rfl rfl ?_
  refine at_iload_n (j := 0) C dlw_308 rfl rfl ?_
  refine at_iconst (x := nI 5) C dlw_309 rfl ?_
  refine at_iadd C dlw_310 ?_
  refine at_scrld C hX hbl hbA 5 (by omega) hN dlw_311 ?_
  refine at_callV C kLw_32 m1 (by omega) rfl rfl rfl rfl (Nat.le_of_ble_eq_true rfl) dlw_312 ?_
  refine at_aload_n (j := 3) C dlw_315 rfl rfl ?_
  refine at_aload_n (j := 1) C dlw_316 rfl rfl ?_
  refine at_iload_n (j := 0) C dlw_317 rfl rfl ?_
  refine at_iconst (x := nI 1) C dlw_318 rfl ?_
  refine at_iadd C dlw_319 ?_
  refine at_scrld C hX hbl hbA 1 (by omega) hN dlw_320 ?_
  refine at_aload_n (j := 1) C dlw_321 rfl rfl ?_
  refine at_iload_n (j := 0) C dlw_322 rfl rfl ?_
  refine at_iconst (x := nI 2) C dlw_323 rfl ?_
  refine at_iadd C dlw_324 ?_
  refine at_scrld C hX hbl hbA 2 (by omega) hN dlw_325 ?_
  refine at_aload_n (j := 1) C dlw_326 rfl rfl ?_
  refine at_iload_n (j := 0) C dlw_327 rfl rfl ?_
  refine at_iconst (x := nI 3) C dlw_328 rfl ?_
  refine at_iadd C dlw_329 ?_
  refine at_scrld C hX hbl hbA 3 (by omega) hN dlw_330 ?_
  refine at_aload_n (j := 1) C dlw_331 rfl rfl ?_
  refine at_iload_n (j := 0) C dlw_332 rfl rfl ?_
  refine at_iconst (x := nI 4) C dlw_333 rfl ?_
  refine at_iadd C dlw_334 ?_
  refine at_scrld C hX hbl hbA 4 (by omega) hN dlw_335 ?_
  refine at_aload_n (j := 1) C dlw_336 rfl rfl ?_
  refine at_iload_n (j := 0) C dlw_337 rfl rfl ?_
  refine at_iconst (x := nI 5) C dlw_338 rfl ?_
  refine at_iadd C dlw_339 ?_
  refine at_scrld C hX hbl hbA 5 (by omega) hN dlw_340 ?_
  refine at_callV C kLw_36 m2 (by omega) rfl rfl rfl rfl (Nat.le_of_ble_eq_true rfl) dlw_341 ?_
  exact at_icmp_eq C dlw_344 rfl (fun _ => kk S2 hR) (fun hc => absurd rfl hc)
theorem lw_end (C : Cx G X RcLw code 4 lv (some .boolean)) (hlv : 40 ≤ lv) (hX : va_X b N sc (xs X) (xs X).heap) (hbl : b < (xs X).heap.size) (hbA : ¬ Aw G b) (hN : N ≤ 3072) {i : Nat} (hi : i + 6 ≤ N) (h : Rel S) (kk : ∀ S2, Rel S2 → At G X 4 Q 937 [(3, .int (nI i)), (0, .ref b), (1, .ref (ad G 0)), (2, .ref (ad G 40))] [] S2) : At G X 4 Q 349 [(3, .int (nI i)), (0, .ref b), (1, .ref (ad G 0)), (2, .ref (ad G 40))] [] S := by
  obtain ⟨r, S1, S2, m1, m2, hR⟩ := lo_end (l := xl X) C.2.2.2.2.2.2.1 h (sc (i + 1))
  refine at_aload_n (j := 2) C dlw_349 rfl rfl ?_
  refine at_aload_n (j := 1) C dlw_350 rfl rfl ?_
  refine at_iload_n (j := 0) C dlw_351 rfl rfl ?_
  refine at_iconst (x := nI 1) C dlw_352 rfl ?_
  refine at_iadd C dlw_353 ?_
  refine at_scrld C hX hbl hbA 1 (by omega) hN dlw_354 ?_
  refine at_callV C kLw_37 m1 (by omega) rfl rfl rfl rfl (Nat.le_of_ble_eq_true rfl) dlw_355 ?_
  refine at_aload_n (j := 3) C dlw_358 rfl rfl ?_
  refine at_aload_n (j := 1) C dlw_359 rfl rfl ?_
  refine at_iload_n (j := 0) C dlw_360 rfl rfl ?_
  refine at_iconst (x := nI 1) C dlw_361 rfl ?_
  refine at_iadd C dlw_362 ?_
  refine at_scrld C hX hbl hbA 1 (by omega) hN dlw_363 ?_
  refine at_callV C kLw_41 m2 (by omega) rfl rfl rfl rfl (Nat.le_of_ble_eq_true rfl) dlw_364 ?_
  exact at_icmp_eq C dlw_367 rfl (fun _ => kk S2 hR) (fun hc => absurd rfl hc)
theorem lw_copy (C : Cx G X RcLw code 4 lv (some .boolean)) (hlv : 40 ≤ lv) (hX : va_X b N sc (xs X) (xs X).heap) (hbl : b < (xs X).heap.size) (hbA : ¬ Aw G b) (hN : N ≤ 3072) {i : Nat} (hi : i + 6 ≤ N) (h : Rel S) (kk : ∀ S2, Rel S2 → At G X 4 Q 937 [(3, .int (nI i)), (0, .ref b), (1, .ref (ad G 0)), (2, .ref (ad G 40))] [] S2) : At G X 4 Q 372 [(3, .int (nI i)), (0, .ref b), (1, .ref (ad G 0)), (2, .ref (ad G 40))] [] S := by
  obtain ⟨r, S1, S2, m1, m2, hR⟩ := lo_copy (l := xl X) C.2.2.2.2.2.2.1 h (sc (i + 1))
  refine at_aload_n (j := 2) C dlw_372 rfl rfl ?_
  refine at_aload_n (j := 1) C dlw_373 rfl rfl ?_
  refine at_iload_n (j := 0) C dlw_374 rfl rfl ?_
  refine at_iconst (x := nI 1) C dlw_375 rfl ?_
  refine at_iadd C dlw_376 ?_
  refine at_scrld C hX hbl hbA 1 (by omega) hN dlw_377 ?_
  refine at_callV C kLw_42 m1 (by omega) rfl rfl rfl rfl (Nat.le_of_ble_eq_true rfl) dlw_378 ?_
  refine at_aload_n (j := 3) C dlw_381 rfl rfl ?_
  refine at_aload_n (j := 1) C dlw_382 rfl rfl ?_
  refine at_iload_n (j := 0) C dlw_383 rfl rfl ?_
  refine at_iconst (x := nI 1) C dlw_384 rfl ?_
  refine at_iadd C dlw_385 ?_
  refine at_scrld C hX hbl hbA 1 (by omega) hN dlw_386 ?_
  refine at_callV C kLw_45 m2 (by omega) rfl rfl rfl rfl (Nat.le_of_ble_eq_true rfl) dlw_387 ?_
  exact at_icmp_eq C dlw_390 rfl (fun _ => kk S2 hR) (fun hc => absurd rfl hc)
theorem lw_fault (C : Cx G X RcLw code 4 lv (some .boolean)) (hlv : 40 ≤ lv) (hX : va_X b N sc (xs X) (xs X).heap) (hbl : b < (xs X).heap.size) (hbA : ¬ Aw G b) (hN : N ≤ 3072) {i : Nat} (hi : i + 6 ≤ N) (h : Rel S) (kk : ∀ S2, Rel S2 → At G X 4 Q 937 [(3, .int (nI i)), (0, .ref b), (1, .ref (ad G 0)), (2, .ref (ad G 40))] [] S2) : At G X 4 Q 395 [(3, .int (nI i)), (0, .ref b), (1, .ref (ad G 0)), (2, .ref (ad G 40))] [] S := by
  obtain ⟨r, S1, S2, m1, m2, hR⟩ := lo_fault (l := xl X) C.2.2.2.2.2.2.1 h (sc (i + 1))
  refine at_aload_n (j := 2) C dlw_395 rfl rfl ?_
  refine at_aload_n (j := 1) C dlw_396 rfl rfl ?_
  refine at_iload_n (j := 0) C dlw_397 rfl rfl ?_
  refine at_iconst (x := nI 1) C dlw_398 rfl ?_
  refine at_iadd C dlw_399 ?_
  refine at_scrld C hX hbl hbA 1 (by omega) hN dlw_400 ?_
  refine at_callV C kLw_46 m1 (by omega) rfl rfl rfl rfl (Nat.le_of_ble_eq_true rfl) dlw_401 ?_
  refine at_aload_n (j := 3) C dlw_404 rfl rfl ?_
  refine at_aload_n (j := 1) C dlw_405 rfl rfl ?_
  refine at_iload_n (j := 0) C dlw_406 rfl rfl ?_
  refine at_iconst (x := nI 1) C dlw_407 rfl ?_
  refine at_iadd C dlw_408 ?_
  refine at_scrld C hX hbl hbA 1 (by omega) hN dlw_409 ?_
  refine at_callV C kLw_49 m2 (by omega) rfl rfl rfl rfl (Nat.le_of_ble_eq_true rfl) dlw_410 ?_
  exact at_icmp_eq C dlw_413 rfl (fun _ => kk S2 hR) (fun hc => absurd rfl hc)
theorem lw_tells (C : Cx G X RcLw code 4 lv (some .boolean)) (hlv : 40 ≤ lv) (hX : va_X b N sc (xs X) (xs X).heap) (hbl : b < (xs X).heap.size) (hbA : ¬ Aw G b) (hN : N ≤ 3072) {i : Nat} (hi : i + 6 ≤ N) (h : Rel S) (kk : ∀ S2, Rel S2 → At G X 4 Q 937 [(3, .int (nI i)), (0, .ref b), (1, .ref (ad G 0)), (2, .ref (ad G 40))] [] S2) : At G X 4 Q 418 [(3, .int (nI i)), (0, .ref b), (1, .ref (ad G 0)), (2, .ref (ad G 40))] [] S := by
  obtain ⟨r, S1, S2, m1, m2, hR⟩ := lo_tells (l := xl X) C.2.2.2.2.2.2.1 h (sc (i + 1)) (sc (i + 2)) (sc (i + 3))
  refine at_aload_n (j := 2) C dlw_418 rfl rfl ?_
  refine at_aload_n (j := 1) C dlw_419 rfl rfl ?_
  refine at_iload_n (j := 0) C dlw_420 rfl rfl ?_
  refine at_iconst (x := nI 1) C dlw_421 rfl ?_
  refine at_iadd C dlw_422 ?_
  refine at_scrld C hX hbl hbA 1 (by omega) hN dlw_423 ?_
  refine at_aload_n (j := 1) C dlw_424 rfl rfl ?_
  refine at_iload_n (j := 0) C dlw_425 rfl rfl ?_
  refine at_iconst (x := nI 2) C dlw_426 rfl ?_
  refine at_iadd C dlw_427 ?_
  refine at_scrld C hX hbl hbA 2 (by omega) hN dlw_428 ?_
  refine at_aload_n (j := 1) C dlw_429 rfl rfl ?_
  refine at_iload_n (j := 0) C dlw_430 rfl rfl ?_
  refine at_iconst (x := nI 3) C dlw_431 rfl ?_
  refine at_iadd C dlw_432 ?_
  refine at_scrld C hX hbl hbA 3 (by omega) hN dlw_433 ?_
  refine at_callV C kLw_50 m1 (by omega) rfl rfl rfl rfl (Nat.le_of_ble_eq_true rfl) dlw_434 ?_
  refine at_aload_n (j := 3) C dlw_437 rfl rfl ?_
  refine at_aload_n (j := 1) C dlw_438 rfl rfl ?_
  refine at_iload_n (j := 0) C dlw_439 rfl rfl ?_
  refine at_iconst (x := nI 1) C dlw_440 rfl ?_
  refine at_iadd C dlw_441 ?_
  refine at_scrld C hX hbl hbA 1 (by omega) hN dlw_442 ?_
  refine at_aload_n (j := 1) C dlw_443 rfl rfl ?_
  refine at_iload_n (j := 0) C dlw_444 rfl rfl ?_
  refine at_iconst (x := nI 2) C dlw_445 rfl ?_
  refine at_iadd C dlw_446 ?_
  refine at_scrld C hX hbl hbA 2 (by omega) hN dlw_447 ?_
  refine at_aload_n (j := 1) C dlw_448 rfl rfl ?_
  refine at_iload_n (j := 0) C dlw_449 rfl rfl ?_
  refine at_iconst (x := nI 3) C dlw_450 rfl ?_
  refine at_iadd C dlw_451 ?_
  refine at_scrld C hX hbl hbA 3 (by omega) hN dlw_452 ?_
  refine at_callV C kLw_54 m2 (by omega) rfl rfl rfl rfl (Nat.le_of_ble_eq_true rfl) dlw_453 ?_
  exact at_icmp_eq C dlw_456 rfl (fun _ => kk S2 hR) (fun hc => absurd rfl hc)
theorem lw_owed (C : Cx G X RcLw code 4 lv (some .boolean)) (hlv : 40 ≤ lv) (hX : va_X b N sc (xs X) (xs X).heap) (hbl : b < (xs X).heap.size) (hbA : ¬ Aw G b) (hN : N ≤ 3072) {i : Nat} (hi : i + 6 ≤ N) (h : Rel S) (kk : ∀ S2, Rel S2 → At G X 4 Q 937 [(3, .int (nI i)), (0, .ref b), (1, .ref (ad G 0)), (2, .ref (ad G 40))] [] S2) : At G X 4 Q 461 [(3, .int (nI i)), (0, .ref b), (1, .ref (ad G 0)), (2, .ref (ad G 40))] [] S := by
  obtain ⟨r, S1, S2, m1, m2, hR⟩ := lo_owed (l := xl X) C.2.2.2.2.2.2.1 h (sc (i + 1)) (sc (i + 2))
  refine at_aload_n (j := 2) C dlw_461 rfl rfl ?_
  refine at_aload_n (j := 1) C dlw_462 rfl rfl ?_
  refine at_iload_n (j := 0) C dlw_463 rfl rfl ?_
  refine at_iconst (x := nI 1) C dlw_464 rfl ?_
  refine at_iadd C dlw_465 ?_
  refine at_scrld C hX hbl hbA 1 (by omega) hN dlw_466 ?_
  refine at_aload_n (j := 1) C dlw_467 rfl rfl ?_
  refine at_iload_n (j := 0) C dlw_468 rfl rfl ?_
  refine at_iconst (x := nI 2) C dlw_469 rfl ?_
  refine at_iadd C dlw_470 ?_
  refine at_scrld C hX hbl hbA 2 (by omega) hN dlw_471 ?_
  refine at_callV C kLw_55 m1 (by omega) rfl rfl rfl rfl (Nat.le_of_ble_eq_true rfl) dlw_472 ?_
  refine at_aload_n (j := 3) C dlw_475 rfl rfl ?_
  refine at_aload_n (j := 1) C dlw_476 rfl rfl ?_
  refine at_iload_n (j := 0) C dlw_477 rfl rfl ?_
  refine at_iconst (x := nI 1) C dlw_478 rfl ?_
  refine at_iadd C dlw_479 ?_
  refine at_scrld C hX hbl hbA 1 (by omega) hN dlw_480 ?_
  refine at_aload_n (j := 1) C dlw_481 rfl rfl ?_
  refine at_iload_n (j := 0) C dlw_482 rfl rfl ?_
  refine at_iconst (x := nI 2) C dlw_483 rfl ?_
  refine at_iadd C dlw_484 ?_
  refine at_scrld C hX hbl hbA 2 (by omega) hN dlw_485 ?_
  refine at_callV C kLw_58 m2 (by omega) rfl rfl rfl rfl (Nat.le_of_ble_eq_true rfl) dlw_486 ?_
  exact at_icmp_eq C dlw_489 rfl (fun _ => kk S2 hR) (fun hc => absurd rfl hc)
theorem lw_quarrel (C : Cx G X RcLw code 4 lv (some .boolean)) (hlv : 40 ≤ lv) (hX : va_X b N sc (xs X) (xs X).heap) (hbl : b < (xs X).heap.size) (hbA : ¬ Aw G b) (hN : N ≤ 3072) {i : Nat} (hi : i + 6 ≤ N) (h : Rel S) (kk : ∀ S2, Rel S2 → At G X 4 Q 937 [(3, .int (nI i)), (0, .ref b), (1, .ref (ad G 0)), (2, .ref (ad G 40))] [] S2) : At G X 4 Q 494 [(3, .int (nI i)), (0, .ref b), (1, .ref (ad G 0)), (2, .ref (ad G 40))] [] S := by
  obtain ⟨r, S1, S2, m1, m2, hR⟩ := lo_quarrel (l := xl X) C.2.2.2.2.2.2.1 h (sc (i + 1)) (sc (i + 2))
  refine at_aload_n (j := 2) C dlw_494 rfl rfl ?_
  refine at_aload_n (j := 1) C dlw_495 rfl rfl ?_
  refine at_iload_n (j := 0) C dlw_496 rfl rfl ?_
  refine at_iconst (x := nI 1) C dlw_497 rfl ?_
  refine at_iadd C dlw_498 ?_
  refine at_scrld C hX hbl hbA 1 (by omega) hN dlw_499 ?_
  refine at_aload_n (j := 1) C dlw_500 rfl rfl ?_
  refine at_iload_n (j := 0) C dlw_501 rfl rfl ?_
  refine at_iconst (x := nI 2) C dlw_502 rfl ?_
  refine at_iadd C dlw_503 ?_
  refine at_scrld C hX hbl hbA 2 (by omega) hN dlw_504 ?_
  refine at_callV C kLw_59 m1 (by omega) rfl rfl rfl rfl (Nat.le_of_ble_eq_true rfl) dlw_505 ?_
  refine at_aload_n (j := 3) C dlw_508 rfl rfl ?_
  refine at_aload_n (j := 1) C dlw_509 rfl rfl ?_
  refine at_iload_n (j := 0) C dlw_510 rfl rfl ?_
  refine at_iconst (x := nI 1) C dlw_511 rfl ?_
  refine at_iadd C dlw_512 ?_
  refine at_scrld C hX hbl hbA 1 (by omega) hN dlw_513 ?_
  refine at_aload_n (j := 1) C dlw_514 rfl rfl ?_
  refine at_iload_n (j := 0) C dlw_515 rfl rfl ?_
  refine at_iconst (x := nI 2) C dlw_516 rfl ?_
  refine at_iadd C dlw_517 ?_
  refine at_scrld C hX hbl hbA 2 (by omega) hN dlw_518 ?_
  refine at_callV C kLw_62 m2 (by omega) rfl rfl rfl rfl (Nat.le_of_ble_eq_true rfl) dlw_519 ?_
  exact at_icmp_eq C dlw_522 rfl (fun _ => kk S2 hR) (fun hc => absurd rfl hc)
theorem lw_quarrels (C : Cx G X RcLw code 4 lv (some .boolean)) (hlv : 40 ≤ lv) (hX : va_X b N sc (xs X) (xs X).heap) (hbl : b < (xs X).heap.size) (hbA : ¬ Aw G b) (hN : N ≤ 3072) {i : Nat} (hi : i + 6 ≤ N) (h : Rel S) (kk : ∀ S2, Rel S2 → At G X 4 Q 937 [(3, .int (nI i)), (0, .ref b), (1, .ref (ad G 0)), (2, .ref (ad G 40))] [] S2) : At G X 4 Q 527 [(3, .int (nI i)), (0, .ref b), (1, .ref (ad G 0)), (2, .ref (ad G 40))] [] S := by
  obtain ⟨r, S1, S2, m1, m2, hR⟩ := lo_quarrels (l := xl X) C.2.2.2.2.2.2.1 h 
  refine at_aload_n (j := 2) C dlw_527 rfl rfl ?_
  refine at_callV C kLw_63 m1 (by omega) rfl rfl rfl rfl (Nat.le_of_ble_eq_true rfl) dlw_528 ?_
  refine at_aload_n (j := 3) C dlw_531 rfl rfl ?_
  refine at_callV C kLw_67 m2 (by omega) rfl rfl rfl rfl (Nat.le_of_ble_eq_true rfl) dlw_532 ?_
  exact at_icmp_eq C dlw_535 rfl (fun _ => kk S2 hR) (fun hc => absurd rfl hc)
theorem lw_send (C : Cx G X RcLw code 4 lv (some .boolean)) (hlv : 40 ≤ lv) (hX : va_X b N sc (xs X) (xs X).heap) (hbl : b < (xs X).heap.size) (hbA : ¬ Aw G b) (hN : N ≤ 3072) {i : Nat} (hi : i + 6 ≤ N) (h : Rel S) (kk : ∀ S2, Rel S2 → At G X 4 Q 937 [(3, .int (nI i)), (0, .ref b), (1, .ref (ad G 0)), (2, .ref (ad G 40))] [] S2) : At G X 4 Q 540 [(3, .int (nI i)), (0, .ref b), (1, .ref (ad G 0)), (2, .ref (ad G 40))] [] S := by
  obtain ⟨r, S1, S2, m1, m2, hR⟩ := lo_send (l := xl X) C.2.2.2.2.2.2.1 h (sc (i + 1)) (sc (i + 2)) (sc (i + 3))
  refine at_aload_n (j := 2) C dlw_540 rfl rfl ?_
  refine at_aload_n (j := 1) C dlw_541 rfl rfl ?_
  refine at_iload_n (j := 0) C dlw_542 rfl rfl ?_
  refine at_iconst (x := nI 1) C dlw_543 rfl ?_
  refine at_iadd C dlw_544 ?_
  refine at_scrld C hX hbl hbA 1 (by omega) hN dlw_545 ?_
  refine at_aload_n (j := 1) C dlw_546 rfl rfl ?_
  refine at_iload_n (j := 0) C dlw_547 rfl rfl ?_
  refine at_iconst (x := nI 2) C dlw_548 rfl ?_
  refine at_iadd C dlw_549 ?_
  refine at_scrld C hX hbl hbA 2 (by omega) hN dlw_550 ?_
  refine at_aload_n (j := 1) C dlw_551 rfl rfl ?_
  refine at_iload_n (j := 0) C dlw_552 rfl rfl ?_
  refine at_iconst (x := nI 3) C dlw_553 rfl ?_
  refine at_iadd C dlw_554 ?_
  refine at_scrld C hX hbl hbA 3 (by omega) hN dlw_555 ?_
  refine at_callV C kLw_68 m1 (by omega) rfl rfl rfl rfl (Nat.le_of_ble_eq_true rfl) dlw_556 ?_
  refine at_aload_n (j := 3) C dlw_559 rfl rfl ?_
  refine at_aload_n (j := 1) C dlw_560 rfl rfl ?_
  refine at_iload_n (j := 0) C dlw_561 rfl rfl ?_
  refine at_iconst (x := nI 1) C dlw_562 rfl ?_
  refine at_iadd C dlw_563 ?_
  refine at_scrld C hX hbl hbA 1 (by omega) hN dlw_564 ?_
  refine at_aload_n (j := 1) C dlw_565 rfl rfl ?_
  refine at_iload_n (j := 0) C dlw_566 rfl rfl ?_
  refine at_iconst (x := nI 2) C dlw_567 rfl ?_
  refine at_iadd C dlw_568 ?_
  refine at_scrld C hX hbl hbA 2 (by omega) hN dlw_569 ?_
  refine at_aload_n (j := 1) C dlw_570 rfl rfl ?_
  refine at_iload_n (j := 0) C dlw_571 rfl rfl ?_
  refine at_iconst (x := nI 3) C dlw_572 rfl ?_
  refine at_iadd C dlw_573 ?_
  refine at_scrld C hX hbl hbA 3 (by omega) hN dlw_574 ?_
  refine at_callV C kLw_71 m2 (by omega) rfl rfl rfl rfl (Nat.le_of_ble_eq_true rfl) dlw_575 ?_
  exact at_icmp_eq C dlw_578 rfl (fun _ => kk S2 hR) (fun hc => absurd rfl hc)
theorem lw_sending (C : Cx G X RcLw code 4 lv (some .boolean)) (hlv : 40 ≤ lv) (hX : va_X b N sc (xs X) (xs X).heap) (hbl : b < (xs X).heap.size) (hbA : ¬ Aw G b) (hN : N ≤ 3072) {i : Nat} (hi : i + 6 ≤ N) (h : Rel S) (kk : ∀ S2, Rel S2 → At G X 4 Q 937 [(3, .int (nI i)), (0, .ref b), (1, .ref (ad G 0)), (2, .ref (ad G 40))] [] S2) : At G X 4 Q 583 [(3, .int (nI i)), (0, .ref b), (1, .ref (ad G 0)), (2, .ref (ad G 40))] [] S := by
  obtain ⟨r, S1, S2, m1, m2, hR⟩ := lo_sending (l := xl X) C.2.2.2.2.2.2.1 h (sc (i + 1)) (sc (i + 2))
  refine at_aload_n (j := 2) C dlw_583 rfl rfl ?_
  refine at_aload_n (j := 1) C dlw_584 rfl rfl ?_
  refine at_iload_n (j := 0) C dlw_585 rfl rfl ?_
  refine at_iconst (x := nI 1) C dlw_586 rfl ?_
  refine at_iadd C dlw_587 ?_
  refine at_scrld C hX hbl hbA 1 (by omega) hN dlw_588 ?_
  refine at_aload_n (j := 1) C dlw_589 rfl rfl ?_
  refine at_iload_n (j := 0) C dlw_590 rfl rfl ?_
  refine at_iconst (x := nI 2) C dlw_591 rfl ?_
  refine at_iadd C dlw_592 ?_
  refine at_scrld C hX hbl hbA 2 (by omega) hN dlw_593 ?_
  refine at_callV C kLw_72 m1 (by omega) rfl rfl rfl rfl (Nat.le_of_ble_eq_true rfl) dlw_594 ?_
  refine at_aload_n (j := 3) C dlw_597 rfl rfl ?_
  refine at_aload_n (j := 1) C dlw_598 rfl rfl ?_
  refine at_iload_n (j := 0) C dlw_599 rfl rfl ?_
  refine at_iconst (x := nI 1) C dlw_600 rfl ?_
  refine at_iadd C dlw_601 ?_
  refine at_scrld C hX hbl hbA 1 (by omega) hN dlw_602 ?_
  refine at_aload_n (j := 1) C dlw_603 rfl rfl ?_
  refine at_iload_n (j := 0) C dlw_604 rfl rfl ?_
  refine at_iconst (x := nI 2) C dlw_605 rfl ?_
  refine at_iadd C dlw_606 ?_
  refine at_scrld C hX hbl hbA 2 (by omega) hN dlw_607 ?_
  refine at_callV C kLw_75 m2 (by omega) rfl rfl rfl rfl (Nat.le_of_ble_eq_true rfl) dlw_608 ?_
  exact at_icmp_eq C dlw_611 rfl (fun _ => kk S2 hR) (fun hc => absurd rfl hc)
theorem lw_days (C : Cx G X RcLw code 4 lv (some .boolean)) (hlv : 40 ≤ lv) (hX : va_X b N sc (xs X) (xs X).heap) (hbl : b < (xs X).heap.size) (hbA : ¬ Aw G b) (hN : N ≤ 3072) {i : Nat} (hi : i + 6 ≤ N) (h : Rel S) (kk : ∀ S2, Rel S2 → At G X 4 Q 937 [(3, .int (nI i)), (0, .ref b), (1, .ref (ad G 0)), (2, .ref (ad G 40))] [] S2) : At G X 4 Q 616 [(3, .int (nI i)), (0, .ref b), (1, .ref (ad G 0)), (2, .ref (ad G 40))] [] S := by
  obtain ⟨r, S1, S2, m1, m2, hR⟩ := lo_days (l := xl X) C.2.2.2.2.2.2.1 h (sc (i + 1))
  refine at_aload_n (j := 2) C dlw_616 rfl rfl ?_
  refine at_aload_n (j := 1) C dlw_617 rfl rfl ?_
  refine at_iload_n (j := 0) C dlw_618 rfl rfl ?_
  refine at_iconst (x := nI 1) C dlw_619 rfl ?_
  refine at_iadd C dlw_620 ?_
  refine at_scrld C hX hbl hbA 1 (by omega) hN dlw_621 ?_
  refine at_callV C kLw_76 m1 (by omega) rfl rfl rfl rfl (Nat.le_of_ble_eq_true rfl) dlw_622 ?_
  refine at_aload_n (j := 3) C dlw_625 rfl rfl ?_
  refine at_aload_n (j := 1) C dlw_626 rfl rfl ?_
  refine at_iload_n (j := 0) C dlw_627 rfl rfl ?_
  refine at_iconst (x := nI 1) C dlw_628 rfl ?_
  refine at_iadd C dlw_629 ?_
  refine at_scrld C hX hbl hbA 1 (by omega) hN dlw_630 ?_
  refine at_callV C kLw_79 m2 (by omega) rfl rfl rfl rfl (Nat.le_of_ble_eq_true rfl) dlw_631 ?_
  exact at_icmp_eq C dlw_634 rfl (fun _ => kk S2 hR) (fun hc => absurd rfl hc)
theorem lw_account (C : Cx G X RcLw code 4 lv (some .boolean)) (hlv : 40 ≤ lv) (hX : va_X b N sc (xs X) (xs X).heap) (hbl : b < (xs X).heap.size) (hbA : ¬ Aw G b) (hN : N ≤ 3072) {i : Nat} (hi : i + 6 ≤ N) (h : Rel S) (kk : ∀ S2, Rel S2 → At G X 4 Q 937 [(3, .int (nI i)), (0, .ref b), (1, .ref (ad G 0)), (2, .ref (ad G 40))] [] S2) : At G X 4 Q 639 [(3, .int (nI i)), (0, .ref b), (1, .ref (ad G 0)), (2, .ref (ad G 40))] [] S := by
  obtain ⟨r, S1, S2, m1, m2, hR⟩ := lo_account (l := xl X) C.2.2.2.2.2.2.1 h (sc (i + 1)) (sc (i + 2)) (sc (i + 3))
  refine at_aload_n (j := 2) C dlw_639 rfl rfl ?_
  refine at_aload_n (j := 1) C dlw_640 rfl rfl ?_
  refine at_iload_n (j := 0) C dlw_641 rfl rfl ?_
  refine at_iconst (x := nI 1) C dlw_642 rfl ?_
  refine at_iadd C dlw_643 ?_
  refine at_scrld C hX hbl hbA 1 (by omega) hN dlw_644 ?_
  refine at_aload_n (j := 1) C dlw_645 rfl rfl ?_
  refine at_iload_n (j := 0) C dlw_646 rfl rfl ?_
  refine at_iconst (x := nI 2) C dlw_647 rfl ?_
  refine at_iadd C dlw_648 ?_
  refine at_scrld C hX hbl hbA 2 (by omega) hN dlw_649 ?_
  refine at_aload_n (j := 1) C dlw_650 rfl rfl ?_
  refine at_iload_n (j := 0) C dlw_651 rfl rfl ?_
  refine at_iconst (x := nI 3) C dlw_652 rfl ?_
  refine at_iadd C dlw_653 ?_
  refine at_scrld C hX hbl hbA 3 (by omega) hN dlw_654 ?_
  refine at_callV C kLw_80 m1 (by omega) rfl rfl rfl rfl (Nat.le_of_ble_eq_true rfl) dlw_655 ?_
  refine at_aload_n (j := 3) C dlw_658 rfl rfl ?_
  refine at_aload_n (j := 1) C dlw_659 rfl rfl ?_
  refine at_iload_n (j := 0) C dlw_660 rfl rfl ?_
  refine at_iconst (x := nI 1) C dlw_661 rfl ?_
  refine at_iadd C dlw_662 ?_
  refine at_scrld C hX hbl hbA 1 (by omega) hN dlw_663 ?_
  refine at_aload_n (j := 1) C dlw_664 rfl rfl ?_
  refine at_iload_n (j := 0) C dlw_665 rfl rfl ?_
  refine at_iconst (x := nI 2) C dlw_666 rfl ?_
  refine at_iadd C dlw_667 ?_
  refine at_scrld C hX hbl hbA 2 (by omega) hN dlw_668 ?_
  refine at_aload_n (j := 1) C dlw_669 rfl rfl ?_
  refine at_iload_n (j := 0) C dlw_670 rfl rfl ?_
  refine at_iconst (x := nI 3) C dlw_671 rfl ?_
  refine at_iadd C dlw_672 ?_
  refine at_scrld C hX hbl hbA 3 (by omega) hN dlw_673 ?_
  refine at_callV C kLw_83 m2 (by omega) rfl rfl rfl rfl (Nat.le_of_ble_eq_true rfl) dlw_674 ?_
  exact at_icmp_eq C dlw_677 rfl (fun _ => kk S2 hR) (fun hc => absurd rfl hc)
theorem lw_late (C : Cx G X RcLw code 4 lv (some .boolean)) (hlv : 40 ≤ lv) (hX : va_X b N sc (xs X) (xs X).heap) (hbl : b < (xs X).heap.size) (hbA : ¬ Aw G b) (hN : N ≤ 3072) {i : Nat} (hi : i + 6 ≤ N) (h : Rel S) (kk : ∀ S2, Rel S2 → At G X 4 Q 937 [(3, .int (nI i)), (0, .ref b), (1, .ref (ad G 0)), (2, .ref (ad G 40))] [] S2) : At G X 4 Q 682 [(3, .int (nI i)), (0, .ref b), (1, .ref (ad G 0)), (2, .ref (ad G 40))] [] S := by
  obtain ⟨r, S1, S2, m1, m2, hR⟩ := lo_late (l := xl X) C.2.2.2.2.2.2.1 h (sc (i + 1))
  refine at_aload_n (j := 2) C dlw_682 rfl rfl ?_
  refine at_aload_n (j := 1) C dlw_683 rfl rfl ?_
  refine at_iload_n (j := 0) C dlw_684 rfl rfl ?_
  refine at_iconst (x := nI 1) C dlw_685 rfl ?_
  refine at_iadd C dlw_686 ?_
  refine at_scrld C hX hbl hbA 1 (by omega) hN dlw_687 ?_
  refine at_callV C kLw_84 m1 (by omega) rfl rfl rfl rfl (Nat.le_of_ble_eq_true rfl) dlw_688 ?_
  refine at_aload_n (j := 3) C dlw_691 rfl rfl ?_
  refine at_aload_n (j := 1) C dlw_692 rfl rfl ?_
  refine at_iload_n (j := 0) C dlw_693 rfl rfl ?_
  refine at_iconst (x := nI 1) C dlw_694 rfl ?_
  refine at_iadd C dlw_695 ?_
  refine at_scrld C hX hbl hbA 1 (by omega) hN dlw_696 ?_
  refine at_callV C kLw_88 m2 (by omega) rfl rfl rfl rfl (Nat.le_of_ble_eq_true rfl) dlw_697 ?_
  refine at_lcmp C dlw_700 ?_
  exact at_if_eq C dlw_701 rfl (fun _ => kk S2 hR) (fun hc => absurd ((lg_cmp_eq _ _).mpr rfl) hc)
theorem lw_piece (C : Cx G X RcLw code 4 lv (some .boolean)) (hlv : 40 ≤ lv) (hX : va_X b N sc (xs X) (xs X).heap) (hbl : b < (xs X).heap.size) (hbA : ¬ Aw G b) (hN : N ≤ 3072) {i : Nat} (hi : i + 6 ≤ N) (h : Rel S) (kk : ∀ S2, Rel S2 → At G X 4 Q 937 [(3, .int (nI i)), (0, .ref b), (1, .ref (ad G 0)), (2, .ref (ad G 40))] [] S2) : At G X 4 Q 706 [(3, .int (nI i)), (0, .ref b), (1, .ref (ad G 0)), (2, .ref (ad G 40))] [] S := by
  obtain ⟨r, S1, S2, m1, m2, hR⟩ := lo_piece (l := xl X) C.2.2.2.2.2.2.1 h (sc (i + 1))
  refine at_aload_n (j := 2) C dlw_706 rfl rfl ?_
  refine at_aload_n (j := 1) C dlw_707 rfl rfl ?_
  refine at_iload_n (j := 0) C dlw_708 rfl rfl ?_
  refine at_iconst (x := nI 1) C dlw_709 rfl ?_
  refine at_iadd C dlw_710 ?_
  refine at_scrld C hX hbl hbA 1 (by omega) hN dlw_711 ?_
  refine at_callV C kLw_89 m1 (by omega) rfl rfl rfl rfl (Nat.le_of_ble_eq_true rfl) dlw_712 ?_
  refine at_aload_n (j := 3) C dlw_715 rfl rfl ?_
  refine at_aload_n (j := 1) C dlw_716 rfl rfl ?_
  refine at_iload_n (j := 0) C dlw_717 rfl rfl ?_
  refine at_iconst (x := nI 1) C dlw_718 rfl ?_
  refine at_iadd C dlw_719 ?_
  refine at_scrld C hX hbl hbA 1 (by omega) hN dlw_720 ?_
  refine at_callV C kLw_92 m2 (by omega) rfl rfl rfl rfl (Nat.le_of_ble_eq_true rfl) dlw_721 ?_
  exact at_icmp_eq C dlw_724 rfl (fun _ => kk S2 hR) (fun hc => absurd rfl hc)
theorem lw_market (C : Cx G X RcLw code 4 lv (some .boolean)) (hlv : 40 ≤ lv) (hX : va_X b N sc (xs X) (xs X).heap) (hbl : b < (xs X).heap.size) (hbA : ¬ Aw G b) (hN : N ≤ 3072) {i : Nat} (hi : i + 6 ≤ N) (h : Rel S) (kk : ∀ S2, Rel S2 → At G X 4 Q 937 [(3, .int (nI i)), (0, .ref b), (1, .ref (ad G 0)), (2, .ref (ad G 40))] [] S2) : At G X 4 Q 729 [(3, .int (nI i)), (0, .ref b), (1, .ref (ad G 0)), (2, .ref (ad G 40))] [] S := by
  obtain ⟨r, S1, S2, m1, m2, hR⟩ := lo_market (l := xl X) C.2.2.2.2.2.2.1 h (sc (i + 1)) (sc (i + 2)) (sc (i + 3)) (sc (i + 4))
  refine at_aload_n (j := 2) C dlw_729 rfl rfl ?_
  refine at_aload_n (j := 1) C dlw_730 rfl rfl ?_
  refine at_iload_n (j := 0) C dlw_731 rfl rfl ?_
  refine at_iconst (x := nI 1) C dlw_732 rfl ?_
  refine at_iadd C dlw_733 ?_
  refine at_scrld C hX hbl hbA 1 (by omega) hN dlw_734 ?_
  refine at_aload_n (j := 1) C dlw_735 rfl rfl ?_
  refine at_iload_n (j := 0) C dlw_736 rfl rfl ?_
  refine at_iconst (x := nI 2) C dlw_737 rfl ?_
  refine at_iadd C dlw_738 ?_
  refine at_scrld C hX hbl hbA 2 (by omega) hN dlw_739 ?_
  refine at_aload_n (j := 1) C dlw_740 rfl rfl ?_
  refine at_iload_n (j := 0) C dlw_741 rfl rfl ?_
  refine at_iconst (x := nI 3) C dlw_742 rfl ?_
  refine at_iadd C dlw_743 ?_
  refine at_scrld C hX hbl hbA 3 (by omega) hN dlw_744 ?_
  refine at_aload_n (j := 1) C dlw_745 rfl rfl ?_
  refine at_iload_n (j := 0) C dlw_746 rfl rfl ?_
  refine at_iconst (x := nI 4) C dlw_747 rfl ?_
  refine at_iadd C dlw_748 ?_
  refine at_scrld C hX hbl hbA 4 (by omega) hN dlw_749 ?_
  refine at_callV C kLw_93 m1 (by omega) rfl rfl rfl rfl (Nat.le_of_ble_eq_true rfl) dlw_750 ?_
  refine at_aload_n (j := 3) C dlw_753 rfl rfl ?_
  refine at_aload_n (j := 1) C dlw_754 rfl rfl ?_
  refine at_iload_n (j := 0) C dlw_755 rfl rfl ?_
  refine at_iconst (x := nI 1) C dlw_756 rfl ?_
  refine at_iadd C dlw_757 ?_
  refine at_scrld C hX hbl hbA 1 (by omega) hN dlw_758 ?_
  refine at_aload_n (j := 1) C dlw_759 rfl rfl ?_
  refine at_iload_n (j := 0) C dlw_760 rfl rfl ?_
  refine at_iconst (x := nI 2) C dlw_761 rfl ?_
  refine at_iadd C dlw_762 ?_
  refine at_scrld C hX hbl hbA 2 (by omega) hN dlw_763 ?_
  refine at_aload_n (j := 1) C dlw_764 rfl rfl ?_
  refine at_iload_n (j := 0) C dlw_765 rfl rfl ?_
  refine at_iconst (x := nI 3) C dlw_766 rfl ?_
  refine at_iadd C dlw_767 ?_
  refine at_scrld C hX hbl hbA 3 (by omega) hN dlw_768 ?_
  refine at_aload_n (j := 1) C dlw_769 rfl rfl ?_
  refine at_iload_n (j := 0) C dlw_770 rfl rfl ?_
  refine at_iconst (x := nI 4) C dlw_771 rfl ?_
  refine at_iadd C dlw_772 ?_
  refine at_scrld C hX hbl hbA 4 (by omega) hN dlw_773 ?_
  refine at_callV C kLw_97 m2 (by omega) rfl rfl rfl rfl (Nat.le_of_ble_eq_true rfl) dlw_774 ?_
  exact at_icmp_eq C dlw_777 rfl (fun _ => kk S2 hR) (fun hc => absurd rfl hc)
theorem lw_barter (C : Cx G X RcLw code 4 lv (some .boolean)) (hlv : 40 ≤ lv) (hX : va_X b N sc (xs X) (xs X).heap) (hbl : b < (xs X).heap.size) (hbA : ¬ Aw G b) (hN : N ≤ 3072) {i : Nat} (hi : i + 6 ≤ N) (h : Rel S) (kk : ∀ S2, Rel S2 → At G X 4 Q 937 [(3, .int (nI i)), (0, .ref b), (1, .ref (ad G 0)), (2, .ref (ad G 40))] [] S2) : At G X 4 Q 782 [(3, .int (nI i)), (0, .ref b), (1, .ref (ad G 0)), (2, .ref (ad G 40))] [] S := by
  obtain ⟨r, S1, S2, m1, m2, hR⟩ := lo_barter (l := xl X) C.2.2.2.2.2.2.1 h (sc (i + 1)) (sc (i + 2)) (sc (i + 3))
  refine at_aload_n (j := 2) C dlw_782 rfl rfl ?_
  refine at_aload_n (j := 1) C dlw_783 rfl rfl ?_
  refine at_iload_n (j := 0) C dlw_784 rfl rfl ?_
  refine at_iconst (x := nI 1) C dlw_785 rfl ?_
  refine at_iadd C dlw_786 ?_
  refine at_scrld C hX hbl hbA 1 (by omega) hN dlw_787 ?_
  refine at_aload_n (j := 1) C dlw_788 rfl rfl ?_
  refine at_iload_n (j := 0) C dlw_789 rfl rfl ?_
  refine at_iconst (x := nI 2) C dlw_790 rfl ?_
  refine at_iadd C dlw_791 ?_
  refine at_scrld C hX hbl hbA 2 (by omega) hN dlw_792 ?_
  refine at_aload_n (j := 1) C dlw_793 rfl rfl ?_
  refine at_iload_n (j := 0) C dlw_794 rfl rfl ?_
  refine at_iconst (x := nI 3) C dlw_795 rfl ?_
  refine at_iadd C dlw_796 ?_
  refine at_scrld C hX hbl hbA 3 (by omega) hN dlw_797 ?_
  refine at_callV C kLw_98 m1 (by omega) rfl rfl rfl rfl (Nat.le_of_ble_eq_true rfl) dlw_798 ?_
  refine at_aload_n (j := 3) C dlw_801 rfl rfl ?_
  refine at_aload_n (j := 1) C dlw_802 rfl rfl ?_
  refine at_iload_n (j := 0) C dlw_803 rfl rfl ?_
  refine at_iconst (x := nI 1) C dlw_804 rfl ?_
  refine at_iadd C dlw_805 ?_
  refine at_scrld C hX hbl hbA 1 (by omega) hN dlw_806 ?_
  refine at_aload_n (j := 1) C dlw_807 rfl rfl ?_
  refine at_iload_n (j := 0) C dlw_808 rfl rfl ?_
  refine at_iconst (x := nI 2) C dlw_809 rfl ?_
  refine at_iadd C dlw_810 ?_
  refine at_scrld C hX hbl hbA 2 (by omega) hN dlw_811 ?_
  refine at_aload_n (j := 1) C dlw_812 rfl rfl ?_
  refine at_iload_n (j := 0) C dlw_813 rfl rfl ?_
  refine at_iconst (x := nI 3) C dlw_814 rfl ?_
  refine at_iadd C dlw_815 ?_
  refine at_scrld C hX hbl hbA 3 (by omega) hN dlw_816 ?_
  refine at_callV C kLw_101 m2 (by omega) rfl rfl rfl rfl (Nat.le_of_ble_eq_true rfl) dlw_817 ?_
  exact at_icmp_eq C dlw_820 rfl (fun _ => kk S2 hR) (fun hc => absurd rfl hc)
theorem lw_bartered (C : Cx G X RcLw code 4 lv (some .boolean)) (hlv : 40 ≤ lv) (hX : va_X b N sc (xs X) (xs X).heap) (hbl : b < (xs X).heap.size) (hbA : ¬ Aw G b) (hN : N ≤ 3072) {i : Nat} (hi : i + 6 ≤ N) (h : Rel S) (kk : ∀ S2, Rel S2 → At G X 4 Q 937 [(3, .int (nI i)), (0, .ref b), (1, .ref (ad G 0)), (2, .ref (ad G 40))] [] S2) : At G X 4 Q 825 [(3, .int (nI i)), (0, .ref b), (1, .ref (ad G 0)), (2, .ref (ad G 40))] [] S := by
  obtain ⟨r, S1, S2, m1, m2, hR⟩ := lo_bartered (l := xl X) C.2.2.2.2.2.2.1 h (sc (i + 1))
  refine at_aload_n (j := 2) C dlw_825 rfl rfl ?_
  refine at_aload_n (j := 1) C dlw_826 rfl rfl ?_
  refine at_iload_n (j := 0) C dlw_827 rfl rfl ?_
  refine at_iconst (x := nI 1) C dlw_828 rfl ?_
  refine at_iadd C dlw_829 ?_
  refine at_scrld C hX hbl hbA 1 (by omega) hN dlw_830 ?_
  refine at_callV C kLw_102 m1 (by omega) rfl rfl rfl rfl (Nat.le_of_ble_eq_true rfl) dlw_831 ?_
  refine at_aload_n (j := 3) C dlw_834 rfl rfl ?_
  refine at_aload_n (j := 1) C dlw_835 rfl rfl ?_
  refine at_iload_n (j := 0) C dlw_836 rfl rfl ?_
  refine at_iconst (x := nI 1) C dlw_837 rfl ?_
  refine at_iadd C dlw_838 ?_
  refine at_scrld C hX hbl hbA 1 (by omega) hN dlw_839 ?_
  refine at_callV C kLw_105 m2 (by omega) rfl rfl rfl rfl (Nat.le_of_ble_eq_true rfl) dlw_840 ?_
  exact at_icmp_eq C dlw_843 rfl (fun _ => kk S2 hR) (fun hc => absurd rfl hc)
theorem lw_yields (C : Cx G X RcLw code 4 lv (some .boolean)) (hlv : 40 ≤ lv) (hX : va_X b N sc (xs X) (xs X).heap) (hbl : b < (xs X).heap.size) (hbA : ¬ Aw G b) (hN : N ≤ 3072) {i : Nat} (hi : i + 6 ≤ N) (h : Rel S) (kk : ∀ S2, Rel S2 → At G X 4 Q 937 [(3, .int (nI i)), (0, .ref b), (1, .ref (ad G 0)), (2, .ref (ad G 40))] [] S2) : At G X 4 Q 848 [(3, .int (nI i)), (0, .ref b), (1, .ref (ad G 0)), (2, .ref (ad G 40))] [] S := by
  obtain ⟨r, S1, S2, m1, m2, hR⟩ := lo_yields (l := xl X) C.2.2.2.2.2.2.1 h (sc (i + 1)) (sc (i + 2))
  refine at_aload_n (j := 2) C dlw_848 rfl rfl ?_
  refine at_aload_n (j := 1) C dlw_849 rfl rfl ?_
  refine at_iload_n (j := 0) C dlw_850 rfl rfl ?_
  refine at_iconst (x := nI 1) C dlw_851 rfl ?_
  refine at_iadd C dlw_852 ?_
  refine at_scrld C hX hbl hbA 1 (by omega) hN dlw_853 ?_
  refine at_aload_n (j := 1) C dlw_854 rfl rfl ?_
  refine at_iload_n (j := 0) C dlw_855 rfl rfl ?_
  refine at_iconst (x := nI 2) C dlw_856 rfl ?_
  refine at_iadd C dlw_857 ?_
  refine at_scrld C hX hbl hbA 2 (by omega) hN dlw_858 ?_
  refine at_callV C kLw_106 m1 (by omega) rfl rfl rfl rfl (Nat.le_of_ble_eq_true rfl) dlw_859 ?_
  refine at_aload_n (j := 3) C dlw_862 rfl rfl ?_
  refine at_aload_n (j := 1) C dlw_863 rfl rfl ?_
  refine at_iload_n (j := 0) C dlw_864 rfl rfl ?_
  refine at_iconst (x := nI 1) C dlw_865 rfl ?_
  refine at_iadd C dlw_866 ?_
  refine at_scrld C hX hbl hbA 1 (by omega) hN dlw_867 ?_
  refine at_aload_n (j := 1) C dlw_868 rfl rfl ?_
  refine at_iload_n (j := 0) C dlw_869 rfl rfl ?_
  refine at_iconst (x := nI 2) C dlw_870 rfl ?_
  refine at_iadd C dlw_871 ?_
  refine at_scrld C hX hbl hbA 2 (by omega) hN dlw_872 ?_
  refine at_callV C kLw_109 m2 (by omega) rfl rfl rfl rfl (Nat.le_of_ble_eq_true rfl) dlw_873 ?_
  exact at_icmp_eq C dlw_876 rfl (fun _ => kk S2 hR) (fun hc => absurd rfl hc)
theorem lw_parted (C : Cx G X RcLw code 4 lv (some .boolean)) (hlv : 40 ≤ lv) (hX : va_X b N sc (xs X) (xs X).heap) (hbl : b < (xs X).heap.size) (hbA : ¬ Aw G b) (hN : N ≤ 3072) {i : Nat} (hi : i + 6 ≤ N) (h : Rel S) (kk : ∀ S2, Rel S2 → At G X 4 Q 937 [(3, .int (nI i)), (0, .ref b), (1, .ref (ad G 0)), (2, .ref (ad G 40))] [] S2) : At G X 4 Q 881 [(3, .int (nI i)), (0, .ref b), (1, .ref (ad G 0)), (2, .ref (ad G 40))] [] S := by
  obtain ⟨r, S1, S2, m1, m2, hR⟩ := lo_parted (l := xl X) C.2.2.2.2.2.2.1 h (sc (i + 1)) (sc (i + 2))
  refine at_aload_n (j := 2) C dlw_881 rfl rfl ?_
  refine at_aload_n (j := 1) C dlw_882 rfl rfl ?_
  refine at_iload_n (j := 0) C dlw_883 rfl rfl ?_
  refine at_iconst (x := nI 1) C dlw_884 rfl ?_
  refine at_iadd C dlw_885 ?_
  refine at_scrld C hX hbl hbA 1 (by omega) hN dlw_886 ?_
  refine at_aload_n (j := 1) C dlw_887 rfl rfl ?_
  refine at_iload_n (j := 0) C dlw_888 rfl rfl ?_
  refine at_iconst (x := nI 2) C dlw_889 rfl ?_
  refine at_iadd C dlw_890 ?_
  refine at_scrld C hX hbl hbA 2 (by omega) hN dlw_891 ?_
  refine at_callV C kLw_110 m1 (by omega) rfl rfl rfl rfl (Nat.le_of_ble_eq_true rfl) dlw_892 ?_
  refine at_aload_n (j := 3) C dlw_895 rfl rfl ?_
  refine at_aload_n (j := 1) C dlw_896 rfl rfl ?_
  refine at_iload_n (j := 0) C dlw_897 rfl rfl ?_
  refine at_iconst (x := nI 1) C dlw_898 rfl ?_
  refine at_iadd C dlw_899 ?_
  refine at_scrld C hX hbl hbA 1 (by omega) hN dlw_900 ?_
  refine at_aload_n (j := 1) C dlw_901 rfl rfl ?_
  refine at_iload_n (j := 0) C dlw_902 rfl rfl ?_
  refine at_iconst (x := nI 2) C dlw_903 rfl ?_
  refine at_iadd C dlw_904 ?_
  refine at_scrld C hX hbl hbA 2 (by omega) hN dlw_905 ?_
  refine at_callV C kLw_113 m2 (by omega) rfl rfl rfl rfl (Nat.le_of_ble_eq_true rfl) dlw_906 ?_
  exact at_icmp_eq C dlw_909 rfl (fun _ => kk S2 hR) (fun hc => absurd rfl hc)
theorem lw_about (C : Cx G X RcLw code 4 lv (some .boolean)) (hlv : 40 ≤ lv) (hX : va_X b N sc (xs X) (xs X).heap) (hbl : b < (xs X).heap.size) (hbA : ¬ Aw G b) (hN : N ≤ 3072) {i : Nat} (hi : i + 6 ≤ N) (h : Rel S) (kk : ∀ S2, Rel S2 → At G X 4 Q 937 [(3, .int (nI i)), (0, .ref b), (1, .ref (ad G 0)), (2, .ref (ad G 40))] [] S2) : At G X 4 Q 914 [(3, .int (nI i)), (0, .ref b), (1, .ref (ad G 0)), (2, .ref (ad G 40))] [] S := by
  obtain ⟨r, S1, S2, m1, m2, hR⟩ := lo_about (l := xl X) C.2.2.2.2.2.2.1 h (sc (i + 1))
  refine at_aload_n (j := 2) C dlw_914 rfl rfl ?_
  refine at_aload_n (j := 1) C dlw_915 rfl rfl ?_
  refine at_iload_n (j := 0) C dlw_916 rfl rfl ?_
  refine at_iconst (x := nI 1) C dlw_917 rfl ?_
  refine at_iadd C dlw_918 ?_
  refine at_scrld C hX hbl hbA 1 (by omega) hN dlw_919 ?_
  refine at_callV C kLw_114 m1 (by omega) rfl rfl rfl rfl (Nat.le_of_ble_eq_true rfl) dlw_920 ?_
  refine at_aload_n (j := 3) C dlw_923 rfl rfl ?_
  refine at_aload_n (j := 1) C dlw_924 rfl rfl ?_
  refine at_iload_n (j := 0) C dlw_925 rfl rfl ?_
  refine at_iconst (x := nI 1) C dlw_926 rfl ?_
  refine at_iadd C dlw_927 ?_
  refine at_scrld C hX hbl hbA 1 (by omega) hN dlw_928 ?_
  refine at_callV C kLw_117 m2 (by omega) rfl rfl rfl rfl (Nat.le_of_ble_eq_true rfl) dlw_929 ?_
  exact at_icmp_eq C dlw_932 rfl (fun _ => kk S2 hR) (fun hc => absurd rfl hc)
theorem lw_loop (C : Cx G X RcLw code 4 lv (some .boolean)) (hlv : 40 ≤ lv) (hX : va_X b N sc (xs X) (xs X).heap) (hbl : b < (xs X).heap.size) (hbA : ¬ Aw G b) (hN : N ≤ 3072) (hend : ∀ (i : Nat) S, At G X 4 Q 943 [(3, .int (nI i)), (0, .ref b), (1, .ref (ad G 0)), (2, .ref (ad G 40))] [] S) : ∀ (q i : Nat) (S : ST), N ≤ i + q → i ≤ N → Rel S → At G X 4 Q 18 [(3, .int (nI i)), (0, .ref b), (1, .ref (ad G 0)), (2, .ref (ad G 40))] [] S := by
  intro q
  induction q with
  | zero =>
    intro i S hq hi h
    refine at_iload_n (j := 0) C dlw_18 rfl rfl ?_
    refine at_aload_n (j := 1) C dlw_19 rfl rfl ?_
    refine at_scrlen C hX hbl hbA dlw_20 ?_
    refine at_bipush (x := nI 6) C dlw_21 (by decide) ?_
    refine at_isub C dlw_23 ?_
    refine at_icmp_gt C dlw_24 rfl (fun _ => hend i S) (fun hc => absurd ?_ hc)
    by_cases z : 6 ≤ N
    · rw [pk_sub z]; exact (nI_ltI (by omega) (by omega)).mpr (by omega)
    · have z6 : ∀ n, n < 6 → nI n - nI 6 < 0 := by decide
      exact Int32.lt_of_lt_of_le (z6 N (by omega)) (nI_ge0 (by omega))
  | succ q ih =>
    intro i S hq hi h
    refine at_iload_n (j := 0) C dlw_18 rfl rfl ?_
    refine at_aload_n (j := 1) C dlw_19 rfl rfl ?_
    refine at_scrlen C hX hbl hbA dlw_20 ?_
    refine at_bipush (x := nI 6) C dlw_21 (by decide) ?_
    refine at_isub C dlw_23 ?_
    refine at_icmp_gt C dlw_24 rfl (fun _ => hend i S) (fun hc => ?_)
    have hi6 : i + 6 ≤ N := by
      by_cases z : 6 ≤ N
      · rw [pk_sub z] at hc
        by_cases z2 : i + 6 ≤ N
        · exact z2
        · exact absurd ((nI_ltI (by omega) (by omega)).mpr (by omega)) hc
      · have z6 : ∀ n, n < 6 → nI n - nI 6 < 0 := by decide
        exact absurd (Int32.lt_of_lt_of_le (z6 N (by omega)) (nI_ge0 (by omega))) hc
    have kk : ∀ S2, Rel S2 → At G X 4 Q 937 [(3, .int (nI i)), (0, .ref b), (1, .ref (ad G 0)), (2, .ref (ad G 40))] [] S2 := by
      intro S2 h2
      refine at_iinc (j := 0) (c := nI 6) C dlw_937 rfl (by decide) (by decide) rfl ?_
      rw [nI_add]
      exact at_goto C dlw_940 rfl (ih (i + 6) S2 (by omega) (by omega) h2)
    refine at_aload_n (j := 1) C dlw_27 rfl rfl ?_
    refine at_iload_n (j := 0) C dlw_28 rfl rfl ?_
    have hsl : At G X 4 Q 30 [(3, .int (nI i)), (0, .ref b), (1, .ref (ad G 0)), (2, .ref (ad G 40))] [.int (sc (i + 0))] S → At G X 4 Q 29 [(3, .int (nI i)), (0, .ref b), (1, .ref (ad G 0)), (2, .ref (ad G 40))] [.int (nI i), .ref b] S := by
      intro k2
      have := at_scrld C hX hbl hbA (i := i) 0 (by omega) hN dlw_29 k2
      rwa [show nI i + nI 0 = nI i from Int32.add_zero _] at this
    refine hsl ?_
    refine at_bipush (x := 31) C dlw_30 (by decide) ?_
    refine at_iand C dlw_32 ?_
    obtain ⟨j, hj, e⟩ := pk_andE (sc (i + 0)) (m := 31) 5 (by decide)
    rw [e]
    have hc24 : j = 0 ∨ j = 1 ∨ j = 2 ∨ j = 3 ∨ j = 4 ∨ j = 5 ∨ j = 6 ∨ j = 7 ∨ j = 8 ∨ j = 9 ∨ j = 10 ∨ j = 11 ∨ j = 12 ∨ j = 13 ∨ j = 14 ∨ j = 15 ∨ j = 16 ∨ j = 17 ∨ j = 18 ∨ j = 19 ∨ j = 20 ∨ j = 21 ∨ j = 22 ∨ j = 23 ∨ 24 ≤ j := by omega
    rcases hc24 with rfl | rfl | rfl | rfl | rfl | rfl | rfl | rfl | rfl | rfl | rfl | rfl | rfl | rfl | rfl | rfl | rfl | rfl | rfl | rfl | rfl | rfl | rfl | rfl | hj24

    · exact at_tin C (nI 0) rfl dlw_33 (by decide) (by decide) rfl rfl (lw_road C hlv hX hbl hbA hN hi6 h kk)
    · exact at_tin C (nI 1) rfl dlw_33 (by decide) (by decide) rfl rfl (lw_way C hlv hX hbl hbA hN hi6 h kk)
    · exact at_tin C (nI 2) rfl dlw_33 (by decide) (by decide) rfl rfl (lw_weight C hlv hX hbl hbA hN hi6 h kk)
    · exact at_tin C (nI 3) rfl dlw_33 (by decide) (by decide) rfl rfl (lw_carriers C hlv hX hbl hbA hN hi6 h kk)
    · exact at_tin C (nI 4) rfl dlw_33 (by decide) (by decide) rfl rfl (lw_feed C hlv hX hbl hbA hN hi6 h kk)
    · exact at_tin C (nI 5) rfl dlw_33 (by decide) (by decide) rfl rfl (lw_end C hlv hX hbl hbA hN hi6 h kk)
    · exact at_tin C (nI 6) rfl dlw_33 (by decide) (by decide) rfl rfl (lw_copy C hlv hX hbl hbA hN hi6 h kk)
    · exact at_tin C (nI 7) rfl dlw_33 (by decide) (by decide) rfl rfl (lw_fault C hlv hX hbl hbA hN hi6 h kk)
    · exact at_tin C (nI 8) rfl dlw_33 (by decide) (by decide) rfl rfl (lw_tells C hlv hX hbl hbA hN hi6 h kk)
    · exact at_tin C (nI 9) rfl dlw_33 (by decide) (by decide) rfl rfl (lw_owed C hlv hX hbl hbA hN hi6 h kk)
    · exact at_tin C (nI 10) rfl dlw_33 (by decide) (by decide) rfl rfl (lw_quarrel C hlv hX hbl hbA hN hi6 h kk)
    · exact at_tin C (nI 11) rfl dlw_33 (by decide) (by decide) rfl rfl (lw_quarrels C hlv hX hbl hbA hN hi6 h kk)
    · exact at_tin C (nI 12) rfl dlw_33 (by decide) (by decide) rfl rfl (lw_send C hlv hX hbl hbA hN hi6 h kk)
    · exact at_tin C (nI 13) rfl dlw_33 (by decide) (by decide) rfl rfl (lw_sending C hlv hX hbl hbA hN hi6 h kk)
    · exact at_tin C (nI 14) rfl dlw_33 (by decide) (by decide) rfl rfl (lw_days C hlv hX hbl hbA hN hi6 h kk)
    · exact at_tin C (nI 15) rfl dlw_33 (by decide) (by decide) rfl rfl (lw_account C hlv hX hbl hbA hN hi6 h kk)
    · exact at_tin C (nI 16) rfl dlw_33 (by decide) (by decide) rfl rfl (lw_late C hlv hX hbl hbA hN hi6 h kk)
    · exact at_tin C (nI 17) rfl dlw_33 (by decide) (by decide) rfl rfl (lw_piece C hlv hX hbl hbA hN hi6 h kk)
    · exact at_tin C (nI 18) rfl dlw_33 (by decide) (by decide) rfl rfl (lw_market C hlv hX hbl hbA hN hi6 h kk)
    · exact at_tin C (nI 19) rfl dlw_33 (by decide) (by decide) rfl rfl (lw_barter C hlv hX hbl hbA hN hi6 h kk)
    · exact at_tin C (nI 20) rfl dlw_33 (by decide) (by decide) rfl rfl (lw_bartered C hlv hX hbl hbA hN hi6 h kk)
    · exact at_tin C (nI 21) rfl dlw_33 (by decide) (by decide) rfl rfl (lw_yields C hlv hX hbl hbA hN hi6 h kk)
    · exact at_tin C (nI 22) rfl dlw_33 (by decide) (by decide) rfl rfl (lw_parted C hlv hX hbl hbA hN hi6 h kk)
    · exact at_tin C (nI 23) rfl dlw_33 (by decide) (by decide) rfl rfl (lw_about C hlv hX hbl hbA hN hi6 h kk)
    · refine at_tout C dlw_33 (Or.inr ?_) rfl (kk S h)
      rw [nI_toInt (by omega)]
      omega
end LAW
