/-! The step, out of what is so of each call. -/
theorem tp_3 {n L : Nat} {m : Mm} (P : An (d_123 20 m) (fun v => An (d_303 249 m) (fun r => v = r.1 ∧ Inv (n + 1) r.2))) : TN n L (d_348_355 L (zI ((7 * n : Nat) : Int)) m) := by
  unfold d_348_355
  refine An.bd P (fun v h1 => An.bd h1 (fun r h2 => ?_))
  exact TN_pp (L := L) h2.1 h2.2
theorem tp_4 {n L : Nat} {m : Mm} (P : An (d_124 20 m) (fun v => An (d_304 249 m) (fun r => v = r.1 ∧ Inv (n + 1) r.2))) : TN n L (d_348_368 L (zI ((7 * n : Nat) : Int)) m) := by
  unfold d_348_368
  refine An.bd P (fun v h1 => An.bd h1 (fun r h2 => ?_))
  exact TN_pp (L := L) h2.1 h2.2
theorem tp_44 {n L : Nat} {m : Mm} (hi : 7 * n + 7 ≤ L) (hL : L ≤ 3584) (P : ∀ a : Int32, An (d_172 20 a m) (fun v => An (d_310 249 a m) (fun r => v = r.1 ∧ Inv (n + 1) r.2))) : TN n L (d_348_3189 L (zI ((7 * n : Nat) : Int)) m) := by
  unfold d_348_3189
  have I1 := in_i hi hL (show 1 < 7 by decide)
  rw [← z1n] at I1
  rw [if_pos I1]
  refine An.bd (P _) (fun v h1 => ?_)
  rw [if_pos I1]
  refine An.bd h1 (fun r h2 => ?_)
  exact TN_pp (L := L) h2.1 h2.2
theorem tp_30 {n L : Nat} {m : Mm} (P : An (d_152 20 m) (fun v => An (d_272 249 m) (fun r => v = r.1 ∧ Inv (n + 1) r.2))) : TN n L (d_348_2368 L (zI ((7 * n : Nat) : Int)) m) := by
  unfold d_348_2368
  refine An.bd P (fun v h1 => An.bd h1 (fun r h2 => ?_))
  obtain ⟨rfl, hI⟩ := h2
  by_cases q : Op.cmpValue (FP.dcmp r.1 r.1) .l = 0
  · rw [if_pos q]; exact TN_go (L := L) hI
  · rw [if_neg q, if_neg q, if_pos q]; exact TN_go (L := L) hI
theorem tp_31 {n L : Nat} {m : Mm} (P : An (d_153 20 m) (fun v => (FP.f2d v) &&& 0x7fffffffffffffff ≤ 0x7ff0000000000000 ∧ An (d_273 249 m) (fun r => v = r.1 ∧ Inv (n + 1) r.2))) : TN n L (d_348_2409 L (zI ((7 * n : Nat) : Int)) m) := by
  unfold d_348_2409
  refine An.bd P (fun v h1 => ?_)
  obtain ⟨hv, h1⟩ := h1
  rw [if_pos hv, wbs]
  refine An.bd h1 (fun r h2 => ?_)
  obtain ⟨rfl, hI⟩ := h2
  rw [if_pos hv, wbs]
  by_cases q : Op.cmpValue (FP.dcmp (FP.f2d r.1) (FP.f2d r.1)) .l = 0
  · rw [if_pos q]; exact TN_go (L := L) hI
  · rw [if_neg q, if_neg q, if_pos q]; exact TN_go (L := L) hI
theorem TN_if {n L : Nat} {p : Prop} [Decidable p] {q q2 : Option ((Int32 × Mm) ⊕ (Bool × Mm))} (h1 : TN n L q) (h2 : TN n L q2) : TN n L (if p then q else q2) := by
  by_cases h : p
  · rw [if_pos h]; exact h1
  · rw [if_neg h]; exact h2
/-- what is so of every call -/
def ALL : Prop := ∀ (n : Nat) (m : Mm), n ≤ 512 → Inv n m → ((∀ (a1 a2 a3 a4 a5 : Int32), PP n m (d_120 20 a1 a2 a3 a4 a5 m) (fun m1 => d_282 249 a1 a2 a3 a4 a5 m1)) ∧
  (∀ (a1 : Int32), PP n m (d_121 20 a1 m) (fun m1 => d_283 249 a1 m1)) ∧
  (PP n m (d_122 20 m) (fun m1 => d_302 249 m1)) ∧
  (An (d_123 20 m) (fun v => An (d_303 249 m) (fun r => v = r.1 ∧ Inv (n + 1) r.2))) ∧
  (An (d_124 20 m) (fun v => An (d_304 249 m) (fun r => v = r.1 ∧ Inv (n + 1) r.2))) ∧
  (∀ (a1 : Int32), PR n m (d_311 20 a1 266 m) (fun m1 => d_215 249 a1 m1)) ∧
  (∀ (a1 : Int32), PR n m (d_312 20 a1 266 m) (fun m1 => d_216 249 a1 m1)) ∧
  (∀ (a1 a2 a3 : Int32), PR n m (d_313 20 a1 a2 a3 266 m) (fun m1 => d_217 249 a1 a2 a3 m1)) ∧
  (∀ (a1 a2 a3 a4 a5 a6 : Int32), PB n m (d_314 20 a1 a2 a3 a4 a5 a6 266 m) (fun m1 => d_218 249 a1 a2 a3 a4 a5 a6 m1)) ∧
  (∀ (a1 a2 : Int32), PR n m (d_315 20 a1 a2 266 m) (fun m1 => d_219 249 a1 a2 m1)) ∧
  (∀ (a1 a2 a3 a4 : Int32), PR n m (d_316 20 a1 a2 a3 a4 266 m) (fun m1 => d_220 249 a1 a2 a3 a4 m1)) ∧
  (∀ (a1 a2 : Int32), PR n m (d_317 20 a1 a2 266 m) (fun m1 => d_221 249 a1 a2 m1)) ∧
  (∀ (a1 a2 a3 a4 : Int32), PR n m (d_318 20 a1 a2 a3 a4 266 m) (fun m1 => d_223 249 a1 a2 a3 a4 m1)) ∧
  (∀ (a1 a2 : Int32), PB n m (d_319 20 a1 a2 266 m) (fun m1 => d_224 249 a1 a2 m1)) ∧
  (∀ (a1 a2 : Int32), PR n m (d_320 20 a1 a2 266 m) (fun m1 => d_225 249 a1 a2 m1)) ∧
  (∀ (a1 : Int32), PR n m (d_321 20 a1 266 m) (fun m1 => d_226 249 a1 m1)) ∧
  (∀ (a1 : Int32), PR n m (d_322 20 a1 266 m) (fun m1 => d_228 249 a1 m1)) ∧
  (∀ (a1 a2 a3 a4 a5 : Int32), PR n m (d_323 20 a1 a2 a3 a4 a5 266 m) (fun m1 => d_230 249 a1 a2 a3 a4 a5 m1)) ∧
  (∀ (a1 : Int32), PB n m (d_324 20 a1 266 m) (fun m1 => d_235 249 a1 m1)) ∧
  (∀ (a1 a2 : Int32), PR n m (d_325 20 a1 a2 266 m) (fun m1 => d_236 249 a1 a2 m1)) ∧
  (∀ (a1 : Int32), PR n m (d_326 20 a1 266 m) (fun m1 => d_237 249 a1 m1)) ∧
  (∀ (a1 a2 : Int32), PR n m (d_327 20 a1 a2 266 m) (fun m1 => d_239 249 a1 a2 m1)) ∧
  (∀ (a1 a2 a3 a4 a5 : Int32), PR n m (d_328 20 a1 a2 a3 a4 a5 266 m) (fun m1 => d_254 249 a1 a2 a3 a4 a5 m1)) ∧
  (∀ (a1 a2 a3 a4 a5 : Int32), PR n m (d_329 20 a1 a2 a3 a4 a5 266 m) (fun m1 => d_255 249 a1 a2 a3 a4 a5 m1)) ∧
  (∀ (a1 a2 a3 a4 : Int32), PR n m (d_330 20 a1 a2 a3 a4 266 m) (fun m1 => d_256 249 a1 a2 a3 a4 m1)) ∧
  (∀ (a1 a2 a3 a4 : Int32), PR n m (d_331 20 a1 a2 a3 a4 266 m) (fun m1 => d_257 249 a1 a2 a3 a4 m1)) ∧
  (∀ (a1 a2 a3 a4 a5 : Int32), PR n m (d_332 20 a1 a2 a3 a4 a5 266 m) (fun m1 => d_268 249 a1 a2 a3 a4 a5 m1)) ∧
  (∀ (a1 a2 a3 a4 a5 : Int32), PR n m (d_333 20 a1 a2 a3 a4 a5 266 m) (fun m1 => d_269 249 a1 a2 a3 a4 a5 m1)) ∧
  (∀ (a1 a2 : Int32), PR n m (d_334 20 a1 a2 266 m) (fun m1 => d_270 249 a1 a2 m1)) ∧
  (∀ (a1 a2 : Int32), PR n m (d_335 20 a1 a2 266 m) (fun m1 => d_271 249 a1 a2 m1)) ∧
  (An (d_152 20 m) (fun v => An (d_272 249 m) (fun r => v = r.1 ∧ Inv (n + 1) r.2))) ∧
  (An (d_153 20 m) (fun v => (FP.f2d v) &&& 0x7fffffffffffffff ≤ 0x7ff0000000000000 ∧ An (d_273 249 m) (fun r => v = r.1 ∧ Inv (n + 1) r.2))) ∧
  (∀ (a1 a2 a3 a4 : Int32), PR n m (d_336 20 a1 a2 a3 a4 266 m) (fun m1 => d_266 249 a1 a2 a3 a4 m1)) ∧
  (∀ (a1 : Int32), PR n m (d_337 20 a1 266 m) (fun m1 => d_274 249 a1 m1)) ∧
  (PR n m (d_338 20 266 m) (fun m1 => d_275 249 m1)) ∧
  (∀ (a1 : Int32), PR n m (d_339 20 a1 266 m) (fun m1 => d_276 249 a1 m1)) ∧
  (∀ (a1 a2 : Int32), PR n m (d_340 20 a1 a2 266 m) (fun m1 => d_277 249 a1 a2 m1)) ∧
  (∀ (a1 a2 a3 : Int32), PR n m (d_341 20 a1 a2 a3 266 m) (fun m1 => d_278 249 a1 a2 a3 m1)) ∧
  (∀ (a1 : Int32), PR n m (d_342 20 a1 266 m) (fun m1 => d_279 249 a1 m1)) ∧
  (∀ (a1 a2 : Int32), PR n m (d_343 20 a1 a2 266 m) (fun m1 => d_281 249 a1 a2 m1)) ∧
  (PR n m (d_344 20 266 m) (fun m1 => d_190 249 m1)) ∧
  (∀ (a1 a2 : Int32), PR n m (d_345 20 a1 a2 266 m) (fun m1 => d_306 249 a1 a2 m1)) ∧
  (∀ (a1 a2 a3 a4 : Int32), PR n m (d_346 20 a1 a2 a3 a4 266 m) (fun m1 => d_307 249 a1 a2 a3 a4 m1)) ∧
  (PP n m (d_168 20 m) (fun m1 => d_309 249 m1)) ∧
  (∀ (a1 : Int32), An (d_172 20 a1 m) (fun v => An (d_310 249 a1 m) (fun r => v = r.1 ∧ Inv (n + 1) r.2))) ∧
  (PP n m (d_173 20 m) (fun m1 => d_191 249 m1)) ∧
  (PR n m (d_347 20 266 m) (fun m1 => d_192 249 m1)))
theorem step_ok (hA : ALL) : STEP := by
  intro n L m hI hi hL
  obtain ⟨p0, p1, p2, p3, p4, p5, p6, p7, p8, p9, p10, p11, p12, p13, p14, p15, p16, p17, p18, p19, p20, p21, p22, p23, p24, p25, p26, p27, p28, p29, p30, p31, p32, p33, p34, p35, p36, p37, p38, p39, p40, p41, p42, p43, p44, p45, p46⟩ := hA n m (by omega) hI
  unfold s_348_23
  rw [zI_on, zl_7, zI_sub, if_neg (by rw [zI_lt (by omega) (by omega) (by omega) (by omega)]; omega), if_pos (in_k (by omega) (by omega))]
  refine TN_if (tp_0 hi hL p0) ?_
  refine TN_if (tp_1 hi hL p1) ?_
  refine TN_if (tp_2 hi hL p2) ?_
  refine TN_if (tp_3 p3) ?_
  refine TN_if (tp_4 p4) ?_
  refine TN_if (tp_5 hi hL p5) ?_
  refine TN_if (tp_6 hi hL p6) ?_
  refine TN_if (tp_7 hi hL p7) ?_
  refine TN_if (tp_8 hi hL p8) ?_
  refine TN_if (tp_9 hi hL p9) ?_
  refine TN_if (tp_10 hi hL p10) ?_
  refine TN_if (tp_11 hi hL p11) ?_
  refine TN_if (tp_12 hi hL p12) ?_
  refine TN_if (tp_13 hi hL p13) ?_
  refine TN_if (tp_14 hi hL p14) ?_
  refine TN_if (tp_15 hi hL p15) ?_
  refine TN_if (tp_16 hi hL p16) ?_
  refine TN_if (tp_17 hi hL p17) ?_
  refine TN_if (tp_18 hi hL p18) ?_
  refine TN_if (tp_19 hi hL p19) ?_
  refine TN_if (tp_20 hi hL p20) ?_
  refine TN_if (tp_21 hi hL p21) ?_
  refine TN_if (tp_22 hi hL p22) ?_
  refine TN_if (tp_23 hi hL p23) ?_
  refine TN_if (tp_24 hi hL p24) ?_
  refine TN_if (tp_25 hi hL p25) ?_
  refine TN_if (tp_26 hi hL p26) ?_
  refine TN_if (tp_27 hi hL p27) ?_
  refine TN_if (tp_28 hi hL p28) ?_
  refine TN_if (tp_29 hi hL p29) ?_
  refine TN_if (tp_30 p30) ?_
  refine TN_if (tp_31 p31) ?_
  refine TN_if (tp_32 hi hL p32) ?_
  refine TN_if (tp_33 hi hL p33) ?_
  refine TN_if (tp_34 hi hL p34) ?_
  refine TN_if (tp_35 hi hL p35) ?_
  refine TN_if (tp_36 hi hL p36) ?_
  refine TN_if (tp_37 hi hL p37) ?_
  refine TN_if (tp_38 hi hL p38) ?_
  refine TN_if (tp_39 hi hL p39) ?_
  refine TN_if (tp_40 hi hL p40) ?_
  refine TN_if (tp_41 hi hL p41) ?_
  refine TN_if (tp_42 hi hL p42) ?_
  refine TN_if (tp_43 hi hL p43) ?_
  refine TN_if (tp_44 hi hL p44) ?_
  refine TN_if (tp_45 hi hL p45) ?_
  refine TN_if (tp_46 hi hL p46) ?_
  have e := TN_go (L := L) (hI.q (Qe.rf m))
  rw [zl_7] at e
  exact e
