set_option maxHeartbeats 4000000 in
set_option maxRecDepth 100000 in
theorem eb_lp1 {l : Launch} {D : va_G} {L : Nat} {xs : Nat → Int32} {b0 : Nat} (hL : L ≤ 1000000) {av aw : Nat → Nat} {p : Program} {e : Env} {s : State} {m : MethodId} {below : List Frame} {meth : Method} {c : Code} {A : Nat → Prop} (hx : p.tables.exec = Jvm.exec) (hb : c.code = method_7_code) (hml : c.maxLocals = 9) (hr : meth.sig.returnType = (some (.object "java/lang/String"))) (hown : s.vm.findClass "LanternChessLaw" = some m.cls) (hts : ∀ w ∈ eb_gw, w.before #[Value.ref b0] s = true) (hlocks : meth.locks = false) (hA : ∀ q : Nat, s.heap.size ≤ q → A q) (hX : eb_X L xs b0 av aw A s s.heap) (hY : eb_Y av s) (hA2 : ∀ q, A q → s.heap.size ≤ q) : ∀ (Wd Hd a9 b9 p9 w9 t9 : Nat) (bo b : Nat) (cZ : ClassId), WH Wd Hd → Wd ≤ 6 → Hd ≤ 6 → (60 ≤ a9 ∧ a9 ≤ 900) → (60 ≤ b9 ∧ b9 ≤ 900) → (1 ≤ p9 ∧ p9 ≤ 3) → w9 ≤ 4 → (1 ≤ t9 ∧ t9 ≤ 4) → ∀ (Np : Nat), Np ≤ 6 → ∀ (k i : Nat) (ps : List (Nat × Nat × Nat × Nat)) (g : Nat → Int32) (lx0 : List Nat) (v0 : Nat) (c0 : ClassId) (M0 : Nat) (f0 : Nat → Int32) (H0 : Heap) (locs : List Loc) (ls : Array Slot), k + i = Np → ps.length ≤ i → okP Wd Hd ps → eb_Gr Wd Hd ps g → lx0 = txt Wd Hd a9 b9 p9 w9 t9 (flP ps) → eb_U lx0 (90 + 21 * i) M0 f0 → va_P D eb_cl (eb_V bo cZ g b v0 c0 M0 f0 lx0) H0 → va_D A (eb_V bo cZ g b v0 c0 M0 f0 lx0) → va_S A s.heap H0 locs → va_K D eb_cl [(cZ, .boolean), (c0, .byte)] s → lv_has ls 9 [(6, .int (nI i)), (5, .int (nI Np)), (4, .ref b), (3, .ref bo), (2, .int (nI Hd)), (1, .int (nI Wd)), (0, .ref b0)] → W p l e (headSpec (Cond.code ye_setup method_7_code 9 (some (.object "java/lang/String")) :: eb_gw) { frames := 9, cells := 400, slots := 600000, locals := 270 }).room s m #[Value.ref b0] below meth c H0 locs (60 + 20 * i) (60000 + 30000 * i) (MQ below (va_Qr (fun (_ : Unit) => True) (fun _ q t => ∃ (v : Nat) (lx : List Nat), eb_OK lx ∧ eb_T (fun _ => False) lx.length (eb_fx lx) q v t t.heap ∧ s.heap.size ≤ q ∧ s.heap.size ≤ v) A) #[Value.ref b0] s 400 600000 A) (F0 m 193 ls []) := by
  have d193 : decode method_7_code 193 = .ok (.iload 6, 2) := by decide +kernel
  have d195 : decode method_7_code 195 = .ok (.iload 5, 2) := by decide +kernel
  have d197 : decode method_7_code 197 = .ok (.if_icmp .ge (141), 3) := by decide +kernel
  have d200 : decode method_7_code 200 = .ok (.aload_n 0, 1) := by decide +kernel
  have d201 : decode method_7_code 201 = .ok (.bipush (20), 2) := by decide +kernel
  have d203 : decode method_7_code 203 = .ok (.iconst 4, 1) := by decide +kernel
  have d204 : decode method_7_code 204 = .ok (.iload 6, 2) := by decide +kernel
  have d206 : decode method_7_code 206 = .ok (.imul, 1) := by decide +kernel
  have d207 : decode method_7_code 207 = .ok (.iadd, 1) := by decide +kernel
  have d208 : decode method_7_code 208 = .ok (.iconst 0, 1) := by decide +kernel
  have d209 : decode method_7_code 209 = .ok (.iload_n 1, 1) := by decide +kernel
  have d210 : decode method_7_code 210 = .ok (.iconst 1, 1) := by decide +kernel
  have d211 : decode method_7_code 211 = .ok (.isub, 1) := by decide +kernel
  have d212 : decode method_7_code 212 = .ok (.invokestatic 52, 3) := by decide +kernel
  have d215 : decode method_7_code 215 = .ok (.istore 7, 2) := by decide +kernel
  have d217 : decode method_7_code 217 = .ok (.aload_n 0, 1) := by decide +kernel
  have d218 : decode method_7_code 218 = .ok (.bipush (21), 2) := by decide +kernel
  have d220 : decode method_7_code 220 = .ok (.iconst 4, 1) := by decide +kernel
  have d221 : decode method_7_code 221 = .ok (.iload 6, 2) := by decide +kernel
  have d223 : decode method_7_code 223 = .ok (.imul, 1) := by decide +kernel
  have d224 : decode method_7_code 224 = .ok (.iadd, 1) := by decide +kernel
  have d225 : decode method_7_code 225 = .ok (.iconst 0, 1) := by decide +kernel
  have d226 : decode method_7_code 226 = .ok (.iload_n 2, 1) := by decide +kernel
  have d227 : decode method_7_code 227 = .ok (.iconst 1, 1) := by decide +kernel
  have d228 : decode method_7_code 228 = .ok (.isub, 1) := by decide +kernel
  have d229 : decode method_7_code 229 = .ok (.invokestatic 52, 3) := by decide +kernel
  have d232 : decode method_7_code 232 = .ok (.istore 8, 2) := by decide +kernel
  have d234 : decode method_7_code 234 = .ok (.aload_n 3, 1) := by decide +kernel
  have d235 : decode method_7_code 235 = .ok (.iload_n 1, 1) := by decide +kernel
  have d236 : decode method_7_code 236 = .ok (.iload 8, 2) := by decide +kernel
  have d238 : decode method_7_code 238 = .ok (.imul, 1) := by decide +kernel
  have d239 : decode method_7_code 239 = .ok (.iload 7, 2) := by decide +kernel
  have d241 : decode method_7_code 241 = .ok (.iadd, 1) := by decide +kernel
  have d242 : decode method_7_code 242 = .ok (.baload, 1) := by decide +kernel
  have d243 : decode method_7_code 243 = .ok (.ifCond .eq (6), 3) := by decide +kernel
  have d246 : decode method_7_code 246 = .ok (.goto (86), 3) := by decide +kernel
  have d249 : decode method_7_code 249 = .ok (.aload_n 3, 1) := by decide +kernel
  have d250 : decode method_7_code 250 = .ok (.iload_n 1, 1) := by decide +kernel
  have d251 : decode method_7_code 251 = .ok (.iload 8, 2) := by decide +kernel
  have d253 : decode method_7_code 253 = .ok (.imul, 1) := by decide +kernel
  have d254 : decode method_7_code 254 = .ok (.iload 7, 2) := by decide +kernel
  have d256 : decode method_7_code 256 = .ok (.iadd, 1) := by decide +kernel
  have d257 : decode method_7_code 257 = .ok (.iconst 1, 1) := by decide +kernel
  have d258 : decode method_7_code 258 = .ok (.bastore, 1) := by decide +kernel
  have d259 : decode method_7_code 259 = .ok (.aload 4, 2) := by decide +kernel
  have d261 : decode method_7_code 261 = .ok (.aload_n 0, 1) := by decide +kernel
  have d262 : decode method_7_code 262 = .ok (.bipush (22), 2) := by decide +kernel
  have d264 : decode method_7_code 264 = .ok (.iconst 4, 1) := by decide +kernel
  have d265 : decode method_7_code 265 = .ok (.iload 6, 2) := by decide +kernel
  have d267 : decode method_7_code 267 = .ok (.imul, 1) := by decide +kernel
  have d268 : decode method_7_code 268 = .ok (.iadd, 1) := by decide +kernel
  have d269 : decode method_7_code 269 = .ok (.iconst 0, 1) := by decide +kernel
  have d270 : decode method_7_code 270 = .ok (.iconst 1, 1) := by decide +kernel
  have d271 : decode method_7_code 271 = .ok (.invokestatic 52, 3) := by decide +kernel
  have d274 : decode method_7_code 274 = .ok (.ifCond .ne (8), 3) := by decide +kernel
  have d277 : decode method_7_code 277 = .ok (.ldc 83, 2) := by decide +kernel
  have d279 : decode method_7_code 279 = .ok (.goto (5), 3) := by decide +kernel
  have d282 : decode method_7_code 282 = .ok (.ldc 85, 2) := by decide +kernel
  have d284 : decode method_7_code 284 = .ok (.invokevirtual 72, 3) := by decide +kernel
  have d287 : decode method_7_code 287 = .ok (.aload_n 0, 1) := by decide +kernel
  have d288 : decode method_7_code 288 = .ok (.bipush (23), 2) := by decide +kernel
  have d290 : decode method_7_code 290 = .ok (.iconst 4, 1) := by decide +kernel
  have d291 : decode method_7_code 291 = .ok (.iload 6, 2) := by decide +kernel
  have d293 : decode method_7_code 293 = .ok (.imul, 1) := by decide +kernel
  have d294 : decode method_7_code 294 = .ok (.iadd, 1) := by decide +kernel
  have d295 : decode method_7_code 295 = .ok (.iconst 0, 1) := by decide +kernel
  have d296 : decode method_7_code 296 = .ok (.iconst 4, 1) := by decide +kernel
  have d297 : decode method_7_code 297 = .ok (.invokestatic 52, 3) := by decide +kernel
  have d300 : decode method_7_code 300 = .ok (.invokestatic 87, 3) := by decide +kernel
  have d303 : decode method_7_code 303 = .ok (.invokevirtual 72, 3) := by decide +kernel
  have d306 : decode method_7_code 306 = .ok (.bipush (32), 2) := by decide +kernel
  have d308 : decode method_7_code 308 = .ok (.invokevirtual 67, 3) := by decide +kernel
  have d311 : decode method_7_code 311 = .ok (.iload 7, 2) := by decide +kernel
  have d313 : decode method_7_code 313 = .ok (.invokevirtual 63, 3) := by decide +kernel
  have d316 : decode method_7_code 316 = .ok (.bipush (32), 2) := by decide +kernel
  have d318 : decode method_7_code 318 = .ok (.invokevirtual 67, 3) := by decide +kernel
  have d321 : decode method_7_code 321 = .ok (.iload 8, 2) := by decide +kernel
  have d323 : decode method_7_code 323 = .ok (.invokevirtual 63, 3) := by decide +kernel
  have d326 : decode method_7_code 326 = .ok (.bipush (59), 2) := by decide +kernel
  have d328 : decode method_7_code 328 = .ok (.invokevirtual 67, 3) := by decide +kernel
  have d331 : decode method_7_code 331 = .ok (.pop, 1) := by decide +kernel
  have d332 : decode method_7_code 332 = .ok (.iinc 6 (1), 3) := by decide +kernel
  have d335 : decode method_7_code 335 = .ok (.goto (-142), 3) := by decide +kernel
  have d338 : decode method_7_code 338 = .ok (.aload_n 0, 1) := by decide +kernel
  have d339 : decode method_7_code 339 = .ok (.bipush (8), 2) := by decide +kernel
  have d341 : decode method_7_code 341 = .ok (.iconst 0, 1) := by decide +kernel
  have d342 : decode method_7_code 342 = .ok (.iconst 3, 1) := by decide +kernel
  have d343 : decode method_7_code 343 = .ok (.invokestatic 52, 3) := by decide +kernel
  have d346 : decode method_7_code 346 = .ok (.istore 6, 2) := by decide +kernel
  have d348 : decode method_7_code 348 = .ok (.iconst 0, 1) := by decide +kernel
  have d349 : decode method_7_code 349 = .ok (.istore 7, 2) := by decide +kernel
  intro Wd Hd a9 b9 p9 w9 t9 bo b cZ hWH hW6 hH6 ha9 hb9 hp9 hw9 ht9 Np hNp k
  obtain ⟨w1, w2, w3, w4⟩ := id hWH
  induction k with
  | zero =>
    intro i ps g lx0 v0 c0 M0 f0 H0 locs ls hki hpl hok hG hlx hU hP hD hS hK hl
    refine lv_iload hx hb d193 (lv_at hl 0 rfl) ?_
    refine lv_iload hx hb d195 (lv_at hl 1 rfl) ?_
    refine lv_icmp_ge (tgt := 338) hx hb d197 (by decide) (fun _ => ?_) (fun z => absurd (nI_le (by omega) (by omega)) z)
    refine lv_aload_n hx hb d338 rfl (lv_at hl 6 rfl) ?_
    refine lv_bipush (v := nI 8) hx hb d339 (by decide) ?_
    refine lv_iconst (v := nI 0) hx hb d341 (by decide) ?_
    refine lv_iconst (v := nI 3) hx hb d342 (by decide) ?_
    refine va_calli (va_runS (As := [.ref b0, .int (nI (8)), .int (nI (0)), .int (nI (3))]) (rest := []) ⟨hx, hb, hml, hown, hts⟩ (eb_draw l D L xs b0 (by omega) (8) (0) (3) (by omega) (by omega) (by omega)) (va_cwS 4 hts (eb_gS eb_ok1 (eb_m (ev_gm (p := 13193) (by decide +kernel) rfl)) (eb_m (ev_gm (p := 13194) (by decide +kernel) rfl)) (eb_m (ev_ginit (by decide +kernel) rfl)) (eb_m (ev_gm (p := 13195) (by decide +kernel) rfl))) rfl rfl rfl (by decide +kernel) ⟨Nat.le_of_ble_eq_true rfl, Nat.le_of_ble_eq_true rfl⟩) ⟨fun a U g mk q => ⟨q.1, va_T.moved (u := U) (U := U.calling g mk a) (Vm.Alike.refl U.vm) q.2⟩, fun U hU hW => ⟨rfl, by show va_T _ _ _ _ _ U U.heap; rw [hU]; exact ((hX.2.1.kept hS.2.1).narrow (fun _ z => z.elim)).moved hW.alike⟩⟩ rfl rfl hl.1 rfl (lv_room (Nat.le_of_ble_eq_true rfl)) d343 ⟨by show _ ≤ 400; omega, by show _ ≤ 600000; omega⟩) hS (fun q _ h => h.elim) (fun q h => h.elim) (fun r u t Gy1 locs1 ht hvm hw hB hz1 hk1 hS => ?_)
    obtain ⟨y1, ey1⟩ : ∃ z : Nat, z = u := ⟨u, rfl⟩
    rw [← ey1] at hw
    obtain ⟨y1a, y1b, rfl⟩ := hw
    have hP := eb_keep hP hk1
    refine lv_istore hx hb d346 hl (by decide) rfl (fun ls hl => ?_)
    refine lv_iconst (v := nI 0) hx hb d348 (by decide) ?_
    refine lv_istore hx hb d349 hl (by decide) rfl (fun ls hl => ?_)
    refine W.widen (k := 200 + 10 * 0) (n := 300000 + 15000 * 0) (by omega) (by omega) ?_
    exact eb_lp2 (l := l) (D := D) hL hx hb hml hr hown hts hlocks hA hX hY hA2 Wd Hd a9 b9 p9 w9 t9 bo b cZ hWH hW6 hH6 ha9 hb9 hp9 hw9 ht9 ps hok (by omega) y1 g (by omega) y1 0 [] lx0 v0 c0 M0 f0 _ _ _ (by omega) rfl (fun i hi => absurd hi (Nat.not_lt_zero i)) (by rw [hlx, flF, List.append_nil]) (hU.mono (by omega)) hP hD hS hK (lv_sub hl [0, 1, 3, 7] rfl)
  | succ k ih =>
    intro i ps g lx0 v0 c0 M0 f0 H0 locs ls hki hpl hok hG hlx hU hP hD hS hK hl
    refine lv_iload hx hb d193 (lv_at hl 0 rfl) ?_
    refine lv_iload hx hb d195 (lv_at hl 1 rfl) ?_
    refine lv_icmp_ge (tgt := 338) hx hb d197 (by decide) (fun z => absurd z (nI_ge (by omega) (by omega))) (fun _ => ?_)
    refine lv_aload_n hx hb d200 rfl (lv_at hl 6 rfl) ?_
    refine lv_bipush (v := nI 20) hx hb d201 (by decide) ?_
    refine lv_iconst (v := nI 4) hx hb d203 (by decide) ?_
    refine lv_iload hx hb d204 (lv_at hl 0 rfl) ?_
    refine lv_imul hx hb d206 ?_
    refine lv_topi (fun y ey => ?_); obtain rfl : y = nI ((4) * (i)) := ey.trans (pk_mul (4) (i))
    refine lv_iadd hx hb d207 ?_
    refine lv_topi (fun y ey => ?_); obtain rfl : y = nI ((20) + ((4) * (i))) := ey.trans (nI_add (20) ((4) * (i)))
    refine lv_iconst (v := nI 0) hx hb d208 (by decide) ?_
    refine lv_iload_n hx hb d209 rfl (lv_at hl 5 rfl) ?_
    refine lv_iconst (v := nI 1) hx hb d210 (by decide) ?_
    refine lv_isub hx hb d211 ?_
    refine lv_topi (fun y ey => ?_); obtain rfl : y = nI ((Wd) - (1)) := ey.trans (pk_sub (a := Wd) (b := 1) (by omega))
    refine va_calli (va_runS (As := [.ref b0, .int (nI ((20) + ((4) * (i)))), .int (nI (0)), .int (nI ((Wd) - (1)))]) (rest := []) ⟨hx, hb, hml, hown, hts⟩ (eb_draw l D L xs b0 (by omega) ((20) + ((4) * (i))) (0) ((Wd) - (1)) (by omega) (by omega) (by omega)) (va_cwS 4 hts (eb_gS eb_ok1 (eb_m (ev_gm (p := 13193) (by decide +kernel) rfl)) (eb_m (ev_gm (p := 13194) (by decide +kernel) rfl)) (eb_m (ev_ginit (by decide +kernel) rfl)) (eb_m (ev_gm (p := 13195) (by decide +kernel) rfl))) rfl rfl rfl (by decide +kernel) ⟨Nat.le_of_ble_eq_true rfl, Nat.le_of_ble_eq_true rfl⟩) ⟨fun a U g mk q => ⟨q.1, va_T.moved (u := U) (U := U.calling g mk a) (Vm.Alike.refl U.vm) q.2⟩, fun U hU hW => ⟨rfl, by show va_T _ _ _ _ _ U U.heap; rw [hU]; exact ((hX.2.1.kept hS.2.1).narrow (fun _ z => z.elim)).moved hW.alike⟩⟩ rfl rfl hl.1 rfl (lv_room (Nat.le_of_ble_eq_true rfl)) d212 ⟨by show _ ≤ 400; omega, by show _ ≤ 600000; omega⟩) hS (fun q _ h => h.elim) (fun q h => h.elim) (fun r u t Gy1 locs1 ht hvm hw hB hz1 hk1 hS => ?_)
    obtain ⟨y1, ey1⟩ : ∃ z : Nat, z = u := ⟨u, rfl⟩
    rw [← ey1] at hw
    obtain ⟨y1a, y1b, rfl⟩ := hw
    have hP := eb_keep hP hk1
    refine lv_istore hx hb d215 hl (by decide) rfl (fun ls hl => ?_)
    refine lv_aload_n hx hb d217 rfl (lv_at hl 7 rfl) ?_
    refine lv_bipush (v := nI 21) hx hb d218 (by decide) ?_
    refine lv_iconst (v := nI 4) hx hb d220 (by decide) ?_
    refine lv_iload hx hb d221 (lv_at hl 1 rfl) ?_
    refine lv_imul hx hb d223 ?_
    refine lv_topi (fun y ey => ?_); obtain rfl : y = nI ((4) * (i)) := ey.trans (pk_mul (4) (i))
    refine lv_iadd hx hb d224 ?_
    refine lv_topi (fun y ey => ?_); obtain rfl : y = nI ((21) + ((4) * (i))) := ey.trans (nI_add (21) ((4) * (i)))
    refine lv_iconst (v := nI 0) hx hb d225 (by decide) ?_
    refine lv_iload_n hx hb d226 rfl (lv_at hl 5 rfl) ?_
    refine lv_iconst (v := nI 1) hx hb d227 (by decide) ?_
    refine lv_isub hx hb d228 ?_
    refine lv_topi (fun y ey => ?_); obtain rfl : y = nI ((Hd) - (1)) := ey.trans (pk_sub (a := Hd) (b := 1) (by omega))
    refine va_calli (va_runS (As := [.ref b0, .int (nI ((21) + ((4) * (i)))), .int (nI (0)), .int (nI ((Hd) - (1)))]) (rest := []) ⟨hx, hb, hml, hown, hts⟩ (eb_draw l D L xs b0 (by omega) ((21) + ((4) * (i))) (0) ((Hd) - (1)) (by omega) (by omega) (by omega)) (va_cwS 4 hts (eb_gS eb_ok1 (eb_m (ev_gm (p := 13193) (by decide +kernel) rfl)) (eb_m (ev_gm (p := 13194) (by decide +kernel) rfl)) (eb_m (ev_ginit (by decide +kernel) rfl)) (eb_m (ev_gm (p := 13195) (by decide +kernel) rfl))) rfl rfl rfl (by decide +kernel) ⟨Nat.le_of_ble_eq_true rfl, Nat.le_of_ble_eq_true rfl⟩) ⟨fun a U g mk q => ⟨q.1, va_T.moved (u := U) (U := U.calling g mk a) (Vm.Alike.refl U.vm) q.2⟩, fun U hU hW => ⟨rfl, by show va_T _ _ _ _ _ U U.heap; rw [hU]; exact ((hX.2.1.kept hS.2.1).narrow (fun _ z => z.elim)).moved hW.alike⟩⟩ rfl rfl hl.1 rfl (lv_room (Nat.le_of_ble_eq_true rfl)) d229 ⟨by show _ ≤ 400; omega, by show _ ≤ 600000; omega⟩) hS (fun q _ h => h.elim) (fun q h => h.elim) (fun r u t Gy2 locs1 ht hvm hw hB hz1 hk1 hS => ?_)
    obtain ⟨y2, ey2⟩ : ∃ z : Nat, z = u := ⟨u, rfl⟩
    rw [← ey2] at hw
    obtain ⟨y2a, y2b, rfl⟩ := hw
    have hP := eb_keep hP hk1
    refine lv_istore hx hb d232 hl (by decide) rfl (fun ls hl => ?_)
    refine lv_aload_n hx hb d234 rfl (lv_at hl 5 rfl) ?_
    refine lv_iload_n hx hb d235 rfl (lv_at hl 7 rfl) ?_
    refine lv_iload hx hb d236 (lv_at hl 0 rfl) ?_
    refine lv_imul hx hb d238 ?_
    refine lv_topi (fun y ey => ?_); obtain rfl : y = nI ((Wd) * (y2)) := ey.trans (pk_mul (Wd) (y2))
    refine lv_iload hx hb d239 (lv_at hl 1 rfl) ?_
    refine lv_iadd hx hb d241 ?_
    refine lv_topi (fun y ey => ?_); obtain rfl : y = nI (((Wd) * (y2)) + (y1)) := ey.trans (nI_add ((Wd) * (y2)) (y1))
    have hm : Wd * y2 ≤ 6 * 5 := Nat.mul_le_mul hW6 (by omega)
    have hix : ((Wd) * (y2)) + (y1) < 64 := by omega
    refine va_zald hx hb hK hP 0 0 rfl rfl (vp_in_nI hix (by decide)) d242 ?_
    rw [nI_clamp (show ((Wd) * (y2)) + (y1) < 2 ^ 31 by omega)]
    by_cases hg : g (((Wd) * (y2)) + (y1)) = 0
    · refine lv_if_eq (tgt := 249) hx hb d243 (by decide) (fun _ => ?_) (fun z => absurd hg z)
      refine lv_aload_n hx hb d249 rfl (lv_at hl 5 rfl) ?_
      refine lv_iload_n hx hb d250 rfl (lv_at hl 7 rfl) ?_
      refine lv_iload hx hb d251 (lv_at hl 0 rfl) ?_
      refine lv_imul hx hb d253 ?_
      refine lv_topi (fun y ey => ?_); obtain rfl : y = nI ((Wd) * (y2)) := ey.trans (pk_mul (Wd) (y2))
      refine lv_iload hx hb d254 (lv_at hl 1 rfl) ?_
      refine lv_iadd hx hb d256 ?_
      refine lv_topi (fun y ey => ?_); obtain rfl : y = nI (((Wd) * (y2)) + (y1)) := ey.trans (nI_add ((Wd) * (y2)) (y1))
      refine lv_iconst (v := nI 1) hx hb d257 (by decide) ?_
      refine va_zast hx hb hK hP hD hS 0 0 rfl rfl (vp_in_nI hix (by decide)) d258 (fun HZ locsZ hP hD hS => ?_)
      rw [eb_zp (show ((Wd) * (y2)) + (y1) < 2 ^ 31 by omega)] at hP hD
      have hP : va_P D eb_cl (eb_V bo cZ (upd g (((Wd) * (y2)) + (y1)) 1) b v0 c0 M0 f0 lx0) HZ := hP
      have hD : va_D A (eb_V bo cZ (upd g (((Wd) * (y2)) + (y1)) 1) b v0 c0 M0 f0 lx0) := hD
      refine lv_aload hx hb d259 (lv_at hl 4 rfl) ?_
      refine lv_aload_n hx hb d261 rfl (lv_at hl 8 rfl) ?_
      refine lv_bipush (v := nI 22) hx hb d262 (by decide) ?_
      refine lv_iconst (v := nI 4) hx hb d264 (by decide) ?_
      refine lv_iload hx hb d265 (lv_at hl 2 rfl) ?_
      refine lv_imul hx hb d267 ?_
      refine lv_topi (fun y ey => ?_); obtain rfl : y = nI ((4) * (i)) := ey.trans (pk_mul (4) (i))
      refine lv_iadd hx hb d268 ?_
      refine lv_topi (fun y ey => ?_); obtain rfl : y = nI ((22) + ((4) * (i))) := ey.trans (nI_add (22) ((4) * (i)))
      refine lv_iconst (v := nI 0) hx hb d269 (by decide) ?_
      refine lv_iconst (v := nI 1) hx hb d270 (by decide) ?_
      refine va_calli (va_runS (As := [.ref b0, .int (nI ((22) + ((4) * (i)))), .int (nI (0)), .int (nI (1))]) (rest := [.ref b]) ⟨hx, hb, hml, hown, hts⟩ (eb_draw l D L xs b0 (by omega) ((22) + ((4) * (i))) (0) (1) (by omega) (by omega) (by omega)) (va_cwS 4 hts (eb_gS eb_ok1 (eb_m (ev_gm (p := 13193) (by decide +kernel) rfl)) (eb_m (ev_gm (p := 13194) (by decide +kernel) rfl)) (eb_m (ev_ginit (by decide +kernel) rfl)) (eb_m (ev_gm (p := 13195) (by decide +kernel) rfl))) rfl rfl rfl (by decide +kernel) ⟨Nat.le_of_ble_eq_true rfl, Nat.le_of_ble_eq_true rfl⟩) ⟨fun a U g mk q => ⟨q.1, va_T.moved (u := U) (U := U.calling g mk a) (Vm.Alike.refl U.vm) q.2⟩, fun U hU hW => ⟨rfl, by show va_T _ _ _ _ _ U U.heap; rw [hU]; exact ((hX.2.1.kept hS.2.1).narrow (fun _ z => z.elim)).moved hW.alike⟩⟩ rfl rfl hl.1 rfl (lv_room (Nat.le_of_ble_eq_true rfl)) d271 ⟨by show _ ≤ 400; omega, by show _ ≤ 600000; omega⟩) hS (fun q _ h => h.elim) (fun q h => h.elim) (fun r u t Gy3 locs1 ht hvm hw hB hz1 hk1 hS => ?_)
      obtain ⟨y3, ey3⟩ : ∃ z : Nat, z = u := ⟨u, rfl⟩
      rw [← ey3] at hw
      obtain ⟨y3a, y3b, rfl⟩ := hw
      have hP := eb_keep hP hk1
      obtain ⟨gc1, gc2, gc3⟩ := hG _ hix hg
      rcases (show y3 = 0 ∨ y3 = 1 by omega) with rfl | rfl
      · refine lv_if_ne (tgt := 282) hx hb d274 (by decide) (fun z => absurd rfl z) (fun _ => ?_)
        refine va_ldcS hx hb hown (hY.1 11 (by decide)) d277 ?_
        refine lv_goto (tgt := 284) hx hb d279 (by decide) ?_
        have hPc := hP.sub (ws' := (eb_W b v0 c0 M0 f0 0 lx0.length)) [1, 2] rfl
        have hDc := hD.sub (ws' := (eb_W b v0 c0 M0 f0 0 lx0.length)) [1, 2] (by decide) rfl
        have hKc := hK.sub (tys' := [(c0, .byte)]) [1] rfl
        have hFc := va_free (wc := (eb_W b v0 c0 M0 f0 0 lx0.length)) hD hS hA [1, 2] rfl
        refine va_callr (va_runV (As := [.ref (av 11)]) (rest := []) ⟨hx, hb, hml, hown, hts⟩ (eb_sappS l D Gy3.size b v0 c0 M0 f0 0 lx0.length (eb_ll 11).length (eb_fx (eb_ll 11)) (av 11) (aw 11) hU.2.1 hU.2.2.1 (by have := hU.1; show _ + 6 ≤ 300; omega)) (cwV 1 hts (eb_gV eb_ok1 (eb_m (ev_gm (p := 15074) (by decide +kernel) rfl)) (eb_m (ev_gm (p := 14168) (by decide +kernel) rfl)) (eb_m (ev_gm (p := 14169) (by decide +kernel) rfl)) (eb_m (ev_ginit (by decide +kernel) rfl)) (eb_m (ev_gm (p := 14170) (by decide +kernel) rfl))) rfl rfl rfl (by decide +kernel) ⟨Nat.le_of_ble_eq_true rfl, Nat.le_of_ble_eq_true rfl⟩) ⟨fun a U g mk q => by obtain ⟨q0, q1, qP, qK, qD, qF⟩ := q; exact ⟨q0, q1, qP, va_K.moved (u := U) (U := U.calling g mk a) (Vm.Alike.refl U.vm) qK, qD, eb_T.moved (u := U) (U := U.calling g mk a) (Vm.Alike.refl U.vm) qF.1, qF.2⟩, va_recv hK hP (ci := 0) (q0 := 1) rfl rfl, fun U hU9 hW => ⟨rfl, by rw [hU9], by rw [hU9]; exact hPc, va_K.moved hW.alike hKc, hDc.weaken (fun _ _ _ _ => trivial), by show eb_T _ _ _ _ _ U U.heap; rw [hU9]; exact (((hX.1 11 (by omega)).kept hS.2.1).narrow hFc).moved hW.alike, eb_fx_ft 11 (by omega), hU.2.2.2.1⟩⟩ rfl rfl hl.1 rfl (lv_room (Nat.le_of_ble_eq_true rfl)) d284 ⟨by show _ ≤ 400; omega, by show _ ≤ 600000; omega⟩) hS (fun q _ h => hFc q h) hFc (fun u ra t H1 locs1 ht hvm hw hB hz1 hk1 hS => ?_)
        obtain ⟨v1, c1, M1, f1⟩ := u
        obtain ⟨hq, hP1, hK1, hD1⟩ := hB
        dsimp only at hP1 hK1 hD1
        rw [ht] at hP1
        have hK1 := va_K.moved hvm.symm hK1
        have hU := hU.ap (l2 := (eb_ll 11)) 6 hw rfl (fun _ _ => rfl) (by decide)
        have e9 : lx0.length + (eb_ll 11).length = (lx0 ++ (eb_ll 11)).length := by rw [List.length_append]
        rw [e9] at hP1 hD1
        obtain ⟨hP, hD⟩ := va_join (wr := [(bo, .inl (cZ, 64, .inl (upd g (((Wd) * (y2)) + (y1)) 1)))]) (w1 := (eb_W b v1 c1 M1 f1 0 (lx0 ++ (eb_ll 11)).length)) hP hD [1, 2] [0] rfl rfl (by decide) (by decide) hk1 hFc hP1 hD1
        have hK := (hK.sub (tys' := [(cZ, .boolean)]) [0] rfl).app hK1
        obtain ⟨lx1, el1⟩ : ∃ z, z = lx0 ++ (eb_ll 11) := ⟨_, rfl⟩
        rw [← el1] at hP hD hU
        have hP : va_P D eb_cl (eb_V bo cZ (upd g (((Wd) * (y2)) + (y1)) 1) b v1 c1 M1 f1 lx1) H1 := hP
        have hD : va_D A (eb_V bo cZ (upd g (((Wd) * (y2)) + (y1)) 1) b v1 c1 M1 f1 lx1) := hD
        have hK : va_K D eb_cl [(cZ, .boolean), (c1, .byte)] s := hK
        have hU : eb_U lx1 (90 + 21 * i + 6) M1 f1 := hU
        rw [hq]
        refine lv_aload_n hx hb d287 rfl (lv_at hl 8 rfl) ?_
        refine lv_bipush (v := nI 23) hx hb d288 (by decide) ?_
        refine lv_iconst (v := nI 4) hx hb d290 (by decide) ?_
        refine lv_iload hx hb d291 (lv_at hl 2 rfl) ?_
        refine lv_imul hx hb d293 ?_
        refine lv_topi (fun y ey => ?_); obtain rfl : y = nI ((4) * (i)) := ey.trans (pk_mul (4) (i))
        refine lv_iadd hx hb d294 ?_
        refine lv_topi (fun y ey => ?_); obtain rfl : y = nI ((23) + ((4) * (i))) := ey.trans (nI_add (23) ((4) * (i)))
        refine lv_iconst (v := nI 0) hx hb d295 (by decide) ?_
        refine lv_iconst (v := nI 4) hx hb d296 (by decide) ?_
        refine va_calli (va_runS (As := [.ref b0, .int (nI ((23) + ((4) * (i)))), .int (nI (0)), .int (nI (4))]) (rest := [.ref b]) ⟨hx, hb, hml, hown, hts⟩ (eb_draw l D L xs b0 (by omega) ((23) + ((4) * (i))) (0) (4) (by omega) (by omega) (by omega)) (va_cwS 4 hts (eb_gS eb_ok1 (eb_m (ev_gm (p := 13193) (by decide +kernel) rfl)) (eb_m (ev_gm (p := 13194) (by decide +kernel) rfl)) (eb_m (ev_ginit (by decide +kernel) rfl)) (eb_m (ev_gm (p := 13195) (by decide +kernel) rfl))) rfl rfl rfl (by decide +kernel) ⟨Nat.le_of_ble_eq_true rfl, Nat.le_of_ble_eq_true rfl⟩) ⟨fun a U g mk q => ⟨q.1, va_T.moved (u := U) (U := U.calling g mk a) (Vm.Alike.refl U.vm) q.2⟩, fun U hU hW => ⟨rfl, by show va_T _ _ _ _ _ U U.heap; rw [hU]; exact ((hX.2.1.kept hS.2.1).narrow (fun _ z => z.elim)).moved hW.alike⟩⟩ rfl rfl hl.1 rfl (lv_room (Nat.le_of_ble_eq_true rfl)) d297 ⟨by show _ ≤ 400; omega, by show _ ≤ 600000; omega⟩) hS (fun q _ h => h.elim) (fun q h => h.elim) (fun r u t Gy4 locs1 ht hvm hw hB hz1 hk1 hS => ?_)
        obtain ⟨y4, ey4⟩ : ∃ z : Nat, z = u := ⟨u, rfl⟩
        rw [← ey4] at hw
        obtain ⟨y4a, y4b, rfl⟩ := hw
        have hP := eb_keep hP hk1
        refine va_callr (va_runS (As := [.int (nI (y4))]) (rest := [.ref b]) ⟨hx, hb, hml, hown, hts⟩ (eb_kind l D av (y4) (by omega)) (va_cwS 1 hts (eb_gS eb_ok1 (eb_m (ev_gm (p := 15081) (by decide +kernel) rfl)) (eb_m (ev_gm (p := 15082) (by decide +kernel) rfl)) (eb_m (ev_ginit (by decide +kernel) rfl)) (eb_m (ev_gm (p := 15083) (by decide +kernel) rfl))) rfl rfl rfl (by decide +kernel) ⟨Nat.le_of_ble_eq_true rfl, Nat.le_of_ble_eq_true rfl⟩) ⟨fun a U g mk q => ⟨q.1, eb_Y.same rfl q.2⟩, fun U hU9 hW => ⟨rfl, eb_Y.warm hW hY⟩⟩ rfl rfl hl.1 rfl (lv_room (Nat.le_of_ble_eq_true rfl)) d300 ⟨by show _ ≤ 400; omega, by show _ ≤ 600000; omega⟩) hS (fun q _ h => h.elim) (fun q h => h.elim) (fun u ra t HK locs1 ht hvm hw hB hz1 hk1 hS => ?_)
        have hB : ra = av (y4) := hB
        rw [hB]
        have hP := eb_keep hP hk1
        have hPc := hP.sub (ws' := (eb_W b v1 c1 M1 f1 0 lx1.length)) [1, 2] rfl
        have hDc := hD.sub (ws' := (eb_W b v1 c1 M1 f1 0 lx1.length)) [1, 2] (by decide) rfl
        have hKc := hK.sub (tys' := [(c1, .byte)]) [1] rfl
        have hFc := va_free (wc := (eb_W b v1 c1 M1 f1 0 lx1.length)) hD hS hA [1, 2] rfl
        refine va_callr (va_runV (As := [.ref (av y4)]) (rest := []) ⟨hx, hb, hml, hown, hts⟩ (eb_sappS l D HK.size b v1 c1 M1 f1 0 lx1.length (eb_ll y4).length (eb_fx (eb_ll y4)) (av y4) (aw y4) hU.2.1 hU.2.2.1 (by have := hU.1; have := eb_l6 y4 (by omega) (by omega); omega)) (cwV 1 hts (eb_gV eb_ok1 (eb_m (ev_gm (p := 15074) (by decide +kernel) rfl)) (eb_m (ev_gm (p := 14168) (by decide +kernel) rfl)) (eb_m (ev_gm (p := 14169) (by decide +kernel) rfl)) (eb_m (ev_ginit (by decide +kernel) rfl)) (eb_m (ev_gm (p := 14170) (by decide +kernel) rfl))) rfl rfl rfl (by decide +kernel) ⟨Nat.le_of_ble_eq_true rfl, Nat.le_of_ble_eq_true rfl⟩) ⟨fun a U g mk q => by obtain ⟨q0, q1, qP, qK, qD, qF⟩ := q; exact ⟨q0, q1, qP, va_K.moved (u := U) (U := U.calling g mk a) (Vm.Alike.refl U.vm) qK, qD, eb_T.moved (u := U) (U := U.calling g mk a) (Vm.Alike.refl U.vm) qF.1, qF.2⟩, va_recv hK hP (ci := 0) (q0 := 1) rfl rfl, fun U hU9 hW => ⟨rfl, by rw [hU9], by rw [hU9]; exact hPc, va_K.moved hW.alike hKc, hDc.weaken (fun _ _ _ _ => trivial), by show eb_T _ _ _ _ _ U U.heap; rw [hU9]; exact (((hX.1 y4 (by omega)).kept hS.2.1).narrow hFc).moved hW.alike, eb_fx_ft y4 (by omega), hU.2.2.2.1⟩⟩ rfl rfl hl.1 rfl (lv_room (Nat.le_of_ble_eq_true rfl)) d303 ⟨by show _ ≤ 400; omega, by show _ ≤ 600000; omega⟩) hS (fun q _ h => hFc q h) hFc (fun u ra t H2 locs1 ht hvm hw hB hz1 hk1 hS => ?_)
        obtain ⟨v2, c2, M2, f2⟩ := u
        obtain ⟨hq, hP1, hK1, hD1⟩ := hB
        dsimp only at hP1 hK1 hD1
        rw [ht] at hP1
        have hK1 := va_K.moved hvm.symm hK1
        have hU := hU.ap (l2 := (eb_ll y4)) 6 hw rfl (fun _ _ => rfl) (eb_l6 y4 (by omega) (by omega))
        have e9 : lx1.length + (eb_ll y4).length = (lx1 ++ (eb_ll y4)).length := by rw [List.length_append]
        rw [e9] at hP1 hD1
        obtain ⟨hP, hD⟩ := va_join (wr := [(bo, .inl (cZ, 64, .inl (upd g (((Wd) * (y2)) + (y1)) 1)))]) (w1 := (eb_W b v2 c2 M2 f2 0 (lx1 ++ (eb_ll y4)).length)) hP hD [1, 2] [0] rfl rfl (by decide) (by decide) hk1 hFc hP1 hD1
        have hK := (hK.sub (tys' := [(cZ, .boolean)]) [0] rfl).app hK1
        obtain ⟨lx2, el2⟩ : ∃ z, z = lx1 ++ (eb_ll y4) := ⟨_, rfl⟩
        rw [← el2] at hP hD hU
        have hP : va_P D eb_cl (eb_V bo cZ (upd g (((Wd) * (y2)) + (y1)) 1) b v2 c2 M2 f2 lx2) H2 := hP
        have hD : va_D A (eb_V bo cZ (upd g (((Wd) * (y2)) + (y1)) 1) b v2 c2 M2 f2 lx2) := hD
        have hK : va_K D eb_cl [(cZ, .boolean), (c2, .byte)] s := hK
        have hU : eb_U lx2 (90 + 21 * i + 12) M2 f2 := hU
        rw [hq]
        refine lv_bipush (v := nI 32) hx hb d306 (by decide) ?_
        have hPc := hP.sub (ws' := (eb_W b v2 c2 M2 f2 0 lx2.length)) [1, 2] rfl
        have hDc := hD.sub (ws' := (eb_W b v2 c2 M2 f2 0 lx2.length)) [1, 2] (by decide) rfl
        have hKc := hK.sub (tys' := [(c2, .byte)]) [1] rfl
        have hFc := va_free (wc := (eb_W b v2 c2 M2 f2 0 lx2.length)) hD hS hA [1, 2] rfl
        refine va_callr (va_runV (As := [.int (nI (32))]) (rest := []) ⟨hx, hb, hml, hown, hts⟩ (eb_sappC l D H2.size b v2 c2 M2 f2 0 lx2.length 32 (by decide) hU.2.1 hU.2.2.1 (by have := hU.1; omega)) (cwV 1 hts (eb_gV eb_ok1 (eb_m (ev_gm (p := 15060) (by decide +kernel) rfl)) (eb_m (ev_gm (p := 15061) (by decide +kernel) rfl)) (eb_m (ev_gm (p := 15062) (by decide +kernel) rfl)) (eb_m (ev_ginit (by decide +kernel) rfl)) (eb_m (ev_gm (p := 15063) (by decide +kernel) rfl))) rfl rfl rfl (by decide +kernel) ⟨Nat.le_of_ble_eq_true rfl, Nat.le_of_ble_eq_true rfl⟩) ⟨fun a U g mk q => by obtain ⟨q0, q1, qP, qK, qD, qF⟩ := q; exact ⟨q0, q1, qP, va_K.moved (u := U) (U := U.calling g mk a) (Vm.Alike.refl U.vm) qK, qD, va_Z.moved (u := U) (U := U.calling g mk a) (Vm.Alike.refl U.vm) qF.1, qF.2⟩, va_recv hK hP (ci := 0) (q0 := 1) rfl rfl, fun U hU9 hW => ⟨rfl, by rw [hU9], by rw [hU9]; exact hPc, va_K.moved hW.alike hKc, hDc.weaken (fun _ _ _ _ => trivial), by show va_Z _ _ _ _ _ U U.heap; rw [hU9]; exact ((hX.2.2.2.kept hS.2.1).narrow hFc).moved hW.alike, hU.2.2.2.1⟩⟩ rfl rfl hl.1 rfl (lv_room (Nat.le_of_ble_eq_true rfl)) d308 ⟨by show _ ≤ 400; omega, by show _ ≤ 600000; omega⟩) hS (fun q _ h => hFc q h) hFc (fun u ra t H3 locs1 ht hvm hw hB hz1 hk1 hS => ?_)
        obtain ⟨v3, c3, M3, f3⟩ := u
        obtain ⟨hq, hP1, hK1, hD1⟩ := hB
        dsimp only at hP1 hK1 hD1
        rw [ht] at hP1
        have hK1 := va_K.moved hvm.symm hK1
        have hU := hU.ap (l2 := [32]) 1 hw rfl (eb_f1 _) (by decide)
        have e9 : lx2.length + 1 = (lx2 ++ [32]).length := by rw [List.length_append]; rfl
        rw [e9] at hP1 hD1
        obtain ⟨hP, hD⟩ := va_join (wr := [(bo, .inl (cZ, 64, .inl (upd g (((Wd) * (y2)) + (y1)) 1)))]) (w1 := (eb_W b v3 c3 M3 f3 0 (lx2 ++ [32]).length)) hP hD [1, 2] [0] rfl rfl (by decide) (by decide) hk1 hFc hP1 hD1
        have hK := (hK.sub (tys' := [(cZ, .boolean)]) [0] rfl).app hK1
        obtain ⟨lx3, el3⟩ : ∃ z, z = lx2 ++ [32] := ⟨_, rfl⟩
        rw [← el3] at hP hD hU
        have hP : va_P D eb_cl (eb_V bo cZ (upd g (((Wd) * (y2)) + (y1)) 1) b v3 c3 M3 f3 lx3) H3 := hP
        have hD : va_D A (eb_V bo cZ (upd g (((Wd) * (y2)) + (y1)) 1) b v3 c3 M3 f3 lx3) := hD
        have hK : va_K D eb_cl [(cZ, .boolean), (c3, .byte)] s := hK
        have hU : eb_U lx3 (90 + 21 * i + 13) M3 f3 := hU
        rw [hq]
        refine lv_iload hx hb d311 (lv_at hl 1 rfl) ?_
        have hPc := hP.sub (ws' := (eb_W b v3 c3 M3 f3 0 lx3.length)) [1, 2] rfl
        have hDc := hD.sub (ws' := (eb_W b v3 c3 M3 f3 0 lx3.length)) [1, 2] (by decide) rfl
        have hKc := hK.sub (tys' := [(c3, .byte)]) [1] rfl
        have hFc := va_free (wc := (eb_W b v3 c3 M3 f3 0 lx3.length)) hD hS hA [1, 2] rfl
        refine va_callr (va_runV (As := [.int (nI (y1))]) (rest := []) ⟨hx, hb, hml, hown, hts⟩ (eb_sappI l D H3.size b v3 c3 M3 f3 0 lx3.length (y1) (by omega) hU.2.1 hU.2.2.1 (by have := hU.1; have := eb_sz3 (y1); omega)) (cwV 1 hts (eb_gV eb_ok1 (eb_m (ev_gm (p := 15035) (by decide +kernel) rfl)) (eb_m (ev_gm (p := 15036) (by decide +kernel) rfl)) (eb_m (ev_gm (p := 15037) (by decide +kernel) rfl)) (eb_m (ev_ginit (by decide +kernel) rfl)) (eb_m (ev_gm (p := 15038) (by decide +kernel) rfl))) rfl rfl rfl (by decide +kernel) ⟨Nat.le_of_ble_eq_true rfl, Nat.le_of_ble_eq_true rfl⟩) ⟨fun a U g mk q => by obtain ⟨q0, q1, qP, qK, qD, qF⟩ := q; exact ⟨q0, q1, qP, va_K.moved (u := U) (U := U.calling g mk a) (Vm.Alike.refl U.vm) qK, qD, eb_I.moved (u := U) (U := U.calling g mk a) (Vm.Alike.refl U.vm) qF.1, va_Z.moved (u := U) (U := U.calling g mk a) (Vm.Alike.refl U.vm) qF.2.1, qF.2.2⟩, va_recv hK hP (ci := 0) (q0 := 1) rfl rfl, fun U hU9 hW => ⟨rfl, by rw [hU9], by rw [hU9]; exact hPc, va_K.moved hW.alike hKc, hDc.weaken (fun _ _ _ _ => trivial), by show eb_I _ U U.heap; rw [hU9]; exact ((hX.2.2.1.kept hS.2.1).narrow hFc).moved hW.alike, by show va_Z _ _ _ _ _ U U.heap; rw [hU9]; exact ((hX.2.2.2.kept hS.2.1).narrow hFc).moved hW.alike, hU.2.2.2.1⟩⟩ rfl rfl hl.1 rfl (lv_room (Nat.le_of_ble_eq_true rfl)) d313 ⟨by show _ ≤ 400; omega, by show _ ≤ 600000; omega⟩) hS (fun q _ h => hFc q h) hFc (fun u ra t H4 locs1 ht hvm hw hB hz1 hk1 hS => ?_)
        obtain ⟨v4, c4, M4, f4⟩ := u
        obtain ⟨hq, hP1, hK1, hD1⟩ := hB
        dsimp only at hP1 hK1 hD1
        rw [ht] at hP1
        have hK1 := va_K.moved hvm.symm hK1
        have hU := hU.ap (l2 := (dg (y1))) 3 hw (eb_dl (by omega)) (fun _ _ => rfl) (eb_sz3 _)
        have e9 : lx3.length + (eb_sz (y1)) = (lx3 ++ (dg (y1))).length := by rw [List.length_append, eb_dl (by omega)]
        rw [e9] at hP1 hD1
        obtain ⟨hP, hD⟩ := va_join (wr := [(bo, .inl (cZ, 64, .inl (upd g (((Wd) * (y2)) + (y1)) 1)))]) (w1 := (eb_W b v4 c4 M4 f4 0 (lx3 ++ (dg (y1))).length)) hP hD [1, 2] [0] rfl rfl (by decide) (by decide) hk1 hFc hP1 hD1
        have hK := (hK.sub (tys' := [(cZ, .boolean)]) [0] rfl).app hK1
        obtain ⟨lx4, el4⟩ : ∃ z, z = lx3 ++ (dg (y1)) := ⟨_, rfl⟩
        rw [← el4] at hP hD hU
        have hP : va_P D eb_cl (eb_V bo cZ (upd g (((Wd) * (y2)) + (y1)) 1) b v4 c4 M4 f4 lx4) H4 := hP
        have hD : va_D A (eb_V bo cZ (upd g (((Wd) * (y2)) + (y1)) 1) b v4 c4 M4 f4 lx4) := hD
        have hK : va_K D eb_cl [(cZ, .boolean), (c4, .byte)] s := hK
        have hU : eb_U lx4 (90 + 21 * i + 16) M4 f4 := hU
        rw [hq]
        refine lv_bipush (v := nI 32) hx hb d316 (by decide) ?_
        have hPc := hP.sub (ws' := (eb_W b v4 c4 M4 f4 0 lx4.length)) [1, 2] rfl
        have hDc := hD.sub (ws' := (eb_W b v4 c4 M4 f4 0 lx4.length)) [1, 2] (by decide) rfl
        have hKc := hK.sub (tys' := [(c4, .byte)]) [1] rfl
        have hFc := va_free (wc := (eb_W b v4 c4 M4 f4 0 lx4.length)) hD hS hA [1, 2] rfl
        refine va_callr (va_runV (As := [.int (nI (32))]) (rest := []) ⟨hx, hb, hml, hown, hts⟩ (eb_sappC l D H4.size b v4 c4 M4 f4 0 lx4.length 32 (by decide) hU.2.1 hU.2.2.1 (by have := hU.1; omega)) (cwV 1 hts (eb_gV eb_ok1 (eb_m (ev_gm (p := 15060) (by decide +kernel) rfl)) (eb_m (ev_gm (p := 15061) (by decide +kernel) rfl)) (eb_m (ev_gm (p := 15062) (by decide +kernel) rfl)) (eb_m (ev_ginit (by decide +kernel) rfl)) (eb_m (ev_gm (p := 15063) (by decide +kernel) rfl))) rfl rfl rfl (by decide +kernel) ⟨Nat.le_of_ble_eq_true rfl, Nat.le_of_ble_eq_true rfl⟩) ⟨fun a U g mk q => by obtain ⟨q0, q1, qP, qK, qD, qF⟩ := q; exact ⟨q0, q1, qP, va_K.moved (u := U) (U := U.calling g mk a) (Vm.Alike.refl U.vm) qK, qD, va_Z.moved (u := U) (U := U.calling g mk a) (Vm.Alike.refl U.vm) qF.1, qF.2⟩, va_recv hK hP (ci := 0) (q0 := 1) rfl rfl, fun U hU9 hW => ⟨rfl, by rw [hU9], by rw [hU9]; exact hPc, va_K.moved hW.alike hKc, hDc.weaken (fun _ _ _ _ => trivial), by show va_Z _ _ _ _ _ U U.heap; rw [hU9]; exact ((hX.2.2.2.kept hS.2.1).narrow hFc).moved hW.alike, hU.2.2.2.1⟩⟩ rfl rfl hl.1 rfl (lv_room (Nat.le_of_ble_eq_true rfl)) d318 ⟨by show _ ≤ 400; omega, by show _ ≤ 600000; omega⟩) hS (fun q _ h => hFc q h) hFc (fun u ra t H5 locs1 ht hvm hw hB hz1 hk1 hS => ?_)
        obtain ⟨v5, c5, M5, f5⟩ := u
        obtain ⟨hq, hP1, hK1, hD1⟩ := hB
        dsimp only at hP1 hK1 hD1
        rw [ht] at hP1
        have hK1 := va_K.moved hvm.symm hK1
        have hU := hU.ap (l2 := [32]) 1 hw rfl (eb_f1 _) (by decide)
        have e9 : lx4.length + 1 = (lx4 ++ [32]).length := by rw [List.length_append]; rfl
        rw [e9] at hP1 hD1
        obtain ⟨hP, hD⟩ := va_join (wr := [(bo, .inl (cZ, 64, .inl (upd g (((Wd) * (y2)) + (y1)) 1)))]) (w1 := (eb_W b v5 c5 M5 f5 0 (lx4 ++ [32]).length)) hP hD [1, 2] [0] rfl rfl (by decide) (by decide) hk1 hFc hP1 hD1
        have hK := (hK.sub (tys' := [(cZ, .boolean)]) [0] rfl).app hK1
        obtain ⟨lx5, el5⟩ : ∃ z, z = lx4 ++ [32] := ⟨_, rfl⟩
        rw [← el5] at hP hD hU
        have hP : va_P D eb_cl (eb_V bo cZ (upd g (((Wd) * (y2)) + (y1)) 1) b v5 c5 M5 f5 lx5) H5 := hP
        have hD : va_D A (eb_V bo cZ (upd g (((Wd) * (y2)) + (y1)) 1) b v5 c5 M5 f5 lx5) := hD
        have hK : va_K D eb_cl [(cZ, .boolean), (c5, .byte)] s := hK
        have hU : eb_U lx5 (90 + 21 * i + 17) M5 f5 := hU
        rw [hq]
        refine lv_iload hx hb d321 (lv_at hl 0 rfl) ?_
        have hPc := hP.sub (ws' := (eb_W b v5 c5 M5 f5 0 lx5.length)) [1, 2] rfl
        have hDc := hD.sub (ws' := (eb_W b v5 c5 M5 f5 0 lx5.length)) [1, 2] (by decide) rfl
        have hKc := hK.sub (tys' := [(c5, .byte)]) [1] rfl
        have hFc := va_free (wc := (eb_W b v5 c5 M5 f5 0 lx5.length)) hD hS hA [1, 2] rfl
        refine va_callr (va_runV (As := [.int (nI (y2))]) (rest := []) ⟨hx, hb, hml, hown, hts⟩ (eb_sappI l D H5.size b v5 c5 M5 f5 0 lx5.length (y2) (by omega) hU.2.1 hU.2.2.1 (by have := hU.1; have := eb_sz3 (y2); omega)) (cwV 1 hts (eb_gV eb_ok1 (eb_m (ev_gm (p := 15035) (by decide +kernel) rfl)) (eb_m (ev_gm (p := 15036) (by decide +kernel) rfl)) (eb_m (ev_gm (p := 15037) (by decide +kernel) rfl)) (eb_m (ev_ginit (by decide +kernel) rfl)) (eb_m (ev_gm (p := 15038) (by decide +kernel) rfl))) rfl rfl rfl (by decide +kernel) ⟨Nat.le_of_ble_eq_true rfl, Nat.le_of_ble_eq_true rfl⟩) ⟨fun a U g mk q => by obtain ⟨q0, q1, qP, qK, qD, qF⟩ := q; exact ⟨q0, q1, qP, va_K.moved (u := U) (U := U.calling g mk a) (Vm.Alike.refl U.vm) qK, qD, eb_I.moved (u := U) (U := U.calling g mk a) (Vm.Alike.refl U.vm) qF.1, va_Z.moved (u := U) (U := U.calling g mk a) (Vm.Alike.refl U.vm) qF.2.1, qF.2.2⟩, va_recv hK hP (ci := 0) (q0 := 1) rfl rfl, fun U hU9 hW => ⟨rfl, by rw [hU9], by rw [hU9]; exact hPc, va_K.moved hW.alike hKc, hDc.weaken (fun _ _ _ _ => trivial), by show eb_I _ U U.heap; rw [hU9]; exact ((hX.2.2.1.kept hS.2.1).narrow hFc).moved hW.alike, by show va_Z _ _ _ _ _ U U.heap; rw [hU9]; exact ((hX.2.2.2.kept hS.2.1).narrow hFc).moved hW.alike, hU.2.2.2.1⟩⟩ rfl rfl hl.1 rfl (lv_room (Nat.le_of_ble_eq_true rfl)) d323 ⟨by show _ ≤ 400; omega, by show _ ≤ 600000; omega⟩) hS (fun q _ h => hFc q h) hFc (fun u ra t H6 locs1 ht hvm hw hB hz1 hk1 hS => ?_)
        obtain ⟨v6, c6, M6, f6⟩ := u
        obtain ⟨hq, hP1, hK1, hD1⟩ := hB
        dsimp only at hP1 hK1 hD1
        rw [ht] at hP1
        have hK1 := va_K.moved hvm.symm hK1
        have hU := hU.ap (l2 := (dg (y2))) 3 hw (eb_dl (by omega)) (fun _ _ => rfl) (eb_sz3 _)
        have e9 : lx5.length + (eb_sz (y2)) = (lx5 ++ (dg (y2))).length := by rw [List.length_append, eb_dl (by omega)]
        rw [e9] at hP1 hD1
        obtain ⟨hP, hD⟩ := va_join (wr := [(bo, .inl (cZ, 64, .inl (upd g (((Wd) * (y2)) + (y1)) 1)))]) (w1 := (eb_W b v6 c6 M6 f6 0 (lx5 ++ (dg (y2))).length)) hP hD [1, 2] [0] rfl rfl (by decide) (by decide) hk1 hFc hP1 hD1
        have hK := (hK.sub (tys' := [(cZ, .boolean)]) [0] rfl).app hK1
        obtain ⟨lx6, el6⟩ : ∃ z, z = lx5 ++ (dg (y2)) := ⟨_, rfl⟩
        rw [← el6] at hP hD hU
        have hP : va_P D eb_cl (eb_V bo cZ (upd g (((Wd) * (y2)) + (y1)) 1) b v6 c6 M6 f6 lx6) H6 := hP
        have hD : va_D A (eb_V bo cZ (upd g (((Wd) * (y2)) + (y1)) 1) b v6 c6 M6 f6 lx6) := hD
        have hK : va_K D eb_cl [(cZ, .boolean), (c6, .byte)] s := hK
        have hU : eb_U lx6 (90 + 21 * i + 20) M6 f6 := hU
        rw [hq]
        refine lv_bipush (v := nI 59) hx hb d326 (by decide) ?_
        have hPc := hP.sub (ws' := (eb_W b v6 c6 M6 f6 0 lx6.length)) [1, 2] rfl
        have hDc := hD.sub (ws' := (eb_W b v6 c6 M6 f6 0 lx6.length)) [1, 2] (by decide) rfl
        have hKc := hK.sub (tys' := [(c6, .byte)]) [1] rfl
        have hFc := va_free (wc := (eb_W b v6 c6 M6 f6 0 lx6.length)) hD hS hA [1, 2] rfl
        refine va_callr (va_runV (As := [.int (nI (59))]) (rest := []) ⟨hx, hb, hml, hown, hts⟩ (eb_sappC l D H6.size b v6 c6 M6 f6 0 lx6.length 59 (by decide) hU.2.1 hU.2.2.1 (by have := hU.1; omega)) (cwV 1 hts (eb_gV eb_ok1 (eb_m (ev_gm (p := 15060) (by decide +kernel) rfl)) (eb_m (ev_gm (p := 15061) (by decide +kernel) rfl)) (eb_m (ev_gm (p := 15062) (by decide +kernel) rfl)) (eb_m (ev_ginit (by decide +kernel) rfl)) (eb_m (ev_gm (p := 15063) (by decide +kernel) rfl))) rfl rfl rfl (by decide +kernel) ⟨Nat.le_of_ble_eq_true rfl, Nat.le_of_ble_eq_true rfl⟩) ⟨fun a U g mk q => by obtain ⟨q0, q1, qP, qK, qD, qF⟩ := q; exact ⟨q0, q1, qP, va_K.moved (u := U) (U := U.calling g mk a) (Vm.Alike.refl U.vm) qK, qD, va_Z.moved (u := U) (U := U.calling g mk a) (Vm.Alike.refl U.vm) qF.1, qF.2⟩, va_recv hK hP (ci := 0) (q0 := 1) rfl rfl, fun U hU9 hW => ⟨rfl, by rw [hU9], by rw [hU9]; exact hPc, va_K.moved hW.alike hKc, hDc.weaken (fun _ _ _ _ => trivial), by show va_Z _ _ _ _ _ U U.heap; rw [hU9]; exact ((hX.2.2.2.kept hS.2.1).narrow hFc).moved hW.alike, hU.2.2.2.1⟩⟩ rfl rfl hl.1 rfl (lv_room (Nat.le_of_ble_eq_true rfl)) d328 ⟨by show _ ≤ 400; omega, by show _ ≤ 600000; omega⟩) hS (fun q _ h => hFc q h) hFc (fun u ra t H7 locs1 ht hvm hw hB hz1 hk1 hS => ?_)
        obtain ⟨v7, c7, M7, f7⟩ := u
        obtain ⟨hq, hP1, hK1, hD1⟩ := hB
        dsimp only at hP1 hK1 hD1
        rw [ht] at hP1
        have hK1 := va_K.moved hvm.symm hK1
        have hU := hU.ap (l2 := [59]) 1 hw rfl (eb_f1 _) (by decide)
        have e9 : lx6.length + 1 = (lx6 ++ [59]).length := by rw [List.length_append]; rfl
        rw [e9] at hP1 hD1
        obtain ⟨hP, hD⟩ := va_join (wr := [(bo, .inl (cZ, 64, .inl (upd g (((Wd) * (y2)) + (y1)) 1)))]) (w1 := (eb_W b v7 c7 M7 f7 0 (lx6 ++ [59]).length)) hP hD [1, 2] [0] rfl rfl (by decide) (by decide) hk1 hFc hP1 hD1
        have hK := (hK.sub (tys' := [(cZ, .boolean)]) [0] rfl).app hK1
        obtain ⟨lx7, el7⟩ : ∃ z, z = lx6 ++ [59] := ⟨_, rfl⟩
        rw [← el7] at hP hD hU
        have hP : va_P D eb_cl (eb_V bo cZ (upd g (((Wd) * (y2)) + (y1)) 1) b v7 c7 M7 f7 lx7) H7 := hP
        have hD : va_D A (eb_V bo cZ (upd g (((Wd) * (y2)) + (y1)) 1) b v7 c7 M7 f7 lx7) := hD
        have hK : va_K D eb_cl [(cZ, .boolean), (c7, .byte)] s := hK
        have hU : eb_U lx7 (90 + 21 * i + 21) M7 f7 := hU
        rw [hq]
        refine lv_pop hx hb d331 rfl ?_
        have et : lx7 = txt Wd Hd a9 b9 p9 w9 t9 (flP (ps ++ [(0, y4 + 1, y1, y2)])) := by
          rw [flP_s, txt_ap, ← hlx, el7, el6, el5, el4, el3, el2, el1]
          simp only [txP, List.append_assoc]
          rw [eb_kd y4 (by omega)]
          rfl
        have epc : pcl Wd (0, y4 + 1, y1, y2) = ((Wd) * (y2)) + (y1) := Nat.add_comm _ _
        have hG2 : eb_Gr Wd Hd (ps ++ [(0, y4 + 1, y1, y2)]) (upd g (((Wd) * (y2)) + (y1)) 1) := by
          have := hG.st (q := (0, y4 + 1, y1, y2))
          rw [epc] at this
          exact this
        refine lv_iinc hx hb d332 hl (k := 2) rfl (v := nI (i + 1)) (nI_add i 1) (by decide) rfl (fun ls hl => ?_)
        refine lv_goto (tgt := 193) hx hb d335 (by decide) ?_
        refine W.widen (k := 60 + 20 * (i + 1)) (n := 60000 + 30000 * (i + 1)) (by omega) (by omega) ?_
        exact ih (i + 1) (ps ++ [(0, y4 + 1, y1, y2)]) _ lx7 v7 c7 M7 f7 _ _ _ (by omega) (by rw [List.length_append]; simp only [List.length_cons, List.length_nil]; omega) (okP_s hok ⟨by dsimp only; omega, by dsimp only; omega, by dsimp only; omega, by dsimp only; omega, by dsimp only; omega⟩ (by rw [epc]; exact gc1) (by rw [epc]; exact gc2) (fun i hi => by rw [epc]; exact gc3 i hi)) hG2 et (hU.mono (by omega)) hP hD hS hK (lv_sub hl [0, 3, 4, 5, 6, 7, 8] rfl)
      · refine lv_if_ne (tgt := 282) hx hb d274 (by decide) (fun _ => ?_) (fun z => absurd z (by decide))
        refine va_ldcS hx hb hown (hY.1 12 (by decide)) d282 ?_
        have hPc := hP.sub (ws' := (eb_W b v0 c0 M0 f0 0 lx0.length)) [1, 2] rfl
        have hDc := hD.sub (ws' := (eb_W b v0 c0 M0 f0 0 lx0.length)) [1, 2] (by decide) rfl
        have hKc := hK.sub (tys' := [(c0, .byte)]) [1] rfl
        have hFc := va_free (wc := (eb_W b v0 c0 M0 f0 0 lx0.length)) hD hS hA [1, 2] rfl
        refine va_callr (va_runV (As := [.ref (av 12)]) (rest := []) ⟨hx, hb, hml, hown, hts⟩ (eb_sappS l D Gy3.size b v0 c0 M0 f0 0 lx0.length (eb_ll 12).length (eb_fx (eb_ll 12)) (av 12) (aw 12) hU.2.1 hU.2.2.1 (by have := hU.1; show _ + 6 ≤ 300; omega)) (cwV 1 hts (eb_gV eb_ok1 (eb_m (ev_gm (p := 15074) (by decide +kernel) rfl)) (eb_m (ev_gm (p := 14168) (by decide +kernel) rfl)) (eb_m (ev_gm (p := 14169) (by decide +kernel) rfl)) (eb_m (ev_ginit (by decide +kernel) rfl)) (eb_m (ev_gm (p := 14170) (by decide +kernel) rfl))) rfl rfl rfl (by decide +kernel) ⟨Nat.le_of_ble_eq_true rfl, Nat.le_of_ble_eq_true rfl⟩) ⟨fun a U g mk q => by obtain ⟨q0, q1, qP, qK, qD, qF⟩ := q; exact ⟨q0, q1, qP, va_K.moved (u := U) (U := U.calling g mk a) (Vm.Alike.refl U.vm) qK, qD, eb_T.moved (u := U) (U := U.calling g mk a) (Vm.Alike.refl U.vm) qF.1, qF.2⟩, va_recv hK hP (ci := 0) (q0 := 1) rfl rfl, fun U hU9 hW => ⟨rfl, by rw [hU9], by rw [hU9]; exact hPc, va_K.moved hW.alike hKc, hDc.weaken (fun _ _ _ _ => trivial), by show eb_T _ _ _ _ _ U U.heap; rw [hU9]; exact (((hX.1 12 (by omega)).kept hS.2.1).narrow hFc).moved hW.alike, eb_fx_ft 12 (by omega), hU.2.2.2.1⟩⟩ rfl rfl hl.1 rfl (lv_room (Nat.le_of_ble_eq_true rfl)) d284 ⟨by show _ ≤ 400; omega, by show _ ≤ 600000; omega⟩) hS (fun q _ h => hFc q h) hFc (fun u ra t H1 locs1 ht hvm hw hB hz1 hk1 hS => ?_)
        obtain ⟨v1, c1, M1, f1⟩ := u
        obtain ⟨hq, hP1, hK1, hD1⟩ := hB
        dsimp only at hP1 hK1 hD1
        rw [ht] at hP1
        have hK1 := va_K.moved hvm.symm hK1
        have hU := hU.ap (l2 := (eb_ll 12)) 6 hw rfl (fun _ _ => rfl) (by decide)
        have e9 : lx0.length + (eb_ll 12).length = (lx0 ++ (eb_ll 12)).length := by rw [List.length_append]
        rw [e9] at hP1 hD1
        obtain ⟨hP, hD⟩ := va_join (wr := [(bo, .inl (cZ, 64, .inl (upd g (((Wd) * (y2)) + (y1)) 1)))]) (w1 := (eb_W b v1 c1 M1 f1 0 (lx0 ++ (eb_ll 12)).length)) hP hD [1, 2] [0] rfl rfl (by decide) (by decide) hk1 hFc hP1 hD1
        have hK := (hK.sub (tys' := [(cZ, .boolean)]) [0] rfl).app hK1
        obtain ⟨lx1, el1⟩ : ∃ z, z = lx0 ++ (eb_ll 12) := ⟨_, rfl⟩
        rw [← el1] at hP hD hU
        have hP : va_P D eb_cl (eb_V bo cZ (upd g (((Wd) * (y2)) + (y1)) 1) b v1 c1 M1 f1 lx1) H1 := hP
        have hD : va_D A (eb_V bo cZ (upd g (((Wd) * (y2)) + (y1)) 1) b v1 c1 M1 f1 lx1) := hD
        have hK : va_K D eb_cl [(cZ, .boolean), (c1, .byte)] s := hK
        have hU : eb_U lx1 (90 + 21 * i + 6) M1 f1 := hU
        rw [hq]
        refine lv_aload_n hx hb d287 rfl (lv_at hl 8 rfl) ?_
        refine lv_bipush (v := nI 23) hx hb d288 (by decide) ?_
        refine lv_iconst (v := nI 4) hx hb d290 (by decide) ?_
        refine lv_iload hx hb d291 (lv_at hl 2 rfl) ?_
        refine lv_imul hx hb d293 ?_
        refine lv_topi (fun y ey => ?_); obtain rfl : y = nI ((4) * (i)) := ey.trans (pk_mul (4) (i))
        refine lv_iadd hx hb d294 ?_
        refine lv_topi (fun y ey => ?_); obtain rfl : y = nI ((23) + ((4) * (i))) := ey.trans (nI_add (23) ((4) * (i)))
        refine lv_iconst (v := nI 0) hx hb d295 (by decide) ?_
        refine lv_iconst (v := nI 4) hx hb d296 (by decide) ?_
        refine va_calli (va_runS (As := [.ref b0, .int (nI ((23) + ((4) * (i)))), .int (nI (0)), .int (nI (4))]) (rest := [.ref b]) ⟨hx, hb, hml, hown, hts⟩ (eb_draw l D L xs b0 (by omega) ((23) + ((4) * (i))) (0) (4) (by omega) (by omega) (by omega)) (va_cwS 4 hts (eb_gS eb_ok1 (eb_m (ev_gm (p := 13193) (by decide +kernel) rfl)) (eb_m (ev_gm (p := 13194) (by decide +kernel) rfl)) (eb_m (ev_ginit (by decide +kernel) rfl)) (eb_m (ev_gm (p := 13195) (by decide +kernel) rfl))) rfl rfl rfl (by decide +kernel) ⟨Nat.le_of_ble_eq_true rfl, Nat.le_of_ble_eq_true rfl⟩) ⟨fun a U g mk q => ⟨q.1, va_T.moved (u := U) (U := U.calling g mk a) (Vm.Alike.refl U.vm) q.2⟩, fun U hU hW => ⟨rfl, by show va_T _ _ _ _ _ U U.heap; rw [hU]; exact ((hX.2.1.kept hS.2.1).narrow (fun _ z => z.elim)).moved hW.alike⟩⟩ rfl rfl hl.1 rfl (lv_room (Nat.le_of_ble_eq_true rfl)) d297 ⟨by show _ ≤ 400; omega, by show _ ≤ 600000; omega⟩) hS (fun q _ h => h.elim) (fun q h => h.elim) (fun r u t Gy4 locs1 ht hvm hw hB hz1 hk1 hS => ?_)
        obtain ⟨y4, ey4⟩ : ∃ z : Nat, z = u := ⟨u, rfl⟩
        rw [← ey4] at hw
        obtain ⟨y4a, y4b, rfl⟩ := hw
        have hP := eb_keep hP hk1
        refine va_callr (va_runS (As := [.int (nI (y4))]) (rest := [.ref b]) ⟨hx, hb, hml, hown, hts⟩ (eb_kind l D av (y4) (by omega)) (va_cwS 1 hts (eb_gS eb_ok1 (eb_m (ev_gm (p := 15081) (by decide +kernel) rfl)) (eb_m (ev_gm (p := 15082) (by decide +kernel) rfl)) (eb_m (ev_ginit (by decide +kernel) rfl)) (eb_m (ev_gm (p := 15083) (by decide +kernel) rfl))) rfl rfl rfl (by decide +kernel) ⟨Nat.le_of_ble_eq_true rfl, Nat.le_of_ble_eq_true rfl⟩) ⟨fun a U g mk q => ⟨q.1, eb_Y.same rfl q.2⟩, fun U hU9 hW => ⟨rfl, eb_Y.warm hW hY⟩⟩ rfl rfl hl.1 rfl (lv_room (Nat.le_of_ble_eq_true rfl)) d300 ⟨by show _ ≤ 400; omega, by show _ ≤ 600000; omega⟩) hS (fun q _ h => h.elim) (fun q h => h.elim) (fun u ra t HK locs1 ht hvm hw hB hz1 hk1 hS => ?_)
        have hB : ra = av (y4) := hB
        rw [hB]
        have hP := eb_keep hP hk1
        have hPc := hP.sub (ws' := (eb_W b v1 c1 M1 f1 0 lx1.length)) [1, 2] rfl
        have hDc := hD.sub (ws' := (eb_W b v1 c1 M1 f1 0 lx1.length)) [1, 2] (by decide) rfl
        have hKc := hK.sub (tys' := [(c1, .byte)]) [1] rfl
        have hFc := va_free (wc := (eb_W b v1 c1 M1 f1 0 lx1.length)) hD hS hA [1, 2] rfl
        refine va_callr (va_runV (As := [.ref (av y4)]) (rest := []) ⟨hx, hb, hml, hown, hts⟩ (eb_sappS l D HK.size b v1 c1 M1 f1 0 lx1.length (eb_ll y4).length (eb_fx (eb_ll y4)) (av y4) (aw y4) hU.2.1 hU.2.2.1 (by have := hU.1; have := eb_l6 y4 (by omega) (by omega); omega)) (cwV 1 hts (eb_gV eb_ok1 (eb_m (ev_gm (p := 15074) (by decide +kernel) rfl)) (eb_m (ev_gm (p := 14168) (by decide +kernel) rfl)) (eb_m (ev_gm (p := 14169) (by decide +kernel) rfl)) (eb_m (ev_ginit (by decide +kernel) rfl)) (eb_m (ev_gm (p := 14170) (by decide +kernel) rfl))) rfl rfl rfl (by decide +kernel) ⟨Nat.le_of_ble_eq_true rfl, Nat.le_of_ble_eq_true rfl⟩) ⟨fun a U g mk q => by obtain ⟨q0, q1, qP, qK, qD, qF⟩ := q; exact ⟨q0, q1, qP, va_K.moved (u := U) (U := U.calling g mk a) (Vm.Alike.refl U.vm) qK, qD, eb_T.moved (u := U) (U := U.calling g mk a) (Vm.Alike.refl U.vm) qF.1, qF.2⟩, va_recv hK hP (ci := 0) (q0 := 1) rfl rfl, fun U hU9 hW => ⟨rfl, by rw [hU9], by rw [hU9]; exact hPc, va_K.moved hW.alike hKc, hDc.weaken (fun _ _ _ _ => trivial), by show eb_T _ _ _ _ _ U U.heap; rw [hU9]; exact (((hX.1 y4 (by omega)).kept hS.2.1).narrow hFc).moved hW.alike, eb_fx_ft y4 (by omega), hU.2.2.2.1⟩⟩ rfl rfl hl.1 rfl (lv_room (Nat.le_of_ble_eq_true rfl)) d303 ⟨by show _ ≤ 400; omega, by show _ ≤ 600000; omega⟩) hS (fun q _ h => hFc q h) hFc (fun u ra t H2 locs1 ht hvm hw hB hz1 hk1 hS => ?_)
        obtain ⟨v2, c2, M2, f2⟩ := u
        obtain ⟨hq, hP1, hK1, hD1⟩ := hB
        dsimp only at hP1 hK1 hD1
        rw [ht] at hP1
        have hK1 := va_K.moved hvm.symm hK1
        have hU := hU.ap (l2 := (eb_ll y4)) 6 hw rfl (fun _ _ => rfl) (eb_l6 y4 (by omega) (by omega))
        have e9 : lx1.length + (eb_ll y4).length = (lx1 ++ (eb_ll y4)).length := by rw [List.length_append]
        rw [e9] at hP1 hD1
        obtain ⟨hP, hD⟩ := va_join (wr := [(bo, .inl (cZ, 64, .inl (upd g (((Wd) * (y2)) + (y1)) 1)))]) (w1 := (eb_W b v2 c2 M2 f2 0 (lx1 ++ (eb_ll y4)).length)) hP hD [1, 2] [0] rfl rfl (by decide) (by decide) hk1 hFc hP1 hD1
        have hK := (hK.sub (tys' := [(cZ, .boolean)]) [0] rfl).app hK1
        obtain ⟨lx2, el2⟩ : ∃ z, z = lx1 ++ (eb_ll y4) := ⟨_, rfl⟩
        rw [← el2] at hP hD hU
        have hP : va_P D eb_cl (eb_V bo cZ (upd g (((Wd) * (y2)) + (y1)) 1) b v2 c2 M2 f2 lx2) H2 := hP
        have hD : va_D A (eb_V bo cZ (upd g (((Wd) * (y2)) + (y1)) 1) b v2 c2 M2 f2 lx2) := hD
        have hK : va_K D eb_cl [(cZ, .boolean), (c2, .byte)] s := hK
        have hU : eb_U lx2 (90 + 21 * i + 12) M2 f2 := hU
        rw [hq]
        refine lv_bipush (v := nI 32) hx hb d306 (by decide) ?_
        have hPc := hP.sub (ws' := (eb_W b v2 c2 M2 f2 0 lx2.length)) [1, 2] rfl
        have hDc := hD.sub (ws' := (eb_W b v2 c2 M2 f2 0 lx2.length)) [1, 2] (by decide) rfl
        have hKc := hK.sub (tys' := [(c2, .byte)]) [1] rfl
        have hFc := va_free (wc := (eb_W b v2 c2 M2 f2 0 lx2.length)) hD hS hA [1, 2] rfl
        refine va_callr (va_runV (As := [.int (nI (32))]) (rest := []) ⟨hx, hb, hml, hown, hts⟩ (eb_sappC l D H2.size b v2 c2 M2 f2 0 lx2.length 32 (by decide) hU.2.1 hU.2.2.1 (by have := hU.1; omega)) (cwV 1 hts (eb_gV eb_ok1 (eb_m (ev_gm (p := 15060) (by decide +kernel) rfl)) (eb_m (ev_gm (p := 15061) (by decide +kernel) rfl)) (eb_m (ev_gm (p := 15062) (by decide +kernel) rfl)) (eb_m (ev_ginit (by decide +kernel) rfl)) (eb_m (ev_gm (p := 15063) (by decide +kernel) rfl))) rfl rfl rfl (by decide +kernel) ⟨Nat.le_of_ble_eq_true rfl, Nat.le_of_ble_eq_true rfl⟩) ⟨fun a U g mk q => by obtain ⟨q0, q1, qP, qK, qD, qF⟩ := q; exact ⟨q0, q1, qP, va_K.moved (u := U) (U := U.calling g mk a) (Vm.Alike.refl U.vm) qK, qD, va_Z.moved (u := U) (U := U.calling g mk a) (Vm.Alike.refl U.vm) qF.1, qF.2⟩, va_recv hK hP (ci := 0) (q0 := 1) rfl rfl, fun U hU9 hW => ⟨rfl, by rw [hU9], by rw [hU9]; exact hPc, va_K.moved hW.alike hKc, hDc.weaken (fun _ _ _ _ => trivial), by show va_Z _ _ _ _ _ U U.heap; rw [hU9]; exact ((hX.2.2.2.kept hS.2.1).narrow hFc).moved hW.alike, hU.2.2.2.1⟩⟩ rfl rfl hl.1 rfl (lv_room (Nat.le_of_ble_eq_true rfl)) d308 ⟨by show _ ≤ 400; omega, by show _ ≤ 600000; omega⟩) hS (fun q _ h => hFc q h) hFc (fun u ra t H3 locs1 ht hvm hw hB hz1 hk1 hS => ?_)
        obtain ⟨v3, c3, M3, f3⟩ := u
        obtain ⟨hq, hP1, hK1, hD1⟩ := hB
        dsimp only at hP1 hK1 hD1
        rw [ht] at hP1
        have hK1 := va_K.moved hvm.symm hK1
        have hU := hU.ap (l2 := [32]) 1 hw rfl (eb_f1 _) (by decide)
        have e9 : lx2.length + 1 = (lx2 ++ [32]).length := by rw [List.length_append]; rfl
        rw [e9] at hP1 hD1
        obtain ⟨hP, hD⟩ := va_join (wr := [(bo, .inl (cZ, 64, .inl (upd g (((Wd) * (y2)) + (y1)) 1)))]) (w1 := (eb_W b v3 c3 M3 f3 0 (lx2 ++ [32]).length)) hP hD [1, 2] [0] rfl rfl (by decide) (by decide) hk1 hFc hP1 hD1
        have hK := (hK.sub (tys' := [(cZ, .boolean)]) [0] rfl).app hK1
        obtain ⟨lx3, el3⟩ : ∃ z, z = lx2 ++ [32] := ⟨_, rfl⟩
        rw [← el3] at hP hD hU
        have hP : va_P D eb_cl (eb_V bo cZ (upd g (((Wd) * (y2)) + (y1)) 1) b v3 c3 M3 f3 lx3) H3 := hP
        have hD : va_D A (eb_V bo cZ (upd g (((Wd) * (y2)) + (y1)) 1) b v3 c3 M3 f3 lx3) := hD
        have hK : va_K D eb_cl [(cZ, .boolean), (c3, .byte)] s := hK
        have hU : eb_U lx3 (90 + 21 * i + 13) M3 f3 := hU
        rw [hq]
        refine lv_iload hx hb d311 (lv_at hl 1 rfl) ?_
        have hPc := hP.sub (ws' := (eb_W b v3 c3 M3 f3 0 lx3.length)) [1, 2] rfl
        have hDc := hD.sub (ws' := (eb_W b v3 c3 M3 f3 0 lx3.length)) [1, 2] (by decide) rfl
        have hKc := hK.sub (tys' := [(c3, .byte)]) [1] rfl
        have hFc := va_free (wc := (eb_W b v3 c3 M3 f3 0 lx3.length)) hD hS hA [1, 2] rfl
        refine va_callr (va_runV (As := [.int (nI (y1))]) (rest := []) ⟨hx, hb, hml, hown, hts⟩ (eb_sappI l D H3.size b v3 c3 M3 f3 0 lx3.length (y1) (by omega) hU.2.1 hU.2.2.1 (by have := hU.1; have := eb_sz3 (y1); omega)) (cwV 1 hts (eb_gV eb_ok1 (eb_m (ev_gm (p := 15035) (by decide +kernel) rfl)) (eb_m (ev_gm (p := 15036) (by decide +kernel) rfl)) (eb_m (ev_gm (p := 15037) (by decide +kernel) rfl)) (eb_m (ev_ginit (by decide +kernel) rfl)) (eb_m (ev_gm (p := 15038) (by decide +kernel) rfl))) rfl rfl rfl (by decide +kernel) ⟨Nat.le_of_ble_eq_true rfl, Nat.le_of_ble_eq_true rfl⟩) ⟨fun a U g mk q => by obtain ⟨q0, q1, qP, qK, qD, qF⟩ := q; exact ⟨q0, q1, qP, va_K.moved (u := U) (U := U.calling g mk a) (Vm.Alike.refl U.vm) qK, qD, eb_I.moved (u := U) (U := U.calling g mk a) (Vm.Alike.refl U.vm) qF.1, va_Z.moved (u := U) (U := U.calling g mk a) (Vm.Alike.refl U.vm) qF.2.1, qF.2.2⟩, va_recv hK hP (ci := 0) (q0 := 1) rfl rfl, fun U hU9 hW => ⟨rfl, by rw [hU9], by rw [hU9]; exact hPc, va_K.moved hW.alike hKc, hDc.weaken (fun _ _ _ _ => trivial), by show eb_I _ U U.heap; rw [hU9]; exact ((hX.2.2.1.kept hS.2.1).narrow hFc).moved hW.alike, by show va_Z _ _ _ _ _ U U.heap; rw [hU9]; exact ((hX.2.2.2.kept hS.2.1).narrow hFc).moved hW.alike, hU.2.2.2.1⟩⟩ rfl rfl hl.1 rfl (lv_room (Nat.le_of_ble_eq_true rfl)) d313 ⟨by show _ ≤ 400; omega, by show _ ≤ 600000; omega⟩) hS (fun q _ h => hFc q h) hFc (fun u ra t H4 locs1 ht hvm hw hB hz1 hk1 hS => ?_)
        obtain ⟨v4, c4, M4, f4⟩ := u
        obtain ⟨hq, hP1, hK1, hD1⟩ := hB
        dsimp only at hP1 hK1 hD1
        rw [ht] at hP1
        have hK1 := va_K.moved hvm.symm hK1
        have hU := hU.ap (l2 := (dg (y1))) 3 hw (eb_dl (by omega)) (fun _ _ => rfl) (eb_sz3 _)
        have e9 : lx3.length + (eb_sz (y1)) = (lx3 ++ (dg (y1))).length := by rw [List.length_append, eb_dl (by omega)]
        rw [e9] at hP1 hD1
        obtain ⟨hP, hD⟩ := va_join (wr := [(bo, .inl (cZ, 64, .inl (upd g (((Wd) * (y2)) + (y1)) 1)))]) (w1 := (eb_W b v4 c4 M4 f4 0 (lx3 ++ (dg (y1))).length)) hP hD [1, 2] [0] rfl rfl (by decide) (by decide) hk1 hFc hP1 hD1
        have hK := (hK.sub (tys' := [(cZ, .boolean)]) [0] rfl).app hK1
        obtain ⟨lx4, el4⟩ : ∃ z, z = lx3 ++ (dg (y1)) := ⟨_, rfl⟩
        rw [← el4] at hP hD hU
        have hP : va_P D eb_cl (eb_V bo cZ (upd g (((Wd) * (y2)) + (y1)) 1) b v4 c4 M4 f4 lx4) H4 := hP
        have hD : va_D A (eb_V bo cZ (upd g (((Wd) * (y2)) + (y1)) 1) b v4 c4 M4 f4 lx4) := hD
        have hK : va_K D eb_cl [(cZ, .boolean), (c4, .byte)] s := hK
        have hU : eb_U lx4 (90 + 21 * i + 16) M4 f4 := hU
        rw [hq]
        refine lv_bipush (v := nI 32) hx hb d316 (by decide) ?_
        have hPc := hP.sub (ws' := (eb_W b v4 c4 M4 f4 0 lx4.length)) [1, 2] rfl
        have hDc := hD.sub (ws' := (eb_W b v4 c4 M4 f4 0 lx4.length)) [1, 2] (by decide) rfl
        have hKc := hK.sub (tys' := [(c4, .byte)]) [1] rfl
        have hFc := va_free (wc := (eb_W b v4 c4 M4 f4 0 lx4.length)) hD hS hA [1, 2] rfl
        refine va_callr (va_runV (As := [.int (nI (32))]) (rest := []) ⟨hx, hb, hml, hown, hts⟩ (eb_sappC l D H4.size b v4 c4 M4 f4 0 lx4.length 32 (by decide) hU.2.1 hU.2.2.1 (by have := hU.1; omega)) (cwV 1 hts (eb_gV eb_ok1 (eb_m (ev_gm (p := 15060) (by decide +kernel) rfl)) (eb_m (ev_gm (p := 15061) (by decide +kernel) rfl)) (eb_m (ev_gm (p := 15062) (by decide +kernel) rfl)) (eb_m (ev_ginit (by decide +kernel) rfl)) (eb_m (ev_gm (p := 15063) (by decide +kernel) rfl))) rfl rfl rfl (by decide +kernel) ⟨Nat.le_of_ble_eq_true rfl, Nat.le_of_ble_eq_true rfl⟩) ⟨fun a U g mk q => by obtain ⟨q0, q1, qP, qK, qD, qF⟩ := q; exact ⟨q0, q1, qP, va_K.moved (u := U) (U := U.calling g mk a) (Vm.Alike.refl U.vm) qK, qD, va_Z.moved (u := U) (U := U.calling g mk a) (Vm.Alike.refl U.vm) qF.1, qF.2⟩, va_recv hK hP (ci := 0) (q0 := 1) rfl rfl, fun U hU9 hW => ⟨rfl, by rw [hU9], by rw [hU9]; exact hPc, va_K.moved hW.alike hKc, hDc.weaken (fun _ _ _ _ => trivial), by show va_Z _ _ _ _ _ U U.heap; rw [hU9]; exact ((hX.2.2.2.kept hS.2.1).narrow hFc).moved hW.alike, hU.2.2.2.1⟩⟩ rfl rfl hl.1 rfl (lv_room (Nat.le_of_ble_eq_true rfl)) d318 ⟨by show _ ≤ 400; omega, by show _ ≤ 600000; omega⟩) hS (fun q _ h => hFc q h) hFc (fun u ra t H5 locs1 ht hvm hw hB hz1 hk1 hS => ?_)
        obtain ⟨v5, c5, M5, f5⟩ := u
        obtain ⟨hq, hP1, hK1, hD1⟩ := hB
        dsimp only at hP1 hK1 hD1
        rw [ht] at hP1
        have hK1 := va_K.moved hvm.symm hK1
        have hU := hU.ap (l2 := [32]) 1 hw rfl (eb_f1 _) (by decide)
        have e9 : lx4.length + 1 = (lx4 ++ [32]).length := by rw [List.length_append]; rfl
        rw [e9] at hP1 hD1
        obtain ⟨hP, hD⟩ := va_join (wr := [(bo, .inl (cZ, 64, .inl (upd g (((Wd) * (y2)) + (y1)) 1)))]) (w1 := (eb_W b v5 c5 M5 f5 0 (lx4 ++ [32]).length)) hP hD [1, 2] [0] rfl rfl (by decide) (by decide) hk1 hFc hP1 hD1
        have hK := (hK.sub (tys' := [(cZ, .boolean)]) [0] rfl).app hK1
        obtain ⟨lx5, el5⟩ : ∃ z, z = lx4 ++ [32] := ⟨_, rfl⟩
        rw [← el5] at hP hD hU
        have hP : va_P D eb_cl (eb_V bo cZ (upd g (((Wd) * (y2)) + (y1)) 1) b v5 c5 M5 f5 lx5) H5 := hP
        have hD : va_D A (eb_V bo cZ (upd g (((Wd) * (y2)) + (y1)) 1) b v5 c5 M5 f5 lx5) := hD
        have hK : va_K D eb_cl [(cZ, .boolean), (c5, .byte)] s := hK
        have hU : eb_U lx5 (90 + 21 * i + 17) M5 f5 := hU
        rw [hq]
        refine lv_iload hx hb d321 (lv_at hl 0 rfl) ?_
        have hPc := hP.sub (ws' := (eb_W b v5 c5 M5 f5 0 lx5.length)) [1, 2] rfl
        have hDc := hD.sub (ws' := (eb_W b v5 c5 M5 f5 0 lx5.length)) [1, 2] (by decide) rfl
        have hKc := hK.sub (tys' := [(c5, .byte)]) [1] rfl
        have hFc := va_free (wc := (eb_W b v5 c5 M5 f5 0 lx5.length)) hD hS hA [1, 2] rfl
        refine va_callr (va_runV (As := [.int (nI (y2))]) (rest := []) ⟨hx, hb, hml, hown, hts⟩ (eb_sappI l D H5.size b v5 c5 M5 f5 0 lx5.length (y2) (by omega) hU.2.1 hU.2.2.1 (by have := hU.1; have := eb_sz3 (y2); omega)) (cwV 1 hts (eb_gV eb_ok1 (eb_m (ev_gm (p := 15035) (by decide +kernel) rfl)) (eb_m (ev_gm (p := 15036) (by decide +kernel) rfl)) (eb_m (ev_gm (p := 15037) (by decide +kernel) rfl)) (eb_m (ev_ginit (by decide +kernel) rfl)) (eb_m (ev_gm (p := 15038) (by decide +kernel) rfl))) rfl rfl rfl (by decide +kernel) ⟨Nat.le_of_ble_eq_true rfl, Nat.le_of_ble_eq_true rfl⟩) ⟨fun a U g mk q => by obtain ⟨q0, q1, qP, qK, qD, qF⟩ := q; exact ⟨q0, q1, qP, va_K.moved (u := U) (U := U.calling g mk a) (Vm.Alike.refl U.vm) qK, qD, eb_I.moved (u := U) (U := U.calling g mk a) (Vm.Alike.refl U.vm) qF.1, va_Z.moved (u := U) (U := U.calling g mk a) (Vm.Alike.refl U.vm) qF.2.1, qF.2.2⟩, va_recv hK hP (ci := 0) (q0 := 1) rfl rfl, fun U hU9 hW => ⟨rfl, by rw [hU9], by rw [hU9]; exact hPc, va_K.moved hW.alike hKc, hDc.weaken (fun _ _ _ _ => trivial), by show eb_I _ U U.heap; rw [hU9]; exact ((hX.2.2.1.kept hS.2.1).narrow hFc).moved hW.alike, by show va_Z _ _ _ _ _ U U.heap; rw [hU9]; exact ((hX.2.2.2.kept hS.2.1).narrow hFc).moved hW.alike, hU.2.2.2.1⟩⟩ rfl rfl hl.1 rfl (lv_room (Nat.le_of_ble_eq_true rfl)) d323 ⟨by show _ ≤ 400; omega, by show _ ≤ 600000; omega⟩) hS (fun q _ h => hFc q h) hFc (fun u ra t H6 locs1 ht hvm hw hB hz1 hk1 hS => ?_)
        obtain ⟨v6, c6, M6, f6⟩ := u
        obtain ⟨hq, hP1, hK1, hD1⟩ := hB
        dsimp only at hP1 hK1 hD1
        rw [ht] at hP1
        have hK1 := va_K.moved hvm.symm hK1
        have hU := hU.ap (l2 := (dg (y2))) 3 hw (eb_dl (by omega)) (fun _ _ => rfl) (eb_sz3 _)
        have e9 : lx5.length + (eb_sz (y2)) = (lx5 ++ (dg (y2))).length := by rw [List.length_append, eb_dl (by omega)]
        rw [e9] at hP1 hD1
        obtain ⟨hP, hD⟩ := va_join (wr := [(bo, .inl (cZ, 64, .inl (upd g (((Wd) * (y2)) + (y1)) 1)))]) (w1 := (eb_W b v6 c6 M6 f6 0 (lx5 ++ (dg (y2))).length)) hP hD [1, 2] [0] rfl rfl (by decide) (by decide) hk1 hFc hP1 hD1
        have hK := (hK.sub (tys' := [(cZ, .boolean)]) [0] rfl).app hK1
        obtain ⟨lx6, el6⟩ : ∃ z, z = lx5 ++ (dg (y2)) := ⟨_, rfl⟩
        rw [← el6] at hP hD hU
        have hP : va_P D eb_cl (eb_V bo cZ (upd g (((Wd) * (y2)) + (y1)) 1) b v6 c6 M6 f6 lx6) H6 := hP
        have hD : va_D A (eb_V bo cZ (upd g (((Wd) * (y2)) + (y1)) 1) b v6 c6 M6 f6 lx6) := hD
        have hK : va_K D eb_cl [(cZ, .boolean), (c6, .byte)] s := hK
        have hU : eb_U lx6 (90 + 21 * i + 20) M6 f6 := hU
        rw [hq]
        refine lv_bipush (v := nI 59) hx hb d326 (by decide) ?_
        have hPc := hP.sub (ws' := (eb_W b v6 c6 M6 f6 0 lx6.length)) [1, 2] rfl
        have hDc := hD.sub (ws' := (eb_W b v6 c6 M6 f6 0 lx6.length)) [1, 2] (by decide) rfl
        have hKc := hK.sub (tys' := [(c6, .byte)]) [1] rfl
        have hFc := va_free (wc := (eb_W b v6 c6 M6 f6 0 lx6.length)) hD hS hA [1, 2] rfl
        refine va_callr (va_runV (As := [.int (nI (59))]) (rest := []) ⟨hx, hb, hml, hown, hts⟩ (eb_sappC l D H6.size b v6 c6 M6 f6 0 lx6.length 59 (by decide) hU.2.1 hU.2.2.1 (by have := hU.1; omega)) (cwV 1 hts (eb_gV eb_ok1 (eb_m (ev_gm (p := 15060) (by decide +kernel) rfl)) (eb_m (ev_gm (p := 15061) (by decide +kernel) rfl)) (eb_m (ev_gm (p := 15062) (by decide +kernel) rfl)) (eb_m (ev_ginit (by decide +kernel) rfl)) (eb_m (ev_gm (p := 15063) (by decide +kernel) rfl))) rfl rfl rfl (by decide +kernel) ⟨Nat.le_of_ble_eq_true rfl, Nat.le_of_ble_eq_true rfl⟩) ⟨fun a U g mk q => by obtain ⟨q0, q1, qP, qK, qD, qF⟩ := q; exact ⟨q0, q1, qP, va_K.moved (u := U) (U := U.calling g mk a) (Vm.Alike.refl U.vm) qK, qD, va_Z.moved (u := U) (U := U.calling g mk a) (Vm.Alike.refl U.vm) qF.1, qF.2⟩, va_recv hK hP (ci := 0) (q0 := 1) rfl rfl, fun U hU9 hW => ⟨rfl, by rw [hU9], by rw [hU9]; exact hPc, va_K.moved hW.alike hKc, hDc.weaken (fun _ _ _ _ => trivial), by show va_Z _ _ _ _ _ U U.heap; rw [hU9]; exact ((hX.2.2.2.kept hS.2.1).narrow hFc).moved hW.alike, hU.2.2.2.1⟩⟩ rfl rfl hl.1 rfl (lv_room (Nat.le_of_ble_eq_true rfl)) d328 ⟨by show _ ≤ 400; omega, by show _ ≤ 600000; omega⟩) hS (fun q _ h => hFc q h) hFc (fun u ra t H7 locs1 ht hvm hw hB hz1 hk1 hS => ?_)
        obtain ⟨v7, c7, M7, f7⟩ := u
        obtain ⟨hq, hP1, hK1, hD1⟩ := hB
        dsimp only at hP1 hK1 hD1
        rw [ht] at hP1
        have hK1 := va_K.moved hvm.symm hK1
        have hU := hU.ap (l2 := [59]) 1 hw rfl (eb_f1 _) (by decide)
        have e9 : lx6.length + 1 = (lx6 ++ [59]).length := by rw [List.length_append]; rfl
        rw [e9] at hP1 hD1
        obtain ⟨hP, hD⟩ := va_join (wr := [(bo, .inl (cZ, 64, .inl (upd g (((Wd) * (y2)) + (y1)) 1)))]) (w1 := (eb_W b v7 c7 M7 f7 0 (lx6 ++ [59]).length)) hP hD [1, 2] [0] rfl rfl (by decide) (by decide) hk1 hFc hP1 hD1
        have hK := (hK.sub (tys' := [(cZ, .boolean)]) [0] rfl).app hK1
        obtain ⟨lx7, el7⟩ : ∃ z, z = lx6 ++ [59] := ⟨_, rfl⟩
        rw [← el7] at hP hD hU
        have hP : va_P D eb_cl (eb_V bo cZ (upd g (((Wd) * (y2)) + (y1)) 1) b v7 c7 M7 f7 lx7) H7 := hP
        have hD : va_D A (eb_V bo cZ (upd g (((Wd) * (y2)) + (y1)) 1) b v7 c7 M7 f7 lx7) := hD
        have hK : va_K D eb_cl [(cZ, .boolean), (c7, .byte)] s := hK
        have hU : eb_U lx7 (90 + 21 * i + 21) M7 f7 := hU
        rw [hq]
        refine lv_pop hx hb d331 rfl ?_
        have et : lx7 = txt Wd Hd a9 b9 p9 w9 t9 (flP (ps ++ [(1, y4 + 1, y1, y2)])) := by
          rw [flP_s, txt_ap, ← hlx, el7, el6, el5, el4, el3, el2, el1]
          simp only [txP, List.append_assoc]
          rw [eb_kd y4 (by omega)]
          rfl
        have epc : pcl Wd (1, y4 + 1, y1, y2) = ((Wd) * (y2)) + (y1) := Nat.add_comm _ _
        have hG2 : eb_Gr Wd Hd (ps ++ [(1, y4 + 1, y1, y2)]) (upd g (((Wd) * (y2)) + (y1)) 1) := by
          have := hG.st (q := (1, y4 + 1, y1, y2))
          rw [epc] at this
          exact this
        refine lv_iinc hx hb d332 hl (k := 2) rfl (v := nI (i + 1)) (nI_add i 1) (by decide) rfl (fun ls hl => ?_)
        refine lv_goto (tgt := 193) hx hb d335 (by decide) ?_
        refine W.widen (k := 60 + 20 * (i + 1)) (n := 60000 + 30000 * (i + 1)) (by omega) (by omega) ?_
        exact ih (i + 1) (ps ++ [(1, y4 + 1, y1, y2)]) _ lx7 v7 c7 M7 f7 _ _ _ (by omega) (by rw [List.length_append]; simp only [List.length_cons, List.length_nil]; omega) (okP_s hok ⟨by dsimp only; omega, by dsimp only; omega, by dsimp only; omega, by dsimp only; omega, by dsimp only; omega⟩ (by rw [epc]; exact gc1) (by rw [epc]; exact gc2) (fun i hi => by rw [epc]; exact gc3 i hi)) hG2 et (hU.mono (by omega)) hP hD hS hK (lv_sub hl [0, 3, 4, 5, 6, 7, 8] rfl)
    · refine lv_if_eq (tgt := 249) hx hb d243 (by decide) (fun z => absurd z hg) (fun _ => ?_)
      refine lv_goto (tgt := 332) hx hb d246 (by decide) ?_
      refine lv_iinc hx hb d332 hl (k := 2) rfl (v := nI (i + 1)) (nI_add i 1) (by decide) rfl (fun ls hl => ?_)
      refine lv_goto (tgt := 193) hx hb d335 (by decide) ?_
      refine W.widen (k := 60 + 20 * (i + 1)) (n := 60000 + 30000 * (i + 1)) (by omega) (by omega) ?_
      exact ih (i + 1) ps g lx0 v0 c0 M0 f0 _ _ _ (by omega) (by omega) hok hG hlx (hU.mono (by omega)) hP hD hS hK (lv_sub hl [0, 3, 4, 5, 6, 7, 8] rfl)
