/-! The throws of the class. -/
def ev_ch : List String := ["java/lang/RuntimeException", "java/lang/Exception"]
def ev_tic (e : Nat) : Nat := [181, 406, 338, 370].getD e 0
def ev_tik (e : Nat) : Nat := [177, 402, 334, 366].getD e 0
def ev_tkp (e : Nat) : Nat := [13183, 14022, 15220, 16178].getD e 0
def ev_atE (e : Nat) : List Cond := match e with
  | 0 => vx_atS "LanternChess" (ev_tic 0) "java/lang/IllegalArgumentException" ev_ch
  | 1 => vx_atS "LanternChess" (ev_tic 1) "java/lang/IndexOutOfBoundsException" ev_ch
  | 2 => vx_atS "LanternChess" (ev_tic 2) "java/lang/IllegalStateException" ev_ch
  | _ => ev_atX "LanternChess" (ev_tic 3) "java/util/NoSuchElementException" 13 prog_32_method_4_code ev_ch
def ev_hl_0 : List Nat := [11019, 13205, 13214, 13219, 13222, 13224, 13206, 13207, 11034, 11035, 13208, 13213, 13220, 14000, 13195, 14001, 13197, 14002, 13199, 13209, 13211, 13201, 13236, 13237, 13239, 13201, 13227, 13228, 13229, 13230, 13230, 13231, 13232, 13233, 13233, 13234, 13235, 13236, 13226, 13184, 13192, 13193, 13194, 13196, 13198, 13200, 13204, 13203, 13202]
set_option maxRecDepth 100000 in
theorem ev_hg_0 : (ev_atE 0).filter goodWord = ev_hl_0.filterMap ev_w := by decide +kernel
set_option maxRecDepth 100000 in
theorem ev_hx_0 : ∀ w ∈ ev_atE 0, goodWord w = true ∨ w ∈ ev_xw := by decide +kernel
set_option maxRecDepth 100000 in
theorem ev_ho_0 : ∀ w ∈ Cond.classLink "LanternChess" (ev_tik 0) "java/lang/IllegalArgumentException" :: Cond.initialized "java/lang/IllegalArgumentException" :: ev_atE 0, vx_ot w = true := by decide +kernel
theorem ev_hk_0 : ev_w (ev_tkp 0) = some (.classLink "LanternChess" (ev_tik 0) "java/lang/IllegalArgumentException") := by decide +kernel
theorem ev_hi_0 : Cond.initialized "java/lang/IllegalArgumentException" ∈ tables_1_1.take 28 := by decide +kernel
def ev_hl_1 : List Nat := [11019, 13205, 13214, 13219, 13222, 13224, 13206, 13207, 11034, 11035, 13208, 13213, 13220, 14000, 13195, 14001, 13197, 14002, 13199, 13209, 13211, 13201, 13236, 13237, 13239, 13201, 14033, 14034, 14035, 13230, 13230, 13231, 13232, 13233, 13233, 13234, 13235, 13236, 14032, 14023, 14025, 13217, 14026, 14027, 14028, 14029, 13204, 13203, 14030]
set_option maxRecDepth 100000 in
theorem ev_hg_1 : (ev_atE 1).filter goodWord = ev_hl_1.filterMap ev_w := by decide +kernel
set_option maxRecDepth 100000 in
theorem ev_hx_1 : ∀ w ∈ ev_atE 1, goodWord w = true ∨ w ∈ ev_xw := by decide +kernel
set_option maxRecDepth 100000 in
theorem ev_ho_1 : ∀ w ∈ Cond.classLink "LanternChess" (ev_tik 1) "java/lang/IndexOutOfBoundsException" :: Cond.initialized "java/lang/IndexOutOfBoundsException" :: ev_atE 1, vx_ot w = true := by decide +kernel
theorem ev_hk_1 : ev_w (ev_tkp 1) = some (.classLink "LanternChess" (ev_tik 1) "java/lang/IndexOutOfBoundsException") := by decide +kernel
theorem ev_hi_1 : Cond.initialized "java/lang/IndexOutOfBoundsException" ∈ tables_1_1.take 28 := by decide +kernel
def ev_hl_2 : List Nat := [11019, 13205, 13214, 13219, 13222, 13224, 13206, 13207, 11034, 11035, 13208, 13213, 13220, 14000, 13195, 14001, 13197, 14002, 13199, 13209, 13211, 13201, 13236, 13237, 13239, 13201, 15231, 15232, 15233, 13230, 13230, 13231, 13232, 13233, 13233, 13234, 13235, 13236, 15230, 15221, 15223, 13216, 15224, 15225, 15226, 15227, 13204, 13203, 15228]
set_option maxRecDepth 100000 in
theorem ev_hg_2 : (ev_atE 2).filter goodWord = ev_hl_2.filterMap ev_w := by decide +kernel
set_option maxRecDepth 100000 in
theorem ev_hx_2 : ∀ w ∈ ev_atE 2, goodWord w = true ∨ w ∈ ev_xw := by decide +kernel
set_option maxRecDepth 100000 in
theorem ev_ho_2 : ∀ w ∈ Cond.classLink "LanternChess" (ev_tik 2) "java/lang/IllegalStateException" :: Cond.initialized "java/lang/IllegalStateException" :: ev_atE 2, vx_ot w = true := by decide +kernel
theorem ev_hk_2 : ev_w (ev_tkp 2) = some (.classLink "LanternChess" (ev_tik 2) "java/lang/IllegalStateException") := by decide +kernel
theorem ev_hi_2 : Cond.initialized "java/lang/IllegalStateException" ∈ tables_1_1.take 28 := by decide +kernel
def ev_hl_3 : List Nat := [11019, 13205, 13214, 13219, 13222, 13224, 13206, 13207, 11034, 11035, 13208, 13213, 13220, 14000, 13195, 14001, 13197, 14002, 13199, 13209, 13211, 13201, 13236, 13237, 13239, 13201, 16189, 16190, 16191, 13230, 13230, 13231, 13232, 13233, 13233, 13234, 13235, 13236, 16188, 16179, 16181, 13218, 16182, 16183, 16184, 16185, 13204, 13203, 16186]
set_option maxRecDepth 100000 in
theorem ev_hg_3 : (ev_atE 3).filter goodWord = ev_hl_3.filterMap ev_w := by decide +kernel
set_option maxRecDepth 100000 in
theorem ev_hx_3 : ∀ w ∈ ev_atE 3, goodWord w = true ∨ w ∈ ev_xw := by decide +kernel
set_option maxRecDepth 100000 in
theorem ev_ho_3 : ∀ w ∈ Cond.classLink "LanternChess" (ev_tik 3) "java/util/NoSuchElementException" :: Cond.initialized "java/util/NoSuchElementException" :: ev_atE 3, vx_ot w = true := by decide +kernel
theorem ev_hk_3 : ev_w (ev_tkp 3) = some (.classLink "LanternChess" (ev_tik 3) "java/util/NoSuchElementException") := by decide +kernel
theorem ev_hi_3 : Cond.initialized "java/util/NoSuchElementException" ∈ tables_1_1.take 28 := by decide +kernel
theorem ev_hat_of {s : State} {args : Array Value} {ad : Nat → Nat} (hts : ∀ w ∈ ev_gw, w.before args s = true) (hS : ev_SU ad s) {k : Nat} {l : List Nat} (h1 : (ev_atE k).filter goodWord = l.filterMap ev_w) (h2 : ∀ w ∈ ev_atE k, goodWord w = true ∨ w ∈ ev_xw) : ∀ w ∈ ev_atE k, w.before args s = true := by
  intro w hw
  rcases h2 w hw with hg | hx
  · have h3 : w ∈ l.filterMap ev_w := by rw [← h1]; exact List.mem_filter.mpr ⟨hw, hg⟩
    obtain ⟨p, -, hp⟩ := List.mem_filterMap.mp h3
    exact hts w (ev_gm hp hg)
  · have h4 := hS.2.2.2.2 w hx
    have h5 : w.onTables = true := by
      simp only [ev_xw, List.mem_cons, List.not_mem_nil, or_false] at hx
      rcases hx with rfl | rfl | rfl | rfl | rfl | rfl | rfl <;> rfl
    exact va_Nw.use h5 h4
def ev_tok (t : Nat × Nat × Nat × Nat × Nat × Nat × Bool × String) : Bool :=
  decide (ev_ci t.1 = 10 ∧ ev_hh t.1 = [] ∧ t.1 < ev_nm ∧ t.1 ≠ ev_lawM ∧ t.2.2.1 < 4 ∧ t.2.2.2.1 = ev_tik t.2.2.1 ∧ t.2.2.2.2.2.1 = ev_tic t.2.2.1) && decide (decode (ev_cd t.1) t.2.1 = .ok (.new t.2.2.2.1, 3)) && decide (decode (ev_cd t.1) (t.2.1 + 3) = .ok (.dup, 1)) &&
  (if t.2.2.2.2.2.2.1 = true then decide (decode (ev_cd t.1) (t.2.1 + 4) = .ok (.ldc_w t.2.2.2.2.1, 3)) && decide (decode (ev_cd t.1) (t.2.1 + 7) = .ok (.invokespecial t.2.2.2.2.2.1, 3)) && decide (decode (ev_cd t.1) (t.2.1 + 10) = .ok (.athrow, 1))
   else decide (decode (ev_cd t.1) (t.2.1 + 4) = .ok (.ldc t.2.2.2.2.1, 2)) && decide (decode (ev_cd t.1) (t.2.1 + 6) = .ok (.invokespecial t.2.2.2.2.2.1, 3)) && decide (decode (ev_cd t.1) (t.2.1 + 9) = .ok (.athrow, 1)) && decide (t.2.2.1 = 0))
set_option maxRecDepth 100000 in
theorem ev_tok_all : ∀ t ∈ ev_th, ev_tok t = true := by decide +kernel
theorem ev_th2_ok {M pc ex : Nat} (h : ev_th2 M pc = some ex) : ∃ (ik is ic : Nat) (wd : Bool) (tx : String), (M, pc, ex, ik, is, ic, wd, tx) ∈ ev_th := by
  unfold ev_th2 at h
  cases hf : ev_th.find? (fun e => e.1 == M && e.2.1 == pc) with
  | none => rw [hf] at h; cases h
  | some e =>
    rw [hf] at h
    have h1 := List.find?_some hf
    have h2 := List.mem_of_find?_eq_some hf
    obtain ⟨a1, a2, a3, a4, a5, a6, a7, a8⟩ := e
    simp only [Option.map_some, Option.some.injEq] at h
    simp only [Bool.and_eq_true, beq_iff_eq] at h1
    rw [← h1.1, ← h1.2, ← h]
    exact ⟨_, _, _, _, _, h2⟩
section EVT
variable {p : Program} {l : Launch} {e : Env} {R : Room} {s : State} {m : MethodId} {args : Array Value} {below : List Frame} {meth : Method} {c : Code} {M L : Nat} {xs : Nat → Int32} {D : va_G} {cA : Nat → ClassId} {A : Nat → Prop} {ad : Nat → Nat} {o : Option Value ⊕ Nat} {μ1 : ev_H} {n0 mc ms : Nat}
theorem ev_thrown {Qc : Array Value → State → Outcome → State → Prop} (hst : l.stackTraces = false) (hx : p.tables.exec = Jvm.exec) (hb : c.code = ev_cd M) (hown : s.vm.findClass (ev_own (ev_ci M)) = some m.cls) (hts : ∀ w ∈ ev_gw, w.before args s = true) (hdp : ev_dp M ≤ R.frames) (hlc : ev_lc M ≤ R.locals) (htb : c.exceptionTable.toList = tableOf (ev_hh M)) (hlk : meth.locks = false) (hmc : R.cells ≤ mc) (hms : R.slots ≤ ms) :
    ev_Ht p l e R s m args below meth c (vx_MQ below Qc (ev_XC L xs D cA A ad n0 o μ1) args s mc ms A) M L xs D cA A ad n0 o μ1 := by
  intro ex ad' H' locs' cells' slots' pc' ls' ho hth hag hle hI hc hs hls hd8 hl130
  obtain ⟨ik, is, ic, wd, tx, hm⟩ := ev_th2_ok hth
  have hk := ev_tok_all _ hm
  unfold ev_tok at hk
  simp only [Bool.and_eq_true, decide_eq_true_eq] at hk
  obtain ⟨⟨⟨⟨k1, k2, k3, k4, k5, k6, k7⟩, d0⟩, d3⟩, hwd⟩ := hk
  subst ik; subst ic
  have hI0 := hI
  obtain ⟨i1, i2, hK, hP, hD, hS, hA, i8, i9⟩ := hI
  obtain ⟨sa, hsa⟩ := i9.2.1 _ hm
  have hown' : s.vm.findClass "LanternChess" = some m.cls := by
    rw [k1] at hown; exact hown
  have hsa' : vk_R "LanternChess" is tx sa s := by
    have h9 : vk_R (ev_own (ev_ci M)) is tx sa s := hsa
    rw [k1] at h9; exact h9
  have hno : ∀ q : Nat, ∀ x ∈ c.exceptionTable.toList, covers x q = false := fun q x hx => by
    rw [htb, k2] at hx
    cases hx
  have hXC : ∀ t : State, s.vm.Alike t.vm → H'.size ≤ t.heap.size → (∀ q : Nat, q < H'.size → t.heap[q]? = H'[q]?) → ev_XC L xs D cA A ad n0 o μ1 (ev_X.getD ex "") s t := fun t _ h1 h2 => by
    refine ⟨⟨ex, ad', ho, k5, rfl, hag, hle, i1, i2, hP.kept fun k q hq => h2 q.1 (hP k q hq).lt, hD⟩, Nat.le_trans hS.1 h1, fun q hq hn => ?_⟩
    rw [h2 q (Nat.lt_of_lt_of_le hq hS.1)]
    exact hS.2.1 q hq hn
  have hch : ∀ n ∈ ev_ch, Bundle.fit n = true := by decide +kernel
  have hr1 : ev_ch.length + 3 < R.frames := by
    have : ev_ch.length = 2 := rfl
    omega
  have hr2 : (([] : List Value).map fun v => v.category).sum + (13 * (ev_ch.length + 1) + 43) ≤ R.locals := by
    have : ev_ch.length = 2 := rfl
    simp only [List.map_nil, List.sum_nil]
    omega
  have hmc' : cells' + 1 ≤ mc := Nat.le_trans hc hmc
  have hms' : slots' + 6 ≤ ms := Nat.le_trans hs hms
  obtain ⟨-, -, -, -, -, -, hU, hN⟩ := i8
  have hex : ex = 0 ∨ ex = 1 ∨ ex = 2 ∨ ex = 3 := by
    have : ex < 4 := k5
    omega
  by_cases hw : wd = true
  · rw [if_pos hw] at hwd
    simp only [Bool.and_eq_true, decide_eq_true_eq] at hwd
    obtain ⟨⟨d4, d7⟩, d10⟩ := hwd
    rcases hex with rfl | rfl | rfl | rfl
    · exact vx_throwSW (own := "LanternChess") (cls := "java/lang/IllegalArgumentException") (names := ev_ch) (A := A) hx hb hst hown' (by decide +kernel) hch (hts _ (ev_gm ev_hk_0 rfl)) (hts _ (ev_ginit ev_hi_0 rfl)) hsa' (ev_hat_of (k := 0) hts i9 ev_hg_0 ev_hx_0) ev_ho_0 hU hN hS hls d0 d3 d4 d7 d10 (hno _) hr1 hr2 hc hs hlk hXC hS.2.2 hmc' hms'
    · exact vx_throwSW (own := "LanternChess") (cls := "java/lang/IndexOutOfBoundsException") (names := ev_ch) (A := A) hx hb hst hown' (by decide +kernel) hch (hts _ (ev_gm ev_hk_1 rfl)) (hts _ (ev_ginit ev_hi_1 rfl)) hsa' (ev_hat_of (k := 1) hts i9 ev_hg_1 ev_hx_1) ev_ho_1 hU hN hS hls d0 d3 d4 d7 d10 (hno _) hr1 hr2 hc hs hlk hXC hS.2.2 hmc' hms'
    · exact vx_throwSW (own := "LanternChess") (cls := "java/lang/IllegalStateException") (names := ev_ch) (A := A) hx hb hst hown' (by decide +kernel) hch (hts _ (ev_gm ev_hk_2 rfl)) (hts _ (ev_ginit ev_hi_2 rfl)) hsa' (ev_hat_of (k := 2) hts i9 ev_hg_2 ev_hx_2) ev_ho_2 hU hN hS hls d0 d3 d4 d7 d10 (hno _) hr1 hr2 hc hs hlk hXC hS.2.2 hmc' hms'
    · exact ev_throwX (own := "LanternChess") (cls := "java/util/NoSuchElementException") (names := ev_ch) (A := A) hx hb hst (ix := 13) (rx := prog_32_method_4_code) (by decide +kernel) (by decide +kernel) (by decide +kernel) (by decide +kernel) hown' (by decide +kernel) hch (hts _ (ev_gm ev_hk_3 rfl)) (hts _ (ev_ginit ev_hi_3 rfl)) hsa' (ev_hat_of (k := 3) hts i9 ev_hg_3 ev_hx_3) ev_ho_3 hU hN hS hls d0 d3 d4 d7 d10 (hno _) hr1 hr2 hc hs hlk hXC hS.2.2 hmc' hms'
  · rw [if_neg hw] at hwd
    simp only [Bool.and_eq_true, decide_eq_true_eq] at hwd
    obtain ⟨⟨⟨d4, d6⟩, d9⟩, he0⟩ := hwd
    subst ex
    exact vx_throwS (own := "LanternChess") (cls := "java/lang/IllegalArgumentException") (names := ev_ch) (A := A) hx hb hst hown' (by decide +kernel) hch (hts _ (ev_gm ev_hk_0 rfl)) (hts _ (ev_ginit ev_hi_0 rfl)) hsa' (ev_hat_of (k := 0) hts i9 ev_hg_0 ev_hx_0) ev_ho_0 hU hN hS hls d0 d3 d4 d6 d9 (hno _) hr1 hr2 hc hs hlk hXC hS.2.2 hmc' hms'
end EVT
