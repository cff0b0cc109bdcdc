/-! Memory as numbers: what stands at an address is fixed once it is made (its class or kind, its length, what it points to); numbers alone change. Steps as rules: what a program in numbers answers, the evaluator answers. -/
abbrev Mm : Type := Nat → Nat → Int32
def wa (m : Mm) (a : Nat) (f : Nat → Int32) : Mm := fun b => if b = a then f else m b
def wr (m : Mm) (a k : Nat) (x : Int32) : Mm := wa m a (upd (m a) k x)
def bi (b : Bool) : Int32 := match b with
  | true => 1
  | false => 0
abbrev ix (x : Int32) : Nat := x.toNatClampNeg
def wb {α β : Type} (x : α) (f : α → β) : β := f x
def sh_t : List (Nat × Nat × List Nat) := [(99, 6, []), (99, 6, []), (99, 0, []), (109, 4, []), (109, 5, []), (109, 5, []), (109, 4, []), (109, 5, []), (109, 5, []), (109, 4, []), (109, 5, []), (109, 4, []), (109, 6, []), (109, 6, []), (109, 4, []), (109, 5, []), (109, 3, []), (109, 4, []), (109, 4, []), (109, 4, []), (10, 0, [21, 23, 42, 61, 0, 80, 234, 237, 243, 248]), (8, 0, [22]), (101, 600, []), (3, 0, [24, 29, 34, 38, 40]), (0, 0, [25, 27]), (1, 0, [26]), (100, 64, []), (1, 0, [28]), (100, 64, []), (0, 0, [30, 32]), (1, 0, [31]), (100, 64, []), (1, 0, [33]), (100, 64, []), (2, 0, [35, 36, 37]), (100, 8, []), (100, 8, []), (100, 8, []), (5, 0, [39]), (100, 160, []), (5, 0, [41]), (100, 160, []), (3, 0, [43, 48, 53, 57, 59]), (0, 0, [44, 46]), (1, 0, [45]), (100, 64, []), (1, 0, [47]), (100, 64, []), (0, 0, [49, 51]), (1, 0, [50]), (100, 64, []), (1, 0, [52]), (100, 64, []), (2, 0, [54, 55, 56]), (100, 8, []), (100, 8, []), (100, 8, []), (5, 0, [58]), (100, 160, []), (5, 0, [60]), (100, 160, []), (3, 0, [62, 67, 72, 76, 78]), (0, 0, [63, 65]), (1, 0, [64]), (100, 64, []), (1, 0, [66]), (100, 64, []), (0, 0, [68, 70]), (1, 0, [69]), (100, 64, []), (1, 0, [71]), (100, 64, []), (2, 0, [73, 74, 75]), (100, 8, []), (100, 8, []), (100, 8, []), (5, 0, [77]), (100, 160, []), (5, 0, [79]), (100, 160, []), (4, 0, [81]), (103, 8, [82, 101, 120, 139, 158, 177, 196, 215]), (3, 0, [83, 88, 93, 97, 99]), (0, 0, [84, 86]), (1, 0, [85]), (100, 64, []), (1, 0, [87]), (100, 64, []), (0, 0, [89, 91]), (1, 0, [90]), (100, 64, []), (1, 0, [92]), (100, 64, []), (2, 0, [94, 95, 96]), (100, 8, []), (100, 8, []), (100, 8, []), (5, 0, [98]), (100, 160, []), (5, 0, [100]), (100, 160, []), (3, 0, [102, 107, 112, 116, 118]), (0, 0, [103, 105]), (1, 0, [104]), (100, 64, []), (1, 0, [106]), (100, 64, []), (0, 0, [108, 110]), (1, 0, [109]), (100, 64, []), (1, 0, [111]), (100, 64, []), (2, 0, [113, 114, 115]), (100, 8, []), (100, 8, []), (100, 8, []), (5, 0, [117]), (100, 160, []), (5, 0, [119]), (100, 160, []), (3, 0, [121, 126, 131, 135, 137]), (0, 0, [122, 124]), (1, 0, [123]), (100, 64, []), (1, 0, [125]), (100, 64, []), (0, 0, [127, 129]), (1, 0, [128]), (100, 64, []), (1, 0, [130]), (100, 64, []), (2, 0, [132, 133, 134]), (100, 8, []), (100, 8, []), (100, 8, []), (5, 0, [136]), (100, 160, []), (5, 0, [138]), (100, 160, []), (3, 0, [140, 145, 150, 154, 156]), (0, 0, [141, 143]), (1, 0, [142]), (100, 64, []), (1, 0, [144]), (100, 64, []), (0, 0, [146, 148]), (1, 0, [147]), (100, 64, []), (1, 0, [149]), (100, 64, []), (2, 0, [151, 152, 153]), (100, 8, []), (100, 8, []), (100, 8, []), (5, 0, [155]), (100, 160, []), (5, 0, [157]), (100, 160, []), (3, 0, [159, 164, 169, 173, 175]), (0, 0, [160, 162]), (1, 0, [161]), (100, 64, []), (1, 0, [163]), (100, 64, []), (0, 0, [165, 167]), (1, 0, [166]), (100, 64, []), (1, 0, [168]), (100, 64, []), (2, 0, [170, 171, 172]), (100, 8, []), (100, 8, []), (100, 8, []), (5, 0, [174]), (100, 160, []), (5, 0, [176]), (100, 160, []), (3, 0, [178, 183, 188, 192, 194]), (0, 0, [179, 181]), (1, 0, [180]), (100, 64, []), (1, 0, [182]), (100, 64, []), (0, 0, [184, 186]), (1, 0, [185]), (100, 64, []), (1, 0, [187]), (100, 64, []), (2, 0, [189, 190, 191]), (100, 8, []), (100, 8, []), (100, 8, []), (5, 0, [193]), (100, 160, []), (5, 0, [195]), (100, 160, []), (3, 0, [197, 202, 207, 211, 213]), (0, 0, [198, 200]), (1, 0, [199]), (100, 64, []), (1, 0, [201]), (100, 64, []), (0, 0, [203, 205]), (1, 0, [204]), (100, 64, []), (1, 0, [206]), (100, 64, []), (2, 0, [208, 209, 210]), (100, 8, []), (100, 8, []), (100, 8, []), (5, 0, [212]), (100, 160, []), (5, 0, [214]), (100, 160, []), (3, 0, [216, 221, 226, 230, 232]), (0, 0, [217, 219]), (1, 0, [218]), (100, 64, []), (1, 0, [220]), (100, 64, []), (0, 0, [222, 224]), (1, 0, [223]), (100, 64, []), (1, 0, [225]), (100, 64, []), (2, 0, [227, 228, 229]), (100, 8, []), (100, 8, []), (100, 8, []), (5, 0, [231]), (100, 160, []), (5, 0, [233]), (100, 160, []), (7, 0, [235, 236]), (100, 6, []), (100, 6, []), (6, 0, [238, 239, 240, 241]), (100, 837, []), (100, 837, []), (100, 837, []), (1, 0, [242]), (100, 64, []), (9, 0, [244, 246, 247]), (1, 0, [245]), (100, 64, []), (100, 64, []), (100, 64, []), (101, 279, []), (100, 2, []), (100, 2, []), (100, 2, []), (100, 2, [])]
def sh_g (a : Nat) : Nat × Nat × List Nat := sh_t.getD a (77, 0, [])
def sh_c (a : Nat) : Nat := (sh_g a).1
def sh_n (a : Nat) : Nat := (sh_g a).2.1
def sh_r (a k : Nat) : Nat := (sh_g a).2.2.getD k 0
def sh_f (c : Nat) : List Bool := ([[true, true, false, false, false, false], [true, false, false], [true, true, true, false], [true, true, true, true, true, false, false, false, false, false, false, false, false], [true, false, false], [true, false, false], [true, true, true, true, false], [true, true, false, false, false, false, false, false], [true, false, false, false, false, false, false, false, false, false], [true, true, true, false], [true, true, true, true, false, true, true, true, true, true, false], [true, false, false]] : List (List Bool)).getD c []
def sh_v (c a : Nat) (f : Nat → Int32) (k : Nat) : Value := if (sh_f c).getD k false = true then .ref (sh_r a k) else .int (f k)
def sh_o (c a : Nat) (f : Nat → Int32) : List Value := (List.range (sh_f c).length).map (sh_v c a f)
def cel (L nx a : Nat) (f : Nat → Int32) : Option ev_E :=
  if a < nx then
    (if sh_c a < 15 then some (ev_ob (sh_c a) (sh_o (sh_c a) a f))
    else if sh_c a = 99 then some (ev_ia 0 (if a = 2 then L else sh_n a) f)
    else if sh_c a = 100 then some (ev_ia 0 (sh_n a) f)
    else if sh_c a = 101 then some (ev_ia 1 (sh_n a) f)
    else if sh_c a = 102 then some (ev_la (sh_n a) (fun i => (f i).toInt64))
    else if sh_c a = 103 then some (ev_ra (sh_n a) (fun i => if i < sh_n a then some (sh_r a i) else none))
    else if sh_c a = 109 then some (ev_ia 9 (sh_n a) f)
    else none)
  else none
def mem (L nx : Nat) (m : Mm) : Nat → Option ev_E := fun a => cel L nx a (m a)
abbrev ok (nx a c : Nat) : Prop := sh_c a = c ∧ a < nx
abbrev okn (nx : Nat) : Prop := 249 ≤ nx ∧ nx ≤ 253
theorem sh_out (a : Nat) (h : 253 ≤ a) : sh_c a = 77 := by
  have e : sh_t[a]? = none := List.getElem?_eq_none (Nat.le_trans (by decide +kernel) h)
  unfold sh_c sh_g
  rw [List.getD_eq_getElem?_getD, e]; rfl
theorem sh_lo1 : ∀ a, a < 253 → sh_c a < 15 ∨ (100 ≤ sh_c a ∧ sh_c a ≤ 103) → 20 ≤ a := by decide +kernel
theorem sh_lo {a : Nat} (h : sh_c a < 15 ∨ (100 ≤ sh_c a ∧ sh_c a ≤ 103)) : 20 ≤ a := by
  by_cases h1 : a < 253
  · exact sh_lo1 a h1 h
  · rw [sh_out a (Nat.not_lt.mp h1)] at h; omega
def sh_k (c : Nat) : List Nat := ([[1, 1, 88, 88, 88, 88], [100, 88, 88], [100, 100, 100, 88], [0, 0, 2, 5, 5, 88, 88, 88, 88, 88, 88, 88, 88], [103, 88, 88], [100, 88, 88], [100, 100, 100, 1, 88], [100, 100, 88, 88, 88, 88, 88, 88], [101, 88, 88, 88, 88, 88, 88, 88, 88, 88], [1, 100, 100, 88], [8, 3, 3, 3, 88, 4, 7, 6, 9, 101, 88], [100, 88, 88]] : List (List Nat)).getD c []
theorem o_all : ∀ a, a < 253 → ∀ j, j < (sh_k (sh_c a)).length → (sh_k (sh_c a)).getD j 88 = 88 ∨ (sh_c (sh_r a j) = (sh_k (sh_c a)).getD j 88 ∧ sh_r a j < 249) := by decide +kernel
theorem o_g {nx a c : Nat} (hN : okn nx) (h : ok nx a c) (j t : Nat) (ht : ((sh_k c).getD j 88 = t ∧ t ≠ 88) ∧ j < (sh_k c).length) : ok nx (sh_r a j) t := by
  have h1 : a < 253 := by have := h.2; have := hN.2; omega
  obtain ⟨e, h2⟩ := h
  subst e
  obtain ⟨⟨rfl, h4⟩, h5⟩ := ht
  rcases o_all a h1 j h5 with q | ⟨q1, q2⟩
  · exact absurd q h4
  · exact ⟨q1, Nat.lt_of_lt_of_le q2 hN.1⟩
theorem o_0_0 {nx a : Nat} (hN : okn nx) (h : ok nx a 0) : ok nx (sh_r a 0) 1 := o_g hN h 0 1 (by decide +kernel)
theorem o_0_1 {nx a : Nat} (hN : okn nx) (h : ok nx a 0) : ok nx (sh_r a 1) 1 := o_g hN h 1 1 (by decide +kernel)
theorem o_1_0 {nx a : Nat} (hN : okn nx) (h : ok nx a 1) : ok nx (sh_r a 0) 100 := o_g hN h 0 100 (by decide +kernel)
theorem o_2_0 {nx a : Nat} (hN : okn nx) (h : ok nx a 2) : ok nx (sh_r a 0) 100 := o_g hN h 0 100 (by decide +kernel)
theorem o_2_1 {nx a : Nat} (hN : okn nx) (h : ok nx a 2) : ok nx (sh_r a 1) 100 := o_g hN h 1 100 (by decide +kernel)
theorem o_2_2 {nx a : Nat} (hN : okn nx) (h : ok nx a 2) : ok nx (sh_r a 2) 100 := o_g hN h 2 100 (by decide +kernel)
theorem o_3_0 {nx a : Nat} (hN : okn nx) (h : ok nx a 3) : ok nx (sh_r a 0) 0 := o_g hN h 0 0 (by decide +kernel)
theorem o_3_1 {nx a : Nat} (hN : okn nx) (h : ok nx a 3) : ok nx (sh_r a 1) 0 := o_g hN h 1 0 (by decide +kernel)
theorem o_3_2 {nx a : Nat} (hN : okn nx) (h : ok nx a 3) : ok nx (sh_r a 2) 2 := o_g hN h 2 2 (by decide +kernel)
theorem o_3_3 {nx a : Nat} (hN : okn nx) (h : ok nx a 3) : ok nx (sh_r a 3) 5 := o_g hN h 3 5 (by decide +kernel)
theorem o_3_4 {nx a : Nat} (hN : okn nx) (h : ok nx a 3) : ok nx (sh_r a 4) 5 := o_g hN h 4 5 (by decide +kernel)
theorem o_4_0 {nx a : Nat} (hN : okn nx) (h : ok nx a 4) : ok nx (sh_r a 0) 103 := o_g hN h 0 103 (by decide +kernel)
theorem o_5_0 {nx a : Nat} (hN : okn nx) (h : ok nx a 5) : ok nx (sh_r a 0) 100 := o_g hN h 0 100 (by decide +kernel)
theorem o_6_0 {nx a : Nat} (hN : okn nx) (h : ok nx a 6) : ok nx (sh_r a 0) 100 := o_g hN h 0 100 (by decide +kernel)
theorem o_6_1 {nx a : Nat} (hN : okn nx) (h : ok nx a 6) : ok nx (sh_r a 1) 100 := o_g hN h 1 100 (by decide +kernel)
theorem o_6_2 {nx a : Nat} (hN : okn nx) (h : ok nx a 6) : ok nx (sh_r a 2) 100 := o_g hN h 2 100 (by decide +kernel)
theorem o_6_3 {nx a : Nat} (hN : okn nx) (h : ok nx a 6) : ok nx (sh_r a 3) 1 := o_g hN h 3 1 (by decide +kernel)
theorem o_7_0 {nx a : Nat} (hN : okn nx) (h : ok nx a 7) : ok nx (sh_r a 0) 100 := o_g hN h 0 100 (by decide +kernel)
theorem o_7_1 {nx a : Nat} (hN : okn nx) (h : ok nx a 7) : ok nx (sh_r a 1) 100 := o_g hN h 1 100 (by decide +kernel)
theorem o_8_0 {nx a : Nat} (hN : okn nx) (h : ok nx a 8) : ok nx (sh_r a 0) 101 := o_g hN h 0 101 (by decide +kernel)
theorem o_9_0 {nx a : Nat} (hN : okn nx) (h : ok nx a 9) : ok nx (sh_r a 0) 1 := o_g hN h 0 1 (by decide +kernel)
theorem o_9_1 {nx a : Nat} (hN : okn nx) (h : ok nx a 9) : ok nx (sh_r a 1) 100 := o_g hN h 1 100 (by decide +kernel)
theorem o_9_2 {nx a : Nat} (hN : okn nx) (h : ok nx a 9) : ok nx (sh_r a 2) 100 := o_g hN h 2 100 (by decide +kernel)
theorem o_10_0 {nx a : Nat} (hN : okn nx) (h : ok nx a 10) : ok nx (sh_r a 0) 8 := o_g hN h 0 8 (by decide +kernel)
theorem o_10_1 {nx a : Nat} (hN : okn nx) (h : ok nx a 10) : ok nx (sh_r a 1) 3 := o_g hN h 1 3 (by decide +kernel)
theorem o_10_2 {nx a : Nat} (hN : okn nx) (h : ok nx a 10) : ok nx (sh_r a 2) 3 := o_g hN h 2 3 (by decide +kernel)
theorem o_10_3 {nx a : Nat} (hN : okn nx) (h : ok nx a 10) : ok nx (sh_r a 3) 3 := o_g hN h 3 3 (by decide +kernel)
theorem o_10_5 {nx a : Nat} (hN : okn nx) (h : ok nx a 10) : ok nx (sh_r a 5) 4 := o_g hN h 5 4 (by decide +kernel)
theorem o_10_6 {nx a : Nat} (hN : okn nx) (h : ok nx a 10) : ok nx (sh_r a 6) 7 := o_g hN h 6 7 (by decide +kernel)
theorem o_10_7 {nx a : Nat} (hN : okn nx) (h : ok nx a 10) : ok nx (sh_r a 7) 6 := o_g hN h 7 6 (by decide +kernel)
theorem o_10_8 {nx a : Nat} (hN : okn nx) (h : ok nx a 10) : ok nx (sh_r a 8) 9 := o_g hN h 8 9 (by decide +kernel)
theorem o_10_9 {nx a : Nat} (hN : okn nx) (h : ok nx a 10) : ok nx (sh_r a 9) 101 := o_g hN h 9 101 (by decide +kernel)
theorem o_11_0 {nx a : Nat} (hN : okn nx) (h : ok nx a 11) : ok nx (sh_r a 0) 100 := o_g hN h 0 100 (by decide +kernel)
theorem o_el {nx k : Nat} (hN : okn nx) (hk : k < 8) : ok nx (sh_r 81 k) 3 := by
  have key : ∀ k, k < 8 → sh_c (sh_r 81 k) = 3 ∧ sh_r 81 k < 249 := by decide +kernel
  exact ⟨(key k hk).1, Nat.lt_of_lt_of_le (key k hk).2 hN.1⟩
theorem o_lo {nx a c : Nat} (hN : okn nx) (h : sh_c a = c ∧ a < 249) : ok nx a c := ⟨h.1, Nat.lt_of_lt_of_le h.2 hN.1⟩
theorem sh_ra1 : ∀ a, a < 253 → sh_c a = 103 → a = 81 := by decide +kernel
theorem o_ge {nx a k : Nat} (hN : okn nx) (h : ok nx a 103) (hk : k < sh_n a) : ok nx (sh_r a k) 3 := by
  have h1 : a < 253 := by have := h.2; have := hN.2; omega
  have e := sh_ra1 a h1 h.1
  subst e
  exact o_el hN hk
theorem cel_ob {L nx a c : Nat} {f : Nat → Int32} (h : ok nx a c) (hc : c < 15) : cel L nx a f = some (ev_ob c (sh_o c a f)) := by
  obtain ⟨rfl, h2⟩ := h
  unfold cel
  rw [if_pos h2, if_pos hc]
theorem cel_ia {L nx a : Nat} {f : Nat → Int32} (h : ok nx a 100) : cel L nx a f = some (ev_ia 0 (sh_n a) f) := by
  unfold cel
  rw [if_pos h.2, h.1]; rfl
theorem cel_ba {L nx a : Nat} {f : Nat → Int32} (h : ok nx a 101) : cel L nx a f = some (ev_ia 1 (sh_n a) f) := by
  unfold cel
  rw [if_pos h.2, h.1]; rfl
theorem cel_la {L nx a : Nat} {f : Nat → Int32} (h : ok nx a 102) : cel L nx a f = some (ev_la (sh_n a) (fun i => (f i).toInt64)) := by
  unfold cel
  rw [if_pos h.2, h.1]; rfl
theorem cel_ra {L nx a : Nat} {f : Nat → Int32} (h : ok nx a 103) : cel L nx a f = some (ev_ra (sh_n a) (fun i => if i < sh_n a then some (sh_r a i) else none)) := by
  unfold cel
  rw [if_pos h.2, h.1]; rfl
theorem cel_tx {L nx a : Nat} {f : Nat → Int32} (h : ok nx a 109) : cel L nx a f = some (ev_ia 9 (sh_n a) f) := by
  unfold cel
  rw [if_pos h.2, h.1]; rfl
theorem cel_sa {L nx a : Nat} {f : Nat → Int32} (h : ok nx a 99) : cel L nx a f = some (ev_ia 0 (if a = 2 then L else sh_n a) f) := by
  unfold cel
  rw [if_pos h.2, h.1]; rfl
theorem mem_up {L nx a : Nat} {m : Mm} {f : Nat → Int32} {e : ev_E} (h : cel L nx a f = some e) : ev_up (mem L nx m) a e = mem L nx (wa m a f) := by
  funext j
  unfold ev_up mem wa
  by_cases hj : j = a
  · subst hj; rw [if_pos rfl, if_pos rfl, h]
  · rw [if_neg hj, if_neg hj]
theorem sh_o_set {c a k : Nat} {f : Nat → Int32} {x : Int32} (hk : (sh_f c).getD k false = false) : (sh_o c a f).set k (.int x) = sh_o c a (upd f k x) := by
  unfold sh_o
  refine List.ext_getElem (by simp) ?_
  intro i h1 h2
  have h3 : i < (sh_f c).length := by simpa using h2
  simp only [List.getElem_set, List.getElem_map, List.getElem_range]
  by_cases hi : k = i
  · subst hi
    rw [if_pos rfl]
    unfold sh_v
    rw [hk, if_neg Bool.false_ne_true]
    unfold upd
    rw [if_pos rfl]
  · rw [if_neg hi]
    unfold sh_v upd
    rw [show (if i = k then x else f i) = f i from if_neg (fun q => hi q.symm)]
theorem sh_o_get {c a k : Nat} {f : Nat → Int32} (h : k < (sh_f c).length) : (sh_o c a f)[k]? = some (sh_v c a f k) := by
  unfold sh_o
  rw [List.getElem?_map, List.getElem?_range h]; rfl
theorem sh_o_len {c a : Nat} {f : Nat → Int32} : (sh_o c a f).length = (sh_f c).length := by
  unfold sh_o
  rw [List.length_map, List.length_range]
/-! instructions -/
def ev_at (M : Nat) : Nat → List (Instr × Nat) → Bool
  | _, [] => true
  | pc, (i, n) :: r => decide (ev_f M pc = some (i, n)) && (ev_th2 M pc).isNone && ev_at M (pc + n) r
def ev_tot : List (Instr × Nat) → Nat
  | [] => 0
  | (_, n) :: r => n + ev_tot r
def ev_p1 (i : Instr) (n : Nat) (lo : ev_L) (st : List Value) : Option (ev_L × List Value) := match ev_pu i n st with
  | some st' => some (lo, st')
  | none => match ev_ld i n lo with
    | some v => some (lo, v :: st)
    | none => ev_so i n lo st
def ev_bl : List (Instr × Nat) → ev_L → List Value → Option (ev_L × List Value)
  | [], lo, st => some (lo, st)
  | (i, n) :: r, lo, st => match ev_p1 i n lo st with
    | some q => ev_bl r q.1 q.2
    | none => none
def sw (x : Int) (d : Nat) : List (Int × Nat) → Nat
  | [] => d
  | (k, t) :: r => if x = k then t else sw x d r
def tl (lo : Int) : List Nat → List (Int × Nat)
  | [] => []
  | t :: r => (lo, t) :: tl (lo + 1) r
theorem sw_tl (x : Int) (d : Nat) : ∀ (ts : List Nat) (lo : Int), sw x d (tl lo ts) = if x < lo ∨ lo + ts.length ≤ x then d else ts.getD (x - lo).toNat d := by
  intro ts
  induction ts with
  | nil =>
    intro lo
    have h : x < lo ∨ lo + (([] : List Nat).length : Int) ≤ x := by simp only [List.length_nil]; omega
    rw [if_pos h]; rfl
  | cons t r ih =>
    intro lo
    unfold tl sw
    rw [ih]
    by_cases h0 : x = lo
    · subst h0
      rw [if_pos rfl, if_neg (by simp only [List.length_cons]; omega), Int.sub_self]; rfl
    · rw [if_neg h0]
      by_cases h1 : x < lo + 1 ∨ lo + 1 + (r.length : Int) ≤ x
      · rw [if_pos h1, if_pos (by simp only [List.length_cons]; omega)]
      · rw [if_neg h1, if_neg (by simp only [List.length_cons]; omega)]
        have e : (x - lo).toNat = (x - (lo + 1)).toNat + 1 := by omega
        rw [e]; rfl
section RUL
variable {b z M pc n : Nat} {i : Instr} {lo lo' : ev_L} {st st' : List Value} {μ : ev_H} {a : Nat} {v : Value} {x y : Int32} {L nx : Nat} {m : Mm} {α : Type} {q : Option α} {K : α → ev_Q → Prop}
def Im {α : Type} (q : Option α) (K : α → ev_Q → Prop) (e : ev_Q) : Prop := ∀ r, q = some r → K r e
theorem i_st {e e' : ev_Q} (h : e = e') (k : Im q K e') : Im q K e := h ▸ k
theorem i_no {e : ev_Q} : Im (none : Option α) K e := fun _ h => nomatch h
theorem at1 (h : ev_at M pc [(i, n)] = true) : ev_F1 M pc i n := by
  unfold ev_at at h
  simp only [Bool.and_eq_true, decide_eq_true_eq] at h
  exact ⟨h.1.1, Option.isNone_iff_eq_none.mp h.1.2⟩
theorem ev_ld_br (h : ev_ld i n lo = some v) : ev_br i n pc st = none := by
  unfold ev_ld at h
  dsimp only at h
  split at h <;> first | rfl | cases h
theorem ev_so_br {r : ev_L × List Value} (h : ev_so i n lo st = some r) : ev_br i n pc st = none := by
  unfold ev_so at h
  split at h <;> first | rfl | cases h
theorem ev_p1_ok {r : ev_L × List Value} (hf : ev_F1 M pc i n) (h : ev_p1 i n lo st = some r) : ev_dn b z M pc lo st μ = ev_dn b z M (pc + n) r.1 r.2 μ := by
  unfold ev_p1 at h
  cases h1 : ev_pu i n st with
  | some s => rw [h1] at h; cases h; exact n_pu hf h1
  | none =>
    rw [h1] at h
    dsimp only at h
    cases h2 : ev_ld i n lo with
    | some v => rw [h2] at h; cases h; exact n_ld hf h1 (ev_ld_br h2) h2
    | none => rw [h2] at h; exact n_so hf h1 (ev_so_br h) h2 h
theorem ev_bl_ok : ∀ (blk : List (Instr × Nat)) (pc : Nat) (lo : ev_L) (st : List Value) (r : ev_L × List Value), ev_at M pc blk = true → ev_bl blk lo st = some r → ev_dn b z M pc lo st μ = ev_dn b z M (pc + ev_tot blk) r.1 r.2 μ := by
  intro blk
  induction blk with
  | nil => intro pc lo st r _ h; cases h; rfl
  | cons e t ih =>
    obtain ⟨i, n⟩ := e
    intro pc lo st r h1 h2
    have h3 : ev_F1 M pc i n ∧ ev_at M (pc + n) t = true := by
      unfold ev_at at h1
      simp only [Bool.and_eq_true, decide_eq_true_eq] at h1
      exact ⟨⟨h1.1.1, Option.isNone_iff_eq_none.mp h1.1.2⟩, h1.2⟩
    unfold ev_bl at h2
    cases h4 : ev_p1 i n lo st with
    | none => rw [h4] at h2; cases h2
    | some w =>
      rw [h4] at h2
      rw [ev_p1_ok h3.1 h4, ih _ _ _ _ h3.2 h2]
      show ev_dn b z M (pc + n + ev_tot t) _ _ _ = ev_dn b z M (pc + (n + ev_tot t)) _ _ _
      rw [Nat.add_assoc]
theorem i_bl {pc' : Nat} (blk : List (Instr × Nat)) (lo' : ev_L) (st' : List Value) (hd : ev_at M pc blk = true ∧ pc + ev_tot blk = pc') (he : ev_bl blk lo st = some (lo', st')) (k : Im q K (ev_dn b z M pc' lo' st' μ)) : Im q K (ev_dn b z M pc lo st μ) := by
  refine i_st (ev_bl_ok blk pc lo st _ hd.1 he) ?_
  rw [hd.2]; exact k
theorem i_if {q2 : Option α} {t pc' : Nat} {off : Int} {p : Prop} [Decidable p] {c : ClassFile.Cond} (hd : ev_at M pc [(.ifCond c off, 3)] = true ∧ ev_tg pc off = some t ∧ pc + 3 = pc') (hc : ev_c1 c x = decide p) (k1 : Im q K (ev_dn b z M t lo st μ)) (k2 : Im q2 K (ev_dn b z M pc' lo st μ)) : Im (if p then q else q2) K (ev_dn b z M pc lo (.int x :: st) μ) := by
  refine i_st (n_if (at1 hd.1) hd.2.1 hc) ?_
  rw [hd.2.2]
  by_cases hp : p
  · rw [if_pos hp, if_pos hp]; exact k1
  · rw [if_neg hp, if_neg hp]; exact k2
theorem i_ic {q2 : Option α} {t pc' : Nat} {off : Int} {p : Prop} [Decidable p] {c : ClassFile.Cond} (hd : ev_at M pc [(.if_icmp c off, 3)] = true ∧ ev_tg pc off = some t ∧ pc + 3 = pc') (hc : ev_c2 c x y = decide p) (k1 : Im q K (ev_dn b z M t lo st μ)) (k2 : Im q2 K (ev_dn b z M pc' lo st μ)) : Im (if p then q else q2) K (ev_dn b z M pc lo (.int y :: .int x :: st) μ) := by
  refine i_st (n_ic (at1 hd.1) hd.2.1 hc) ?_
  rw [hd.2.2]
  by_cases hp : p
  · rw [if_pos hp, if_pos hp]; exact k1
  · rw [if_neg hp, if_neg hp]; exact k2
/-- a jump over a truth value: to t where it is false (ifeq) -/
theorem i_bz {B : Bool} {q2 : Option α} {t pc' : Nat} {off : Int} (hd : ev_at M pc [(.ifCond .eq off, 3)] = true ∧ ev_tg pc off = some t ∧ pc + 3 = pc') (k1 : Im q K (ev_dn b z M pc' lo st μ)) (k2 : Im q2 K (ev_dn b z M t lo st μ)) : Im (if B = true then q else q2) K (ev_dn b z M pc lo (.int (bi B) :: st) μ) := by
  have e : ev_c1 .eq (bi B) = decide (B = false) := by cases B <;> rfl
  refine i_st (n_if (p := B = false) (at1 hd.1) hd.2.1 e) ?_
  rw [hd.2.2]
  cases B
  · rw [if_pos rfl, if_neg Bool.false_ne_true]; exact k2
  · rw [if_pos rfl, if_neg (by decide)]; exact k1
theorem i_bn {B : Bool} {q2 : Option α} {t pc' : Nat} {off : Int} (hd : ev_at M pc [(.ifCond .ne off, 3)] = true ∧ ev_tg pc off = some t ∧ pc + 3 = pc') (k1 : Im q K (ev_dn b z M t lo st μ)) (k2 : Im q2 K (ev_dn b z M pc' lo st μ)) : Im (if B = true then q else q2) K (ev_dn b z M pc lo (.int (bi B) :: st) μ) := by
  have e : ev_c1 .ne (bi B) = decide (B = true) := by cases B <;> rfl
  refine i_st (n_if (p := B = true) (at1 hd.1) hd.2.1 e) ?_
  rw [hd.2.2]
  cases B
  · rw [if_neg Bool.false_ne_true, if_neg Bool.false_ne_true]; exact k2
  · rw [if_pos rfl, if_pos rfl]; exact k1
theorem i_go {t : Nat} {off : Int} (hd : ev_at M pc [(.goto off, 3)] = true ∧ ev_tg pc off = some t) (k : Im q K (ev_dn b z M t lo st μ)) : Im q K (ev_dn b z M pc lo st μ) := i_st (n_go (at1 hd.1) hd.2) k
theorem i_nn {pc' : Nat} {off : Int} (hd : ev_at M pc [(.ifnull off, 3)] = true ∧ pc + 3 = pc') (k : Im q K (ev_dn b z M pc' lo st μ)) : Im q K (ev_dn b z M pc lo (.ref a :: st) μ) := by
  refine i_st (n_nn (at1 hd.1)) ?_
  rw [hd.2]; exact k
theorem i_div {pc' : Nat} (hd : ev_at M pc [(.idiv, 1)] = true ∧ pc + 1 = pc') (k : Im q K (ev_dn b z M pc' lo (.int (x / y) :: st) μ)) : Im (if y = 0 then none else q) K (ev_dn b z M pc lo (.int y :: .int x :: st) μ) := by
  refine i_st (n_div (at1 hd.1)) ?_
  rw [hd.2]
  by_cases h : y = 0
  · rw [if_pos h]; exact i_no
  · rw [if_neg h, if_neg h]; exact k
theorem i_rem {pc' : Nat} (hd : ev_at M pc [(.irem, 1)] = true ∧ pc + 1 = pc') (k : Im q K (ev_dn b z M pc' lo (.int (x - x / y * y) :: st) μ)) : Im (if y = 0 then none else q) K (ev_dn b z M pc lo (.int y :: .int x :: st) μ) := by
  refine i_st (n_rem (at1 hd.1)) ?_
  rw [hd.2]
  by_cases h : y = 0
  · rw [if_pos h]; exact i_no
  · rw [if_neg h, if_neg h]; exact k
theorem i_sw {d : Nat} {ts : List Nat} {cs : List (Int × Nat)} {lo0 hi0 : Int} {dd : Int} {offs : Array Int} (hd : ev_at M pc [(.tableswitch dd lo0 hi0 offs, n)] = true ∧ offs.toList.map (ev_tg pc) = ts.map some ∧ ev_tg pc dd = some d ∧ lo0 + ts.length = hi0 + 1 ∧ tl lo0 ts = cs) (k : Im q K (ev_dn b z M (sw x.toInt d cs) lo st μ)) : Im q K (ev_dn b z M pc lo (.int x :: st) μ) := by
  refine i_st (n_br (at1 hd.1) rfl (?_ : ev_br _ _ _ _ = some (sw x.toInt d cs, st))) k
  obtain ⟨-, h2, h3, h4, rfl⟩ := hd
  have hlen : offs.toList.length = ts.length := by
    have := congrArg List.length h2
    simpa using this
  unfold ev_br
  dsimp only
  rw [sw_tl]
  by_cases h : x.toInt < lo0 ∨ hi0 < x.toInt
  · rw [if_pos h, if_pos (by omega), h3]; rfl
  · rw [if_neg h, if_neg (by omega)]
    have hj : (x.toInt - lo0).toNat < ts.length := by omega
    have h5 := congrArg (fun l => l[(x.toInt - lo0).toNat]?) h2
    simp only [List.getElem?_map, List.getElem?_eq_getElem hj, Option.map_some] at h5
    have hj2 : (x.toInt - lo0).toNat < offs.size := by rw [← Array.length_toList, hlen]; exact hj
    rw [List.getElem?_eq_getElem (by rw [hlen]; exact hj), Option.map_some] at h5
    rw [Array.getElem?_eq_getElem hj2]
    dsimp only
    have h6 := Option.some.inj h5
    rw [Array.getElem_toList] at h6
    rw [h6, List.getD_eq_getElem?_getD, List.getElem?_eq_getElem hj]; rfl
theorem sw_lk (pc : Nat) (x : Int) (d : Nat) : ∀ (ps : List (Int × Int)) (cs : List (Int × Nat)) (dd : Int), ps.map (fun e => (e.1, ev_tg pc e.2)) = cs.map (fun e => (e.1, some e.2)) → ev_tg pc dd = some d → ev_tg pc (Op.lookupswitch.offset ps dd x) = some (sw x d cs) := by
  intro ps
  induction ps with
  | nil =>
    intro cs dd h1 h2
    cases cs with
    | nil => exact h2
    | cons _ _ => cases h1
  | cons p r ih =>
    intro cs dd h1 h2
    cases cs with
    | nil => cases h1
    | cons c s =>
      obtain ⟨p1, p2⟩ := p
      obtain ⟨c1, c2⟩ := c
      simp only [List.map_cons, List.cons.injEq, Prod.mk.injEq] at h1
      obtain ⟨⟨e1, e2⟩, e3⟩ := h1
      subst e1
      unfold sw
      rw [Op.lookupswitch.offset_cons]
      by_cases h : x = p1
      · rw [if_pos h.symm, if_pos h]; exact e2
      · rw [if_neg (fun q => h q.symm), if_neg h]; exact ih s dd e3 h2
theorem i_lk {d : Nat} {cs : List (Int × Nat)} {dd : Int} {ps : Array (Int × Int)} (hd : ev_at M pc [(.lookupswitch dd ps, n)] = true ∧ (ps.toList.zip (ps.toList.drop 1)).all (fun (a, next) => a.1 < next.1) = true ∧ ps.toList.map (fun e => (e.1, ev_tg pc e.2)) = cs.map (fun e => (e.1, some e.2)) ∧ ev_tg pc dd = some d) (k : Im q K (ev_dn b z M (sw x.toInt d cs) lo st μ)) : Im q K (ev_dn b z M pc lo (.int x :: st) μ) := by
  refine i_st (n_br (at1 hd.1) rfl (?_ : ev_br _ _ _ _ = some (sw x.toInt d cs, st))) k
  unfold ev_br
  dsimp only
  rw [if_pos hd.2.1, sw_lk pc x.toInt d ps.toList cs dd hd.2.2.1 hd.2.2.2]; rfl
theorem i_sc {c : Int32} {ci : Int} {t d : Nat} {r : List (Int × Nat)} {q2 : Option α} (hc : c.toInt = ci) (k1 : Im q K (ev_dn b z M t lo st μ)) (k2 : Im q2 K (ev_dn b z M (sw x.toInt d r) lo st μ)) : Im (if x = c then q else q2) K (ev_dn b z M (sw x.toInt d ((ci, t) :: r)) lo st μ) := by
  unfold sw
  by_cases h : x = c
  · subst h; rw [if_pos rfl, if_pos hc]; exact k1
  · rw [if_neg h, if_neg (fun w => h (Int32.toInt_inj.mp (w.trans hc.symm)))]; exact k2
theorem i_s0 {xi : Int} {d : Nat} (k : Im q K (ev_dn b z M d lo st μ)) : Im q K (ev_dn b z M (sw xi d []) lo st μ) := k
theorem i_div0 {pc' : Nat} (hd : ev_at M pc [(.idiv, 1)] = true ∧ pc + 1 = pc') (hy : ¬ y = 0) (k : Im q K (ev_dn b z M pc' lo (.int (x / y) :: st) μ)) : Im q K (ev_dn b z M pc lo (.int y :: .int x :: st) μ) := by
  refine i_st (n_div (at1 hd.1)) ?_
  rw [hd.2, if_neg hy]; exact k
theorem i_rem0 {pc' : Nat} (hd : ev_at M pc [(.irem, 1)] = true ∧ pc + 1 = pc') (hy : ¬ y = 0) (k : Im q K (ev_dn b z M pc' lo (.int (x - x / y * y) :: st) μ)) : Im q K (ev_dn b z M pc lo (.int y :: .int x :: st) μ) := by
  refine i_st (n_rem (at1 hd.1)) ?_
  rw [hd.2, if_neg hy]; exact k
/-! memory -/
theorem i_gf {idx ci k t p pc' : Nat} (hd : ev_at M pc [(.getfield idx, 3)] = true ∧ ev_fl (ev_ci M) idx = some (ci, k, t, p) ∧ (sh_f ci).getD k false = false ∧ k < (sh_f ci).length ∧ ci < 15 ∧ pc + 3 = pc') (ho : ok nx a ci) (h : Im q K (ev_dn b z M pc' lo (.int (m a k) :: st) (nx, mem L nx m))) : Im q K (ev_dn b z M pc lo (.ref a :: st) (nx, mem L nx m)) := by
  obtain ⟨h1, h2, h3, h4, h5, h6⟩ := hd
  refine i_st (n_gf (at1 h1) h2) ?_
  rw [show (nx, mem L nx m).2 a = some (ev_ob ci (sh_o ci a (m a))) from cel_ob ho h5, h6]
  unfold eg_gf
  dsimp only
  rw [if_pos ⟨rfl, sh_lo (Or.inl (by rw [ho.1]; exact h5))⟩, sh_o_get h4]
  unfold eg_v sh_v
  rw [h3, if_neg Bool.false_ne_true]; exact h
theorem i_gr {idx ci k t p pc' : Nat} (hd : ev_at M pc [(.getfield idx, 3)] = true ∧ ev_fl (ev_ci M) idx = some (ci, k, t, p) ∧ (sh_f ci).getD k false = true ∧ k < (sh_f ci).length ∧ ci < 15 ∧ pc + 3 = pc') (ho : ok nx a ci) (h : Im q K (ev_dn b z M pc' lo (.ref (sh_r a k) :: st) (nx, mem L nx m))) : Im q K (ev_dn b z M pc lo (.ref a :: st) (nx, mem L nx m)) := by
  obtain ⟨h1, h2, h3, h4, h5, h6⟩ := hd
  refine i_st (n_gf (at1 h1) h2) ?_
  rw [show (nx, mem L nx m).2 a = some (ev_ob ci (sh_o ci a (m a))) from cel_ob ho h5, h6]
  unfold eg_gf
  dsimp only
  rw [if_pos ⟨rfl, sh_lo (Or.inl (by rw [ho.1]; exact h5))⟩, sh_o_get h4]
  unfold eg_v sh_v
  rw [h3, if_pos rfl]; exact h
def zb {α : Type} (x : Int32) (f : Bool → Option α) : Option α := if x = 0 then f false else if x = 1 then f true else none
theorem i_gz {idx ci k t p pc' : Nat} {g : Bool → Option α} (hd : ev_at M pc [(.getfield idx, 3)] = true ∧ ev_fl (ev_ci M) idx = some (ci, k, t, p) ∧ (sh_f ci).getD k false = false ∧ k < (sh_f ci).length ∧ ci < 15 ∧ pc + 3 = pc') (ho : ok nx a ci) (h : ∀ B, Im (g B) K (ev_dn b z M pc' lo (.int (bi B) :: st) (nx, mem L nx m))) : Im (zb (m a k) g) K (ev_dn b z M pc lo (.ref a :: st) (nx, mem L nx m)) := by
  unfold zb
  by_cases h0 : m a k = 0
  · rw [if_pos h0]
    refine i_gf hd ho ?_
    rw [h0]; exact h false
  · rw [if_neg h0]
    by_cases h1 : m a k = 1
    · rw [if_pos h1]
      refine i_gf hd ho ?_
      rw [h1]; exact h true
    · rw [if_neg h1]; exact i_no
theorem i_pf {idx ci k p pc' : Nat} {g : Mm → Option α} (hd : ev_at M pc [(.putfield idx, 3)] = true ∧ ev_fl (ev_ci M) idx = some (ci, k, 0, p) ∧ (sh_f ci).getD k false = false ∧ k < (sh_f ci).length ∧ ci < 15 ∧ pc + 3 = pc' ∧ (((ev_C ci).2.1 k).2.2.2 = false ∨ (ev_kd M = 2 ∧ ev_ci M = ci))) (ho : ok nx a ci) (h : ∀ m', Im (g m') K (ev_dn b z M pc' lo st (nx, mem L nx m'))) : Im (wb (wr m a k x) g) K (ev_dn b z M pc lo (.int x :: .ref a :: st) (nx, mem L nx m)) := by
  obtain ⟨h1, h2, h3, h4, h5, h6, h7⟩ := hd
  refine i_st (n_pf (at1 h1) h2 rfl h7) ?_
  rw [show (nx, mem L nx m).2 a = some (ev_ob ci (sh_o ci a (m a))) from cel_ob ho h5, h6]
  unfold eg_pf
  dsimp only
  rw [if_pos ⟨rfl, sh_lo (Or.inl (by rw [ho.1]; exact h5)), by rw [sh_o_len]; exact h4⟩, sh_o_set h3, mem_up (cel_ob ho h5)]
  exact h _
theorem i_pz {B : Bool} {idx ci k p pc' : Nat} {g : Mm → Option α} (hd : ev_at M pc [(.putfield idx, 3)] = true ∧ ev_fl (ev_ci M) idx = some (ci, k, 1, p) ∧ (sh_f ci).getD k false = false ∧ k < (sh_f ci).length ∧ ci < 15 ∧ pc + 3 = pc' ∧ (((ev_C ci).2.1 k).2.2.2 = false ∨ (ev_kd M = 2 ∧ ev_ci M = ci))) (ho : ok nx a ci) (h : ∀ m', Im (g m') K (ev_dn b z M pc' lo st (nx, mem L nx m'))) : Im (wb (wr m a k (bi B)) g) K (ev_dn b z M pc lo (.int (bi B) :: .ref a :: st) (nx, mem L nx m)) := by
  obtain ⟨h1, h2, h3, h4, h5, h6, h7⟩ := hd
  refine i_st (n_pz (at1 h1) h2 h7) ?_
  rw [show (nx, mem L nx m).2 a = some (ev_ob ci (sh_o ci a (m a))) from cel_ob ho h5, h6]
  unfold eg_pz
  dsimp only
  rw [if_pos ⟨⟨rfl, sh_lo (Or.inl (by rw [ho.1]; exact h5)), by rw [sh_o_len]; exact h4⟩, by cases B; exact Or.inl rfl; exact Or.inr rfl⟩, sh_o_set h3, mem_up (cel_ob ho h5)]
  exact h _
theorem i_al {pc' : Nat} (hd : ev_at M pc [(.iaload, 1)] = true ∧ pc + 1 = pc') (ho : ok nx a 100) (h : Im q K (ev_dn b z M pc' lo (.int (m a (ix x)) :: st) (nx, mem L nx m))) : Im (if ev_in x (sh_n a) = true then q else none) K (ev_dn b z M pc lo (.int x :: .ref a :: st) (nx, mem L nx m)) := by
  refine i_st (n_al (at1 hd.1)) ?_
  rw [show (nx, mem L nx m).2 a = some (ev_ia 0 (sh_n a) (m a)) from cel_ia ho, hd.2]
  unfold eg_al
  dsimp only
  by_cases hi : ev_in x (sh_n a) = true
  · rw [if_pos hi, if_pos ⟨rfl, hi, fun h => nomatch h⟩]; exact h
  · rw [if_neg hi]; exact i_no
theorem i_aS {pc' : Nat} (N : Nat) (hd : ev_at M pc [(.iaload, 1)] = true ∧ pc + 1 = pc') (hl : (if a = 2 then L else sh_n a) = N) (ho : ok nx a 99) (h : Im q K (ev_dn b z M pc' lo (.int (m a (ix x)) :: st) (nx, mem L nx m))) : Im (if ev_in x N = true then q else none) K (ev_dn b z M pc lo (.int x :: .ref a :: st) (nx, mem L nx m)) := by
  subst hl
  refine i_st (n_al (at1 hd.1)) ?_
  rw [show (nx, mem L nx m).2 a = some (ev_ia 0 (if a = 2 then L else sh_n a) (m a)) from cel_sa ho, hd.2]
  unfold eg_al
  dsimp only
  by_cases hi : ev_in x (if a = 2 then L else sh_n a) = true
  · rw [if_pos hi, if_pos ⟨rfl, hi, fun h => nomatch h⟩]; exact h
  · rw [if_neg hi]; exact i_no
theorem i_ba {pc' : Nat} (hd : ev_at M pc [(.baload, 1)] = true ∧ pc + 1 = pc') (ho : ok nx a 101) (h : Im q K (ev_dn b z M pc' lo (.int (m a (ix x)) :: st) (nx, mem L nx m))) : Im (if ev_in x (sh_n a) = true then q else none) K (ev_dn b z M pc lo (.int x :: .ref a :: st) (nx, mem L nx m)) := by
  refine i_st (n_bl (at1 hd.1)) ?_
  rw [show (nx, mem L nx m).2 a = some (ev_ia 1 (sh_n a) (m a)) from cel_ba ho, hd.2]
  unfold eg_al
  dsimp only
  by_cases hi : ev_in x (sh_n a) = true
  · rw [if_pos hi, if_pos ⟨rfl, hi, fun _ => sh_lo (Or.inr (by rw [ho.1]; decide))⟩]; exact h
  · rw [if_neg hi]; exact i_no
theorem i_as {pc' : Nat} {g : Mm → Option α} (hd : ev_at M pc [(.iastore, 1)] = true ∧ pc + 1 = pc') (ho : ok nx a 100) (h : ∀ m', Im (g m') K (ev_dn b z M pc' lo st (nx, mem L nx m'))) : Im (if ev_in x (sh_n a) = true then wb (wr m a (ix x) y) g else none) K (ev_dn b z M pc lo (.int y :: .int x :: .ref a :: st) (nx, mem L nx m)) := by
  refine i_st (n_as (at1 hd.1)) ?_
  rw [show (nx, mem L nx m).2 a = some (ev_ia 0 (sh_n a) (m a)) from cel_ia ho, hd.2]
  unfold eg_as
  dsimp only
  by_cases hi : ev_in x (sh_n a) = true
  · rw [if_pos hi, if_pos ⟨rfl, hi, sh_lo (Or.inr (by rw [ho.1]; decide))⟩, mem_up (cel_ia ho)]; exact h _
  · rw [if_neg hi]; exact i_no
theorem i_bs {pc' : Nat} {g : Mm → Option α} (hd : ev_at M pc [(.bastore, 1)] = true ∧ pc + 1 = pc') (ho : ok nx a 101) (h : ∀ m', Im (g m') K (ev_dn b z M pc' lo st (nx, mem L nx m'))) : Im (if ev_in x (sh_n a) = true then wb (wr m a (ix x) y.toInt8.toInt32) g else none) K (ev_dn b z M pc lo (.int y :: .int x :: .ref a :: st) (nx, mem L nx m)) := by
  refine i_st (n_bs (at1 hd.1)) ?_
  rw [show (nx, mem L nx m).2 a = some (ev_ia 1 (sh_n a) (m a)) from cel_ba ho, hd.2]
  unfold eg_as
  dsimp only
  by_cases hi : ev_in x (sh_n a) = true
  · rw [if_pos hi, if_pos ⟨rfl, hi, sh_lo (Or.inr (by rw [ho.1]; decide))⟩, mem_up (cel_ba ho)]; exact h _
  · rw [if_neg hi]; exact i_no
theorem i_rl {pc' : Nat} (hd : ev_at M pc [(.aaload, 1)] = true ∧ pc + 1 = pc') (ho : ok nx a 103) (h : ix x < sh_n a → Im q K (ev_dn b z M pc' lo (.ref (sh_r a (ix x)) :: st) (nx, mem L nx m))) : Im (if ev_in x (sh_n a) = true then q else none) K (ev_dn b z M pc lo (.int x :: .ref a :: st) (nx, mem L nx m)) := by
  refine i_st (n_rl (at1 hd.1)) ?_
  rw [show (nx, mem L nx m).2 a = some (ev_ra (sh_n a) (fun i => if i < sh_n a then some (sh_r a i) else none)) from cel_ra ho, hd.2]
  unfold eg_rl
  dsimp only
  by_cases hi : ev_in x (sh_n a) = true
  · have h1 : ix x < sh_n a := by
      unfold ev_in at hi
      have := of_decide_eq_true hi
      show x.toNatClampNeg < _
      omega
    rw [if_pos hi, if_pos ⟨hi, sh_lo (Or.inr (by rw [ho.1]; decide))⟩, if_pos h1]; exact h h1
  · rw [if_neg hi]; exact i_no
theorem i_ln {pc' c : Nat} (hd : ev_at M pc [(.arraylength, 1)] = true ∧ pc + 1 = pc' ∧ (c = 100 ∨ c = 101)) (ho : ok nx a c) (h : Im q K (ev_dn b z M pc' lo (.int (Int32.ofNat (sh_n a)) :: st) (nx, mem L nx m))) : Im q K (ev_dn b z M pc lo (.ref a :: st) (nx, mem L nx m)) := by
  refine i_st (n_ln (at1 hd.1)) ?_
  rw [hd.2.1]
  rcases hd.2.2 with rfl | rfl
  · rw [show (nx, mem L nx m).2 a = some (ev_ia 0 (sh_n a) (m a)) from cel_ia ho]; exact h
  · rw [show (nx, mem L nx m).2 a = some (ev_ia 1 (sh_n a) (m a)) from cel_ba ho]; exact h
theorem i_lS {pc' : Nat} (N : Nat) (hd : ev_at M pc [(.arraylength, 1)] = true ∧ pc + 1 = pc') (hl : (if a = 2 then L else sh_n a) = N) (ho : ok nx a 99) (h : Im q K (ev_dn b z M pc' lo (.int (Int32.ofNat N) :: st) (nx, mem L nx m))) : Im q K (ev_dn b z M pc lo (.ref a :: st) (nx, mem L nx m)) := by
  subst hl
  refine i_st (n_ln (at1 hd.1)) ?_
  rw [hd.2, show (nx, mem L nx m).2 a = some (ev_ia 0 (if a = 2 then L else sh_n a) (m a)) from cel_sa ho]; exact h
theorem i_gs {idx w pc' : Nat} (hd : ev_at M pc [(.getstatic idx, 3)] = true ∧ (ev_ci M = 1 ∧ idx = 34 ∧ w = 0) ∧ pc + 3 = pc') (k : Im q K (ev_dn b z M pc' lo (.ref w :: st) μ)) : Im q K (ev_dn b z M pc lo st μ) := by
  refine i_st (n_gs (at1 hd.1) hd.2.1) ?_
  rw [hd.2.2]; exact k
theorem i_lc {idx p pc' : Nat} (hd : ev_at M pc [(.ldc idx, 2)] = true ∧ ev_ks (ev_ci M) idx = some (.int x, p) ∧ pc + 2 = pc') (k : Im q K (ev_dn b z M pc' lo (.int x :: st) μ)) : Im q K (ev_dn b z M pc lo st μ) := by
  refine i_st (n_lc (at1 hd.1) hd.2.1) ?_
  rw [hd.2.2]; exact k
theorem i_lcw {idx p pc' : Nat} (hd : ev_at M pc [(.ldc_w idx, 3)] = true ∧ ev_ks (ev_ci M) idx = some (.int x, p) ∧ pc + 3 = pc') (k : Im q K (ev_dn b z M pc' lo (.int x :: st) μ)) : Im q K (ev_dn b z M pc lo st μ) := by
  refine i_st (n_lcw (at1 hd.1) hd.2.1) ?_
  rw [hd.2.2]; exact k
theorem i_lt {idx p w pc' : Nat} {tx : String} (hd : ev_at M pc [(.ldc idx, 2)] = true ∧ ev_ks (ev_ci M) idx = none ∧ ev_tx (ev_ci M) idx = some (tx, w, p) ∧ pc + 2 = pc') (k : Im q K (ev_dn b z M pc' lo (.ref w :: st) μ)) : Im q K (ev_dn b z M pc lo st μ) := by
  refine i_st (n_lt (at1 hd.1) hd.2.1 hd.2.2.1) ?_
  rw [hd.2.2.2]; exact k
theorem i_ltw {idx p w pc' : Nat} {tx : String} (hd : ev_at M pc [(.ldc_w idx, 3)] = true ∧ ev_ks (ev_ci M) idx = none ∧ ev_tx (ev_ci M) idx = some (tx, w, p) ∧ pc + 3 = pc') (k : Im q K (ev_dn b z M pc' lo (.ref w :: st) μ)) : Im q K (ev_dn b z M pc lo st μ) := by
  refine i_st (n_ltw (at1 hd.1) hd.2.1 hd.2.2.1) ?_
  rw [hd.2.2.2]; exact k
theorem i_l2 {idx p pc' : Nat} (hd : ev_at M pc [(.ldc2_w idx, 3)] = true ∧ ev_ks (ev_ci M) idx = some (.long x.toInt64, p) ∧ pc + 3 = pc') (k : Im q K (ev_dn b z M pc' lo (.long x.toInt64 :: st) μ)) : Im q K (ev_dn b z M pc lo st μ) := by
  refine i_st (n_l2 (at1 hd.1) hd.2.1) ?_
  rw [hd.2.2]; exact k
/-! long values that are ints -/
def ilg (x y : Int32) : Int32 := if y < x then 1 else if x = y then 0 else -1
theorem lg_i {x y : Int32} : lg_cmp x.toInt64 y.toInt64 = ilg x y := by
  unfold lg_cmp ilg
  have e1 : x.toInt64 > y.toInt64 ↔ y < x := by rw [gt_iff_lt, Int64.lt_iff_toInt_lt, Int32.lt_iff_toInt_lt, Int32.toInt_toInt64, Int32.toInt_toInt64]
  have e2 : x.toInt64 = y.toInt64 ↔ x = y := by rw [← Int64.toInt_inj, Int32.toInt_toInt64, Int32.toInt_toInt64, Int32.toInt_inj]
  by_cases h1 : y < x
  · rw [if_pos h1, if_pos (e1.mpr h1)]
  · rw [if_neg h1, if_neg (fun q => h1 (e1.mp q))]
    by_cases h2 : x = y
    · rw [if_pos h2, if_pos (e2.mpr h2)]
    · rw [if_neg h2, if_neg (fun q => h2 (e2.mp q))]
theorem i_lcm {pc' : Nat} (hd : ev_at M pc [(.lcmp, 1)] = true ∧ pc + 1 = pc') (k : Im q K (ev_dn b z M pc' lo (.int (ilg x y) :: st) μ)) : Im q K (ev_dn b z M pc lo (.long y.toInt64 :: .long x.toInt64 :: st) μ) := by
  refine i_st (n_pu (at1 hd.1) (rfl : ev_pu .lcmp 1 (.long y.toInt64 :: .long x.toInt64 :: st) = some (.int (lg_cmp x.toInt64 y.toInt64) :: st))) ?_
  rw [hd.2, lg_i]; exact k
theorem i_fd {w1 w2 : UInt32} {pc' : Nat} (hd : ev_at M pc [(.fdiv, 1)] = true ∧ pc + 1 = pc') (k : Im q K (ev_dn b z M pc' lo (.float (FP.fdiv w1 w2) :: st) μ)) : Im (if (FP.fdiv w1 w2) &&& 0x7fffffff ≤ 0x7f800000 then q else none) K (ev_dn b z M pc lo (.float w2 :: .float w1 :: st) μ) := by
  by_cases h : (FP.fdiv w1 w2) &&& 0x7fffffff ≤ 0x7f800000
  · rw [if_pos h]
    refine i_st (n_pu (at1 hd.1) (if_pos h : ev_pu .fdiv 1 (.float w2 :: .float w1 :: st) = some (.float (FP.fdiv w1 w2) :: st))) ?_
    rw [hd.2]; exact k
  · rw [if_neg h]; exact i_no
theorem i_dd {w1 w2 : UInt64} {pc' : Nat} (hd : ev_at M pc [(.ddiv, 1)] = true ∧ pc + 1 = pc') (k : Im q K (ev_dn b z M pc' lo (.double (FP.ddiv w1 w2) :: st) μ)) : Im (if (FP.ddiv w1 w2) &&& 0x7fffffffffffffff ≤ 0x7ff0000000000000 then q else none) K (ev_dn b z M pc lo (.double w2 :: .double w1 :: st) μ) := by
  by_cases h : (FP.ddiv w1 w2) &&& 0x7fffffffffffffff ≤ 0x7ff0000000000000
  · rw [if_pos h]
    refine i_st (n_pu (at1 hd.1) (if_pos h : ev_pu .ddiv 1 (.double w2 :: .double w1 :: st) = some (.double (FP.ddiv w1 w2) :: st))) ?_
    rw [hd.2]; exact k
  · rw [if_neg h]; exact i_no
theorem i_f2d {w : UInt32} {pc' : Nat} (hd : ev_at M pc [(.f2d, 1)] = true ∧ pc + 1 = pc') (k : Im q K (ev_dn b z M pc' lo (.double (FP.f2d w) :: st) μ)) : Im (if (FP.f2d w) &&& 0x7fffffffffffffff ≤ 0x7ff0000000000000 then q else none) K (ev_dn b z M pc lo (.float w :: st) μ) := by
  by_cases h : (FP.f2d w) &&& 0x7fffffffffffffff ≤ 0x7ff0000000000000
  · rw [if_pos h]
    refine i_st (n_pu (at1 hd.1) (if_pos h : ev_pu .f2d 1 (.float w :: st) = some (.double (FP.f2d w) :: st))) ?_
    rw [hd.2]; exact k
  · rw [if_neg h]; exact i_no
def jabs (x : Int32) : Int32 := if 0 ≤ x then x else 0 - x
def jmax (x y : Int32) : Int32 := if x < y then y else x
def jmin (x y : Int32) : Int32 := if y < x then y else x
/-! the JDK's own -/
theorem i_abs {idx pc' : Nat} (hd : ev_at M pc [(.invokestatic idx, 3)] = true ∧ ev_iv M (.invokestatic idx) 3 = some (1001, 0) ∧ ev_jk 1001 = 0 ∧ ev_jf 1001 ≤ ev_dp M ∧ ev_jl 1001 ≤ ev_lc M ∧ pc + 3 = pc') (hc : Nat.ble ((((.int x : Value) :: st).map Value.category).sum) 9 = true) (k : Im q K (ev_dn b z M pc' lo (.int (jabs x) :: st) μ)) : Im q K (ev_dn b z M pc lo (.int x :: st) μ) := by
  obtain ⟨h1, h2, h3, h4, h5, h6⟩ := hd
  refine i_st (n_abs (at1 h1) h2 ⟨h3, Nat.le_of_ble_eq_true hc, h4, h5⟩) ?_
  rw [h6]; exact k
theorem i_max {idx pc' : Nat} (hd : ev_at M pc [(.invokestatic idx, 3)] = true ∧ ev_iv M (.invokestatic idx) 3 = some (1002, 0) ∧ ev_jk 1002 = 0 ∧ ev_jf 1002 ≤ ev_dp M ∧ ev_jl 1002 ≤ ev_lc M ∧ pc + 3 = pc') (hc : Nat.ble ((((.int y : Value) :: .int x :: st).map Value.category).sum) 9 = true) (k : Im q K (ev_dn b z M pc' lo (.int (jmax x y) :: st) μ)) : Im q K (ev_dn b z M pc lo (.int y :: .int x :: st) μ) := by
  obtain ⟨h1, h2, h3, h4, h5, h6⟩ := hd
  refine i_st (n_max (at1 h1) h2 ⟨h3, Nat.le_of_ble_eq_true hc, h4, h5⟩) ?_
  rw [h6]; exact k
theorem i_min {idx pc' : Nat} (hd : ev_at M pc [(.invokestatic idx, 3)] = true ∧ ev_iv M (.invokestatic idx) 3 = some (1003, 0) ∧ ev_jk 1003 = 0 ∧ ev_jf 1003 ≤ ev_dp M ∧ ev_jl 1003 ≤ ev_lc M ∧ pc + 3 = pc') (hc : Nat.ble ((((.int y : Value) :: .int x :: st).map Value.category).sum) 9 = true) (k : Im q K (ev_dn b z M pc' lo (.int (jmin x y) :: st) μ)) : Im q K (ev_dn b z M pc lo (.int y :: .int x :: st) μ) := by
  obtain ⟨h1, h2, h3, h4, h5, h6⟩ := hd
  refine i_st (n_min (at1 h1) h2 ⟨h3, Nat.le_of_ble_eq_true hc, h4, h5⟩) ?_
  rw [h6]; exact k
theorem i_ac {idx a2 pc' : Nat} {w x y : Int32} {g : Mm → Option α} (hd : ev_at M pc [(.invokestatic idx, 3)] = true ∧ ev_iv M (.invokestatic idx) 3 = some (1000, 0) ∧ ev_jk 1000 = 0 ∧ ev_jf 1000 ≤ ev_dp M ∧ ev_jl 1000 ≤ ev_lc M ∧ pc + 3 = pc') (hc : Nat.ble ((((.int w : Value) :: .int y :: .ref a2 :: .int x :: .ref a :: st).map Value.category).sum) 9 = true) (ho : ok nx a 100) (ho2 : ok nx a2 100) (h : ∀ m', Im (g m') K (ev_dn b z M pc' lo st (nx, mem L nx m'))) : Im (if ¬ x < 0 ∧ ¬ y < 0 ∧ ¬ w < 0 ∧ ix x + ix w ≤ sh_n a ∧ ix y + ix w ≤ sh_n a2 then wb (wa m a2 (va_cpy (m a) (m a2) (ix x) (ix y) (ix w))) g else none) K (ev_dn b z M pc lo (.int w :: .int y :: .ref a2 :: .int x :: .ref a :: st) (nx, mem L nx m)) := by
  obtain ⟨h1, h2, h3, h4, h5, h6⟩ := hd
  refine i_st (n_ac (at1 h1) h2 ⟨h3, Nat.le_of_ble_eq_true hc, h4, h5⟩) ?_
  rw [show (nx, mem L nx m).2 a = some (ev_ia 0 (sh_n a) (m a)) from cel_ia ho, show (nx, mem L nx m).2 a2 = some (ev_ia 0 (sh_n a2) (m a2)) from cel_ia ho2, h6]
  unfold eg_ac
  dsimp only
  by_cases hi : ¬ x < 0 ∧ ¬ y < 0 ∧ ¬ w < 0 ∧ ix x + ix w ≤ sh_n a ∧ ix y + ix w ≤ sh_n a2
  · rw [if_pos hi, if_pos ⟨rfl, rfl, hi.1, hi.2.1, hi.2.2.1, hi.2.2.2.1, hi.2.2.2.2, sh_lo (Or.inr (by rw [ho.1]; decide)), sh_lo (Or.inr (by rw [ho2.1]; decide))⟩, mem_up (cel_ia ho2)]; exact h _
  · rw [if_neg hi]; exact i_no
theorem i_sl {idx pc' : Nat} (hd : ev_at M pc [(.invokevirtual idx, 3)] = true ∧ ev_iv M (.invokevirtual idx) 3 = some (1004, 1) ∧ ev_jk 1004 = 1 ∧ ev_jf 1004 ≤ ev_dp M ∧ ev_jl 1004 ≤ ev_lc M ∧ pc + 3 = pc') (hc : Nat.ble ((((.ref a : Value) :: st).map Value.category).sum) 9 = true) (ho : ok nx a 109) (k : Im q K (ev_dn b z M pc' lo (.int (Int32.ofNat (sh_n a)) :: st) (nx, mem L nx m))) : Im q K (ev_dn b z M pc lo (.ref a :: st) (nx, mem L nx m)) := by
  obtain ⟨h1, h2, h3, h4, h5, h6⟩ := hd
  refine i_st (n_sl (at1 h1) h2 ⟨h3, Nat.le_of_ble_eq_true hc, h4, h5⟩) ?_
  rw [show (nx, mem L nx m).2 a = some (ev_ia 9 (sh_n a) (m a)) from cel_tx ho, h6]; exact k
theorem i_sx {idx pc' : Nat} (hd : ev_at M pc [(.invokevirtual idx, 3)] = true ∧ ev_iv M (.invokevirtual idx) 3 = some (1005, 1) ∧ ev_jk 1005 = 1 ∧ ev_jf 1005 ≤ ev_dp M ∧ ev_jl 1005 ≤ ev_lc M ∧ pc + 3 = pc') (hc : Nat.ble ((((.int x : Value) :: .ref a :: st).map Value.category).sum) 9 = true) (ho : ok nx a 109) (k : Im q K (ev_dn b z M pc' lo (.int (m a (ix x)) :: st) (nx, mem L nx m))) : Im (if ev_in x (sh_n a) = true then q else none) K (ev_dn b z M pc lo (.int x :: .ref a :: st) (nx, mem L nx m)) := by
  obtain ⟨h1, h2, h3, h4, h5, h6⟩ := hd
  refine i_st (n_sc (at1 h1) h2 ⟨h3, Nat.le_of_ble_eq_true hc, h4, h5⟩) ?_
  rw [show (nx, mem L nx m).2 a = some (ev_ia 9 (sh_n a) (m a)) from cel_tx ho, h6]
  unfold eg_sc
  dsimp only
  by_cases hi : ev_in x (sh_n a) = true
  · rw [if_pos hi, if_pos ⟨rfl, hi⟩]; exact k
  · rw [if_neg hi]; exact i_no
/-! calls -/
abbrev cd_ (M pc t k na ml k1 k2 pc' : Nat) (i : Instr) : Prop := ev_at M pc [(i, 3)] = true ∧ ev_iv M i 3 = some (t, k) ∧ t < 1000 ∧ ev_kd t = k ∧ ev_na t = na ∧ ev_ml t = ml ∧ ev_dp t + 1 ≤ ev_dp M ∧ 8 + (ml + 11) + ev_lc t ≤ ev_lc M ∧ ev_k1 t = k1 ∧ ev_k2 t = k2 ∧ pc + 3 = pc'
abbrev co_ (na ml : Nat) (st av st' : List Value) (en : ev_L) : Prop := (st.take na).reverse = av ∧ st.drop na = st' ∧ ev_ar av ++ List.replicate (ml - (ev_ar av).length) none = en ∧ Nat.ble na st.length = true ∧ Nat.ble ((st'.map Value.category).sum) 8 = true ∧ Nat.ble (ev_ar av).length ml = true
noncomputable def eh (b z M pc : Nat) (lo : ev_L) (e : Nat) (μ : ev_H) : ev_Q := match ev_hd M pc e with
  | some (pc', i) => ev_dn b z M pc' (ev_un lo i) [] μ
  | none => if (ev_eh M).isEmpty = true then some (.inr e, μ) else none
def eo {T : Type} (vo : T → Option Value) (r : T ⊕ Nat) : Option Value ⊕ Nat := match r with
  | .inl v => .inl (vo v)
  | .inr e => .inr e
def bE {T α : Type} (q : Option ((T ⊕ Nat) × Mm)) (f : T → Mm → Option α) (g : Nat → Mm → Option α) : Option α := match q with
  | none => none
  | some (.inl v, m') => f v m'
  | some (.inr e, m') => g e m'
theorem i_c0 {t k na ml k1 k2 pc' : Nat} {av : List Value} {en : ev_L} (hd : cd_ M pc t k na ml k1 k2 pc' i) (ho : co_ na ml st av st' en) (hp : ev_pu i 3 st = none) (hb : ev_br i 3 pc st = none) (hl : ev_ld i 3 lo = none) (hs : ev_so i 3 lo st = none) (hm : ev_me (ev_ci M) (ev_kd M) i 3 st μ = none) (hr : ev_rc t k av μ = true) (hz : k1 ≤ b ∧ k2 ≤ z) : ev_dn b z M pc lo st μ = ev_bh k (b - k1) (z - k2) M pc lo st' (ev_dn k1 k2 t 0 en [] μ) := by
  obtain ⟨h1, h2, h3, h4, h5, h6, h7, h8, h9, h10, -⟩ := hd
  obtain ⟨o1, o2, o3, o4, o5, o6⟩ := ho
  subst h5; subst h6
  rw [n_ck (at1 h1) hp hb hl hs hm h2 h3 ⟨h4, Nat.le_of_ble_eq_true o4, by rw [o2]; exact Nat.le_of_ble_eq_true o5, h7, h8, by rw [o1]; exact Nat.le_of_ble_eq_true o6⟩ o1 o2 (show ev_en t av = en from o3) h9 h10, if_pos hr, if_pos hz]
theorem ev_rc_ok {t k ci a : Nat} {av : List Value} (hk : k = 1 ∨ k = 2) (hc : ev_ci t = ci ∧ ci < 15) (ho : ok nx a ci) : ev_rc t k (.ref a :: av) (nx, mem L nx m) = true := by
  have e : mem L nx m a = some (ev_ob ci (sh_o ci a (m a))) := cel_ob ho hc.2
  have h : ev_S ≤ a := sh_lo (Or.inl (by rw [ho.1]; exact hc.2))
  rcases hk with rfl | rfl
  · simp only [ev_rc, e]; exact decide_eq_true ⟨hc.1.symm, h⟩
  · simp only [ev_rc, e]; exact decide_eq_true ⟨hc.1.symm, h⟩
theorem i_bR {β : Type} {qc : Option β} {f : β → Option α} {vo : β → Option Value} {mo : β → Mm} {s2 : β → List Value} {k pc' t : Nat} {en : ev_L} (hp : pc + 3 = pc') (hs : ∀ r, (vo r).toList ++ st' = s2 r) (hc : Im qc (fun r e => e = some (.inl (vo r), (nx, mem L nx (mo r)))) (ev_dn 0 0 t 0 en [] (nx, mem L nx m))) (h : ∀ r, Im (f r) K (ev_dn b z M pc' lo (s2 r) (nx, mem L nx (mo r)))) : Im (qc.bind f) K (ev_bh k b z M pc lo st' (ev_dn 0 0 t 0 en [] (nx, mem L nx m))) := by
  intro r hr
  cases hq : qc with
  | none => rw [hq] at hr; cases hr
  | some w =>
    rw [hq] at hr
    rw [hc w hq]
    unfold ev_bh
    dsimp only
    rw [hs, hp]
    exact h w r hr
theorem i_cs {β : Type} {qc : Option β} {f : β → Option α} {vo : β → Option Value} {mo : β → Mm} {s2 : β → List Value} {t na ml idx pc' : Nat} {av : List Value} {en : ev_L} (hd : cd_ M pc t 0 na ml 0 0 pc' (.invokestatic idx)) (ho : co_ na ml st av st' en) (hs : ∀ r, (vo r).toList ++ st' = s2 r) (hc : Im qc (fun r e => e = some (.inl (vo r), (nx, mem L nx (mo r)))) (ev_dn 0 0 t 0 en [] (nx, mem L nx m))) (h : ∀ r, Im (f r) K (ev_dn b z M pc' lo (s2 r) (nx, mem L nx (mo r)))) : Im (qc.bind f) K (ev_dn b z M pc lo st (nx, mem L nx m)) := by
  refine i_st (i_c0 hd ho rfl rfl rfl rfl rfl rfl ⟨Nat.zero_le _, Nat.zero_le _⟩) ?_
  exact i_bR hd.2.2.2.2.2.2.2.2.2.2 hs hc h
theorem i_cv {β : Type} {qc : Option β} {f : β → Option α} {vo : β → Option Value} {mo : β → Mm} {s2 : β → List Value} {t na ml idx pc' ci : Nat} {av : List Value} {en : ev_L} (hd : cd_ M pc t 1 na ml 0 0 pc' (.invokevirtual idx)) (hci : ev_ci t = ci ∧ ci < 15) (hok : ok nx a ci) (ho : co_ na ml st (.ref a :: av) st' en) (hs : ∀ r, (vo r).toList ++ st' = s2 r) (hc : Im qc (fun r e => e = some (.inl (vo r), (nx, mem L nx (mo r)))) (ev_dn 0 0 t 0 en [] (nx, mem L nx m))) (h : ∀ r, Im (f r) K (ev_dn b z M pc' lo (s2 r) (nx, mem L nx (mo r)))) : Im (qc.bind f) K (ev_dn b z M pc lo st (nx, mem L nx m)) := by
  refine i_st (i_c0 hd ho rfl rfl rfl rfl rfl (ev_rc_ok (Or.inl rfl) hci hok) ⟨Nat.zero_le _, Nat.zero_le _⟩) ?_
  exact i_bR hd.2.2.2.2.2.2.2.2.2.2 hs hc h
theorem i_bE {T : Type} {qc : Option ((T ⊕ Nat) × Mm)} {f : T → Mm → Option α} {g : Nat → Mm → Option α} {vo : T → Option Value} {s2 : T → List Value} {k pc' t k1 k2 : Nat} {en : ev_L} (hk : ¬ k = 2) (hp : pc + 3 = pc') (hs : ∀ r, (vo r).toList ++ st' = s2 r) (hc : Im qc (fun r e => e = some (eo vo r.1, (nx, mem L nx r.2))) (ev_dn k1 k2 t 0 en [] (nx, mem L nx m))) (h : ∀ v m', Im (f v m') K (ev_dn b z M pc' lo (s2 v) (nx, mem L nx m'))) (hh : ∀ e m', Im (g e m') K (eh b z M pc lo e (nx, mem L nx m'))) : Im (bE qc f g) K (ev_bh k b z M pc lo st' (ev_dn k1 k2 t 0 en [] (nx, mem L nx m))) := by
  intro r hr
  cases qc with
  | none => cases hr
  | some w =>
    obtain ⟨w1, m'⟩ := w
    cases w1 with
    | inl v =>
      rw [hc _ rfl]
      unfold ev_bh eo
      dsimp only
      rw [hs, hp]
      exact h v m' r hr
    | inr e =>
      rw [hc _ rfl]
      have := hh e m' r hr
      unfold eh at this
      unfold ev_bh eo
      dsimp only
      rw [if_neg hk]
      exact this
theorem i_es {T : Type} {qc : Option ((T ⊕ Nat) × Mm)} {f : T → Mm → Option α} {g : Nat → Mm → Option α} {vo : T → Option Value} {s2 : T → List Value} {t na ml idx pc' k1 k2 : Nat} {av : List Value} {en : ev_L} (hd : cd_ M pc t 0 na ml k1 k2 pc' (.invokestatic idx)) (ho : co_ na ml st av st' en) (hz : k1 ≤ b ∧ k2 ≤ z) (hs : ∀ r, (vo r).toList ++ st' = s2 r) (hc : Im qc (fun r e => e = some (eo vo r.1, (nx, mem L nx r.2))) (ev_dn k1 k2 t 0 en [] (nx, mem L nx m))) (h : ∀ v m', Im (f v m') K (ev_dn (b - k1) (z - k2) M pc' lo (s2 v) (nx, mem L nx m'))) (hh : ∀ e m', Im (g e m') K (eh (b - k1) (z - k2) M pc lo e (nx, mem L nx m'))) : Im (bE qc f g) K (ev_dn b z M pc lo st (nx, mem L nx m)) := by
  refine i_st (i_c0 hd ho rfl rfl rfl rfl rfl rfl hz) ?_
  exact i_bE (by decide) hd.2.2.2.2.2.2.2.2.2.2 hs hc h hh
theorem i_ev {T : Type} {qc : Option ((T ⊕ Nat) × Mm)} {f : T → Mm → Option α} {g : Nat → Mm → Option α} {vo : T → Option Value} {s2 : T → List Value} {t na ml idx pc' ci k1 k2 : Nat} {av : List Value} {en : ev_L} (hd : cd_ M pc t 1 na ml k1 k2 pc' (.invokevirtual idx)) (hci : ev_ci t = ci ∧ ci < 15) (hok : ok nx a ci) (ho : co_ na ml st (.ref a :: av) st' en) (hz : k1 ≤ b ∧ k2 ≤ z) (hs : ∀ r, (vo r).toList ++ st' = s2 r) (hc : Im qc (fun r e => e = some (eo vo r.1, (nx, mem L nx r.2))) (ev_dn k1 k2 t 0 en [] (nx, mem L nx m))) (h : ∀ v m', Im (f v m') K (ev_dn (b - k1) (z - k2) M pc' lo (s2 v) (nx, mem L nx m'))) (hh : ∀ e m', Im (g e m') K (eh (b - k1) (z - k2) M pc lo e (nx, mem L nx m'))) : Im (bE qc f g) K (ev_dn b z M pc lo st (nx, mem L nx m)) := by
  refine i_st (i_c0 hd ho rfl rfl rfl rfl rfl (ev_rc_ok (Or.inl rfl) hci hok) hz) ?_
  exact i_bE (by decide) hd.2.2.2.2.2.2.2.2.2.2 hs hc h hh
theorem i_h0 {e : Nat} {r : α} (hd : ev_eh M = []) (hK : K r (some (.inr e, μ))) : Im (some r) K (eh b z M pc lo e μ) := by
  intro r' hr
  cases hr
  unfold eh ev_hd
  rw [hd]
  exact hK
theorem i_h1 {e e1 pc' j : Nat} {q2 : Option α} (hd : ev_hd M pc e1 = some (pc', j)) (hl : ev_un lo j = lo') (h1 : Im q K (ev_dn b z M pc' lo' [] μ)) (h2 : Im q2 K (eh b z M pc lo e μ)) : Im (if e = e1 then q else q2) K (eh b z M pc lo e μ) := by
  by_cases h : e = e1
  · subst h
    rw [if_pos rfl]
    unfold eh
    rw [hd]
    dsimp only
    rw [hl]; exact h1
  · rw [if_neg h]; exact h2
theorem i_th {e k : Nat} {r : α} (hd : ev_f M pc = some (i, k) ∧ ev_th2 M pc = some e ∧ 8 ≤ ev_dp M ∧ 130 ≤ ev_lc M) (hz : 1 ≤ b ∧ 6 ≤ z) (hK : K r (some (.inr e, μ))) : Im (some r) K (ev_dn b z M pc lo [] μ) := by
  intro r' hr
  cases hr
  rw [n_th ⟨hd.1, hd.2.1⟩ hd.2.2, if_pos hz]; exact hK
theorem i_bW {β : Type} {qc : Option β} {f : β → Option α} {vo : β → Option Value} {mo : β → Mm} {s2 : β → List Value} {k pc' t k1 k2 : Nat} {en : ev_L} (hp : pc + 3 = pc') (hs : ∀ r, (vo r).toList ++ st' = s2 r) (hc : Im qc (fun r e => e = some (.inl (vo r), (nx, mem L nx (mo r)))) (ev_dn k1 k2 t 0 en [] (nx, mem L nx m))) (h : ∀ r, Im (f r) K (ev_dn b z M pc' lo (s2 r) (nx, mem L nx (mo r)))) : Im (qc.bind f) K (ev_bh k b z M pc lo st' (ev_dn k1 k2 t 0 en [] (nx, mem L nx m))) := by
  intro r hr
  cases hq : qc with
  | none => rw [hq] at hr; cases hr
  | some w =>
    rw [hq] at hr
    rw [hc w hq]
    unfold ev_bh
    dsimp only
    rw [hs, hp]
    exact h w r hr
theorem i_ck {β : Type} {qc : Option β} {f : β → Option α} {vo : β → Option Value} {mo : β → Mm} {s2 : β → List Value} {t na ml idx pc' k1 k2 : Nat} {av : List Value} {en : ev_L} (hd : cd_ M pc t 0 na ml k1 k2 pc' (.invokestatic idx)) (ho : co_ na ml st av st' en) (hz : k1 ≤ b ∧ k2 ≤ z) (hs : ∀ r, (vo r).toList ++ st' = s2 r) (hc : Im qc (fun r e => e = some (.inl (vo r), (nx, mem L nx (mo r)))) (ev_dn k1 k2 t 0 en [] (nx, mem L nx m))) (h : ∀ r, Im (f r) K (ev_dn (b - k1) (z - k2) M pc' lo (s2 r) (nx, mem L nx (mo r)))) : Im (qc.bind f) K (ev_dn b z M pc lo st (nx, mem L nx m)) := by
  refine i_st (i_c0 hd ho rfl rfl rfl rfl rfl rfl hz) ?_
  exact i_bW hd.2.2.2.2.2.2.2.2.2.2 hs hc h
theorem i_cA {cr : Nat} {qc : Option Nat} {f : Nat → Option α} {s2 : Nat → List Value} {t na ml idx pc' ci : Nat} {av : List Value} {en : ev_L} (hd : cd_ M pc t 1 na ml 0 0 pc' (.invokevirtual idx)) (hci : ev_ci t = ci ∧ ci < 15) (hok : ok nx a ci) (ho : co_ na ml st (.ref a :: av) st' en) (hs : ∀ r, (some (.ref r : Value)).toList ++ st' = s2 r) (hc : Im qc (fun r e => e = some (.inl (some (.ref r)), (nx, mem L nx m)) ∧ ok nx r cr) (ev_dn 0 0 t 0 en [] (nx, mem L nx m))) (h : ∀ r, ok nx r cr → Im (f r) K (ev_dn b z M pc' lo (s2 r) (nx, mem L nx m))) : Im (qc.bind f) K (ev_dn b z M pc lo st (nx, mem L nx m)) := by
  refine i_st (i_c0 hd ho rfl rfl rfl rfl rfl (ev_rc_ok (Or.inl rfl) hci hok) ⟨Nat.zero_le _, Nat.zero_le _⟩) ?_
  intro r hr
  cases hq : qc with
  | none => rw [hq] at hr; cases hr
  | some w =>
    rw [hq] at hr
    obtain ⟨h1, h2⟩ := hc w hq
    rw [h1]
    unfold ev_bh
    dsimp only
    rw [hs, hd.2.2.2.2.2.2.2.2.2.2]
    exact h w h2 r hr
/-- what a method's answer is held to -/
abbrev kI (L nx : Nat) (m : Mm) : Int32 → ev_Q → Prop := fun r e => e = some (.inl (some (.int r)), (nx, mem L nx m))
abbrev kZ (L nx : Nat) (m : Mm) : Bool → ev_Q → Prop := fun r e => e = some (.inl (some (.int (bi r))), (nx, mem L nx m))
abbrev kD (L nx : Nat) (m : Mm) : UInt64 → ev_Q → Prop := fun r e => e = some (.inl (some (.double r)), (nx, mem L nx m))
abbrev kF (L nx : Nat) (m : Mm) : UInt32 → ev_Q → Prop := fun r e => e = some (.inl (some (.float r)), (nx, mem L nx m))
abbrev kA (c L nx : Nat) (m : Mm) : Nat → ev_Q → Prop := fun r e => e = some (.inl (some (.ref r)), (nx, mem L nx m)) ∧ ok nx r c
abbrev wV (L nx : Nat) : Mm → ev_Q → Prop := fun r e => e = some (.inl none, (nx, mem L nx r))
abbrev wI (L nx : Nat) : Int32 × Mm → ev_Q → Prop := fun r e => e = some (.inl (some (.int r.1)), (nx, mem L nx r.2))
abbrev wZ (L nx : Nat) : Bool × Mm → ev_Q → Prop := fun r e => e = some (.inl (some (.int (bi r.1))), (nx, mem L nx r.2))
abbrev wD (L nx : Nat) : UInt64 × Mm → ev_Q → Prop := fun r e => e = some (.inl (some (.double r.1)), (nx, mem L nx r.2))
abbrev wF (L nx : Nat) : UInt32 × Mm → ev_Q → Prop := fun r e => e = some (.inl (some (.float r.1)), (nx, mem L nx r.2))
abbrev eI (L nx : Nat) : (Int32 ⊕ Nat) × Mm → ev_Q → Prop := fun r e => e = some (eo (fun v => some (.int v)) r.1, (nx, mem L nx r.2))
abbrev eZ (L nx : Nat) : (Bool ⊕ Nat) × Mm → ev_Q → Prop := fun r e => e = some (eo (fun v => some (.int (bi v))) r.1, (nx, mem L nx r.2))
abbrev eV (L nx : Nat) : (Unit ⊕ Nat) × Mm → ev_Q → Prop := fun r e => e = some (eo (fun _ => none) r.1, (nx, mem L nx r.2))
/-! answers -/
theorem i_rv {r : α} (hd : ev_at M pc [(.return_, 1)] = true ∧ ev_rt M = none) (hK : K r (some (.inl none, μ))) : Im (some r) K (ev_dn b z M pc lo [] μ) := by
  intro r' hr
  cases hr
  rw [n_rv (at1 hd.1) hd.2]; exact hK
theorem i_ri {r : α} (hd : ev_at M pc [(.ireturn, 1)] = true ∧ ev_rt M = some .int) (hK : K r (some (.inl (some (.int x)), μ))) : Im (some r) K (ev_dn b z M pc lo [.int x] μ) := by
  intro r' hr
  cases hr
  rw [n_ri (at1 hd.1) hd.2]; exact hK
theorem i_rz {B : Bool} {r : α} (hd : ev_at M pc [(.ireturn, 1)] = true ∧ ev_rt M = some .boolean) (hK : K r (some (.inl (some (.int (bi B))), μ))) : Im (some r) K (ev_dn b z M pc lo [.int (bi B)] μ) := by
  intro r' hr
  cases hr
  rw [n_rz (at1 hd.1) hd.2, if_pos (by cases B <;> rfl)]; exact hK
theorem i_ra {cn : String} {r : α} (hd : ev_at M pc [(.areturn, 1)] = true ∧ ev_rt M = some (.object cn)) (hK : K r (some (.inl (some (.ref a)), μ))) : Im (some r) K (ev_dn b z M pc lo [.ref a] μ) := by
  intro r' hr
  cases hr
  rw [n_ra (at1 hd.1) hd.2]; exact hK
theorem i_rf {w : UInt32} {r : α} (hd : ev_at M pc [(.freturn, 1)] = true ∧ ev_rt M = some .float) (hK : K r (some (.inl (some (.float w)), μ))) : Im (some r) K (ev_dn b z M pc lo [.float w] μ) := by
  intro r' hr
  cases hr
  rw [n_rf (at1 hd.1) hd.2]; exact hK
theorem i_rd {w : UInt64} {r : α} (hd : ev_at M pc [(.dreturn, 1)] = true ∧ ev_rt M = some .double) (hK : K r (some (.inl (some (.double w)), μ))) : Im (some r) K (ev_dn b z M pc lo [.double w] μ) := by
  intro r' hr
  cases hr
  rw [n_rd (at1 hd.1) hd.2]; exact hK
/-! loops -/
def itN {σ ρ : Type} (f : σ → Option (σ ⊕ ρ)) : Nat → σ → Option ρ
  | 0, _ => none
  | n + 1, s => match f s with
    | none => none
    | some (.inl s') => itN f n s'
    | some (.inr r) => some r
theorem itN_up {σ ρ : Type} {f : σ → Option (σ ⊕ ρ)} : ∀ (n : Nat) (s : σ) (r : ρ), itN f n s = some r → ∀ k, n ≤ k → itN f k s = some r := by
  intro n
  induction n with
  | zero => intro s r h; cases h
  | succ n ih =>
    intro s r h k hk
    cases k with
    | zero => omega
    | succ k =>
      unfold itN at h ⊢
      match hf : f s with
      | none => rw [hf] at h; cases h
      | some (.inl s') => rw [hf] at h; exact ih s' r h k (Nat.le_of_succ_le_succ hk)
      | some (.inr r') => rw [hf] at h; exact h
noncomputable def it {σ ρ : Type} (f : σ → Option (σ ⊕ ρ)) (s : σ) : Option ρ := Classical.epsilon (fun o => (∃ n, itN f n s = o ∧ o ≠ none) ∨ (o = none ∧ ∀ n, itN f n s = none))
theorem it_some {σ ρ : Type} {f : σ → Option (σ ⊕ ρ)} {s : σ} {r : ρ} : it f s = some r ↔ ∃ n, itN f n s = some r := by
  have key : ∃ o : Option ρ, (∃ n, itN f n s = o ∧ o ≠ none) ∨ (o = none ∧ ∀ n, itN f n s = none) := by
    by_cases h : ∃ n, itN f n s ≠ none
    · obtain ⟨n, hn⟩ := h
      exact ⟨_, Or.inl ⟨n, rfl, hn⟩⟩
    · exact ⟨none, Or.inr ⟨rfl, fun n => Classical.byContradiction fun q => h ⟨n, q⟩⟩⟩
  have hs := Classical.epsilon_spec key
  constructor
  · intro h
    have h' : Classical.epsilon (fun o => (∃ n, itN f n s = o ∧ o ≠ none) ∨ (o = none ∧ ∀ n, itN f n s = none)) = some r := h
    rw [h'] at hs
    rcases hs with ⟨n, hn, -⟩ | ⟨h1, -⟩
    · exact ⟨n, hn⟩
    · cases h1
  · intro ⟨n, hn⟩
    show Classical.epsilon _ = some r
    rcases hs with ⟨k, hk, hk2⟩ | ⟨-, h2⟩
    · rcases Nat.le_total n k with h | h
      · rw [← hk, itN_up n s r hn k h]
      · match ho : Classical.epsilon (fun o => (∃ n, itN f n s = o ∧ o ≠ none) ∨ (o = none ∧ ∀ n, itN f n s = none)) with
        | none => exact absurd ho hk2
        | some r' =>
          rw [ho] at hk
          rw [itN_up k s r' hk n h] at hn
          exact hn
    · rw [h2 n] at hn; cases hn
def oi {σ ρ : Type} (q : Option (σ ⊕ ρ)) (f : σ → Option ρ) : Option ρ := match q with
  | none => none
  | some (.inl s') => f s'
  | some (.inr r) => some r
theorem it_eq {σ ρ : Type} {f : σ → Option (σ ⊕ ρ)} (s : σ) : it f s = oi (f s) (it f) := by
  have ext : ∀ a b : Option ρ, (∀ r, a = some r ↔ b = some r) → a = b := by
    intro a b h
    cases a with
    | some r => exact ((h r).mp rfl).symm
    | none => cases b with
      | none => rfl
      | some r => exact (h r).mpr rfl
  refine ext _ _ fun r => ?_
  rw [it_some]
  constructor
  · intro ⟨n, hn⟩
    cases n with
    | zero => cases hn
    | succ n =>
      unfold itN at hn
      match hf : f s with
      | none => rw [hf] at hn; cases hn
      | some (.inl s') => rw [hf] at hn; exact it_some.mpr ⟨n, hn⟩
      | some (.inr r') => rw [hf] at hn; exact hn
  · intro h
    match hf : f s with
    | none => rw [hf] at h; cases h
    | some (.inl s') =>
      rw [hf] at h
      obtain ⟨n, hn⟩ := it_some.mp h
      exact ⟨n + 1, by unfold itN; rw [hf]; exact hn⟩
    | some (.inr r') =>
      rw [hf] at h
      exact ⟨1, by unfold itN; rw [hf]; exact h⟩
def kL {σ ρ δ : Type} (K : ρ → ev_Q → Prop) (E : δ → σ → ev_Q) : σ ⊕ ρ → ev_Q → Prop := fun r e => match r with
  | .inl s => ∃ d, e = E d s
  | .inr r => K r e
theorem i_it {σ ρ δ : Type} {f : σ → Option (σ ⊕ ρ)} {K : ρ → ev_Q → Prop} {E : δ → σ → ev_Q} (h : ∀ d s, Im (f s) (kL K E) (E d s)) (d : δ) (s : σ) : Im (it f s) K (E d s) := by
  intro r hr
  obtain ⟨n, hn⟩ := it_some.mp hr
  induction n generalizing d s with
  | zero => cases hn
  | succ n ih =>
    unfold itN at hn
    match hf : f s with
    | none => rw [hf] at hn; cases hn
    | some (.inl s') =>
      rw [hf] at hn
      obtain ⟨d', hd'⟩ : ∃ d', E d s = E d' s' := h d s _ hf
      rw [hd']
      exact ih d' s' (it_some.mpr ⟨n, hn⟩) hn
    | some (.inr r') =>
      rw [hf] at hn
      cases hn
      exact h d s _ hf
theorem i_co {σ ρ δ : Type} {K : ρ → ev_Q → Prop} {E : δ → σ → ev_Q} {s : σ} {e : ev_Q} (d : δ) (h : e = E d s) : Im (some (.inl s)) (kL K E) e := by
  intro r hr
  cases hr
  exact ⟨d, h⟩
theorem i_ir {σ ρ δ : Type} {K : ρ → ev_Q → Prop} {E : δ → σ → ev_Q} {r : ρ} {e : ev_Q} (h : Im (some r) K e) : Im (some (.inr r)) (kL K E) e := by
  intro r' hr
  cases hr
  exact h r rfl
theorem i_mr {σ ρ δ : Type} {K : ρ → ev_Q → Prop} {E : δ → σ → ev_Q} {q : Option ρ} {e : ev_Q} (h : Im q K e) : Im (q.map .inr) (kL K E) e := by
  intro r' hr
  cases q with
  | none => cases hr
  | some r => cases hr; exact h r rfl
/-- the law's own loop: its rooms shrink -/
def kM {σ ρ δ : Type} (K : ρ → ev_Q → Prop) (E : Nat → Nat → δ → σ → ev_Q) (b z : Nat) : σ ⊕ ρ → ev_Q → Prop := fun r e => match r with
  | .inl s => ∃ b' z' d, b ≤ b' + 4 ∧ z ≤ z' + 24 ∧ e = E b' z' d s
  | .inr r => K r e
theorem i_cL {σ ρ δ : Type} {K : ρ → ev_Q → Prop} {E : Nat → Nat → δ → σ → ev_Q} {b z : Nat} {s : σ} {e : ev_Q} (d : δ) (b' z' : Nat) (h1 : b ≤ b' + 4) (h2 : z ≤ z' + 24) (h : e = E b' z' d s) : Im (some (.inl s)) (kM K E b z) e := by
  intro r hr
  cases hr
  exact ⟨b', z', d, h1, h2, h⟩
theorem i_iM {σ ρ δ : Type} {K : ρ → ev_Q → Prop} {E : Nat → Nat → δ → σ → ev_Q} {b z : Nat} {r : ρ} {e : ev_Q} (h : Im (some r) K e) : Im (some (.inr r)) (kM K E b z) e := by
  intro r' hr
  cases hr
  exact h r rfl
theorem i_wb {β : Type} {w : β} {f : β → Option α} (F : β → ev_Q) (h : ∀ w, Im (f w) K (F w)) : Im (wb w f) K (F w) := h w
end RUL
