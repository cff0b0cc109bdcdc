section
-- ===== PART A: goes FIRST, ahead of the names: the tables' words, and 'selects' of the private methods out of them =====
/-- a private method of a class that the tables say can be made, by its rows of tables_1 -/
def lw_okq (q : MethodName × Nat) : Prop := (q.1.cls ≠ "java/lang/invoke/MethodHandle" ∧ q.1.cls ≠ "java/lang/invoke/VarHandle") ∧ Cond.instantiable q.1.cls q.2 ∈ tables_1 ∧ Cond.privateMethod q.1 ∈ tables_1 ∧ Cond.instanceMethod q.1 ∈ tables_1
theorem lw_p0 : lw_okq (⟨"java/lang/Throwable", "fillInStackTrace", "(I)Ljava/lang/Throwable;"⟩, 6) := ⟨⟨by decide +kernel, by decide +kernel⟩, List.mem_of_getElem? (i := 446) (by decide +kernel), List.mem_of_getElem? (i := 444) (by decide +kernel), List.mem_of_getElem? (i := 445) (by decide +kernel)⟩
theorem lw_p1 : lw_okq (⟨"LanternChess$Field", "weightOf", "(II)I"⟩, 3) := ⟨⟨by decide +kernel, by decide +kernel⟩, List.mem_of_getElem? (i := 93) (by decide +kernel), List.mem_of_getElem? (i := 514) (by decide +kernel), List.mem_of_getElem? (i := 515) (by decide +kernel)⟩
theorem lw_p2 : lw_okq (⟨"LanternChess", "needGoingOn", "()V"⟩, 11) := ⟨⟨by decide +kernel, by decide +kernel⟩, List.mem_of_getElem? (i := 32) (by decide +kernel), List.mem_of_getElem? (i := 566) (by decide +kernel), List.mem_of_getElem? (i := 567) (by decide +kernel)⟩
theorem lw_p3 : lw_okq (⟨"LanternChess$SetupText", "takeToken", "()V"⟩, 10) := ⟨⟨by decide +kernel, by decide +kernel⟩, List.mem_of_getElem? (i := 40) (by decide +kernel), List.mem_of_getElem? (i := 760) (by decide +kernel), List.mem_of_getElem? (i := 761) (by decide +kernel)⟩
theorem lw_p4 : lw_okq (⟨"LanternChess$SetupText", "byteAt", "(I)I"⟩, 10) := ⟨⟨by decide +kernel, by decide +kernel⟩, List.mem_of_getElem? (i := 40) (by decide +kernel), List.mem_of_getElem? (i := 764) (by decide +kernel), List.mem_of_getElem? (i := 765) (by decide +kernel)⟩
theorem lw_p5 : lw_okq (⟨"LanternChess$SetupText", "takeWord", "(Ljava/lang/String;)V"⟩, 10) := ⟨⟨by decide +kernel, by decide +kernel⟩, List.mem_of_getElem? (i := 40) (by decide +kernel), List.mem_of_getElem? (i := 775) (by decide +kernel), List.mem_of_getElem? (i := 776) (by decide +kernel)⟩
theorem lw_p6 : lw_okq (⟨"LanternChess$SetupText", "isWord", "(Ljava/lang/String;)Z"⟩, 10) := ⟨⟨by decide +kernel, by decide +kernel⟩, List.mem_of_getElem? (i := 40) (by decide +kernel), List.mem_of_getElem? (i := 779) (by decide +kernel), List.mem_of_getElem? (i := 780) (by decide +kernel)⟩
theorem lw_p7 : lw_okq (⟨"LanternChess$SetupText", "fail", "(II)V"⟩, 10) := ⟨⟨by decide +kernel, by decide +kernel⟩, List.mem_of_getElem? (i := 40) (by decide +kernel), List.mem_of_getElem? (i := 785) (by decide +kernel), List.mem_of_getElem? (i := 786) (by decide +kernel)⟩
theorem lw_p8 : lw_okq (⟨"LanternChess$SetupText", "takeNumber", "(II)I"⟩, 10) := ⟨⟨by decide +kernel, by decide +kernel⟩, List.mem_of_getElem? (i := 40) (by decide +kernel), List.mem_of_getElem? (i := 789) (by decide +kernel), List.mem_of_getElem? (i := 790) (by decide +kernel)⟩
theorem lw_p9 : lw_okq (⟨"LanternChess$SetupText", "numberOfToken", "()I"⟩, 10) := ⟨⟨by decide +kernel, by decide +kernel⟩, List.mem_of_getElem? (i := 40) (by decide +kernel), List.mem_of_getElem? (i := 793) (by decide +kernel), List.mem_of_getElem? (i := 794) (by decide +kernel)⟩
theorem lw_p10 : lw_okq (⟨"LanternChess$SetupText", "takeSemicolon", "()V"⟩, 10) := ⟨⟨by decide +kernel, by decide +kernel⟩, List.mem_of_getElem? (i := 40) (by decide +kernel), List.mem_of_getElem? (i := 797) (by decide +kernel), List.mem_of_getElem? (i := 798) (by decide +kernel)⟩
theorem lw_p11 : lw_okq (⟨"LanternChess$SetupText", "readStatement", "(LLanternChess$Game;)V"⟩, 10) := ⟨⟨by decide +kernel, by decide +kernel⟩, List.mem_of_getElem? (i := 40) (by decide +kernel), List.mem_of_getElem? (i := 802) (by decide +kernel), List.mem_of_getElem? (i := 803) (by decide +kernel)⟩
theorem lw_p12 : lw_okq (⟨"LanternChess$SetupText", "takeOnce", "(I)V"⟩, 10) := ⟨⟨by decide +kernel, by decide +kernel⟩, List.mem_of_getElem? (i := 40) (by decide +kernel), List.mem_of_getElem? (i := 807) (by decide +kernel), List.mem_of_getElem? (i := 808) (by decide +kernel)⟩
theorem lw_p13 : lw_okq (⟨"LanternChess$SetupText", "readPiece", "(LLanternChess$Game;I)V"⟩, 10) := ⟨⟨by decide +kernel, by decide +kernel⟩, List.mem_of_getElem? (i := 40) (by decide +kernel), List.mem_of_getElem? (i := 816) (by decide +kernel), List.mem_of_getElem? (i := 817) (by decide +kernel)⟩
theorem lw_p14 : lw_okq (⟨"LanternChess$SetupText", "takeKind", "(I)I"⟩, 10) := ⟨⟨by decide +kernel, by decide +kernel⟩, List.mem_of_getElem? (i := 40) (by decide +kernel), List.mem_of_getElem? (i := 820) (by decide +kernel), List.mem_of_getElem? (i := 821) (by decide +kernel)⟩
theorem lw_p15 : lw_okq (⟨"LanternChess$SetupText", "kindOfWord", "()I"⟩, 10) := ⟨⟨by decide +kernel, by decide +kernel⟩, List.mem_of_getElem? (i := 40) (by decide +kernel), List.mem_of_getElem? (i := 824) (by decide +kernel), List.mem_of_getElem? (i := 825) (by decide +kernel)⟩
def lw_privs_1 : List (MethodName × Nat) := [(⟨"java/lang/Throwable", "fillInStackTrace", "(I)Ljava/lang/Throwable;"⟩, 6), (⟨"LanternChess$Field", "weightOf", "(II)I"⟩, 3), (⟨"LanternChess", "needGoingOn", "()V"⟩, 11), (⟨"LanternChess$SetupText", "takeToken", "()V"⟩, 10), (⟨"LanternChess$SetupText", "byteAt", "(I)I"⟩, 10), (⟨"LanternChess$SetupText", "takeWord", "(Ljava/lang/String;)V"⟩, 10), (⟨"LanternChess$SetupText", "isWord", "(Ljava/lang/String;)Z"⟩, 10), (⟨"LanternChess$SetupText", "fail", "(II)V"⟩, 10), (⟨"LanternChess$SetupText", "takeNumber", "(II)I"⟩, 10), (⟨"LanternChess$SetupText", "numberOfToken", "()I"⟩, 10), (⟨"LanternChess$SetupText", "takeSemicolon", "()V"⟩, 10), (⟨"LanternChess$SetupText", "readStatement", "(LLanternChess$Game;)V"⟩, 10), (⟨"LanternChess$SetupText", "takeOnce", "(I)V"⟩, 10), (⟨"LanternChess$SetupText", "readPiece", "(LLanternChess$Game;I)V"⟩, 10), (⟨"LanternChess$SetupText", "takeKind", "(I)I"⟩, 10), (⟨"LanternChess$SetupText", "kindOfWord", "()I"⟩, 10)]
theorem lw_r1 : ∀ q ∈ lw_privs_1, lw_okq q := List.forall_mem_cons.mpr ⟨lw_p0, List.forall_mem_cons.mpr ⟨lw_p1, List.forall_mem_cons.mpr ⟨lw_p2, List.forall_mem_cons.mpr ⟨lw_p3, List.forall_mem_cons.mpr ⟨lw_p4, List.forall_mem_cons.mpr ⟨lw_p5, List.forall_mem_cons.mpr ⟨lw_p6, List.forall_mem_cons.mpr ⟨lw_p7, List.forall_mem_cons.mpr ⟨lw_p8, List.forall_mem_cons.mpr ⟨lw_p9, List.forall_mem_cons.mpr ⟨lw_p10, List.forall_mem_cons.mpr ⟨lw_p11, List.forall_mem_cons.mpr ⟨lw_p12, List.forall_mem_cons.mpr ⟨lw_p13, List.forall_mem_cons.mpr ⟨lw_p14, List.forall_mem_cons.mpr ⟨lw_p15, fun _ h => absurd h List.not_mem_nil⟩⟩⟩⟩⟩⟩⟩⟩⟩⟩⟩⟩⟩⟩⟩⟩
theorem lw_p16 : lw_okq (⟨"LanternChess$SetupText", "readFog", "(LLanternChess$Game;)V"⟩, 10) := ⟨⟨by decide +kernel, by decide +kernel⟩, List.mem_of_getElem? (i := 40) (by decide +kernel), List.mem_of_getElem? (i := 842) (by decide +kernel), List.mem_of_getElem? (i := 843) (by decide +kernel)⟩
theorem lw_p17 : lw_okq (⟨"LanternChess", "needCells", "(IIII)V"⟩, 11) := ⟨⟨by decide +kernel, by decide +kernel⟩, List.mem_of_getElem? (i := 32) (by decide +kernel), List.mem_of_getElem? (i := 1115) (by decide +kernel), List.mem_of_getElem? (i := 1116) (by decide +kernel)⟩
theorem lw_p18 : lw_okq (⟨"LanternChess", "needCell", "(II)V"⟩, 11) := ⟨⟨by decide +kernel, by decide +kernel⟩, List.mem_of_getElem? (i := 32) (by decide +kernel), List.mem_of_getElem? (i := 1119) (by decide +kernel), List.mem_of_getElem? (i := 1120) (by decide +kernel)⟩
theorem lw_p19 : lw_okq (⟨"LanternChess$Field", "isClear", "(III)Z"⟩, 3) := ⟨⟨by decide +kernel, by decide +kernel⟩, List.mem_of_getElem? (i := 93) (by decide +kernel), List.mem_of_getElem? (i := 1154) (by decide +kernel), List.mem_of_getElem? (i := 1155) (by decide +kernel)⟩
theorem lw_p20 : lw_okq (⟨"LanternChess$MoveList", "fillFrom", "(LLanternChess$Field;II)V"⟩, 5) := ⟨⟨by decide +kernel, by decide +kernel⟩, List.mem_of_getElem? (i := 293) (by decide +kernel), List.mem_of_getElem? (i := 1168) (by decide +kernel), List.mem_of_getElem? (i := 1169) (by decide +kernel)⟩
theorem lw_p21 : lw_okq (⟨"LanternChess", "moveInfo", "(LLanternChess$Field;III)I"⟩, 11) := ⟨⟨by decide +kernel, by decide +kernel⟩, List.mem_of_getElem? (i := 32) (by decide +kernel), List.mem_of_getElem? (i := 1177) (by decide +kernel), List.mem_of_getElem? (i := 1178) (by decide +kernel)⟩
theorem lw_p22 : lw_okq (⟨"LanternChess$Field", "becomesQueen", "(II)Z"⟩, 3) := ⟨⟨by decide +kernel, by decide +kernel⟩, List.mem_of_getElem? (i := 93) (by decide +kernel), List.mem_of_getElem? (i := 1199) (by decide +kernel), List.mem_of_getElem? (i := 1200) (by decide +kernel)⟩
theorem lw_p23 : lw_okq (⟨"LanternChess$Field", "arriving", "(II)I"⟩, 3) := ⟨⟨by decide +kernel, by decide +kernel⟩, List.mem_of_getElem? (i := 93) (by decide +kernel), List.mem_of_getElem? (i := 1213) (by decide +kernel), List.mem_of_getElem? (i := 1214) (by decide +kernel)⟩
theorem lw_p24 : lw_okq (⟨"LanternChess$Walk", "enter", "(II)V"⟩, 4) := ⟨⟨by decide +kernel, by decide +kernel⟩, List.mem_of_getElem? (i := 318) (by decide +kernel), List.mem_of_getElem? (i := 1241) (by decide +kernel), List.mem_of_getElem? (i := 1242) (by decide +kernel)⟩
theorem lw_p25 : lw_okq (⟨"LanternChess$Walk", "goOnFrom", "(III)V"⟩, 4) := ⟨⟨by decide +kernel, by decide +kernel⟩, List.mem_of_getElem? (i := 318) (by decide +kernel), List.mem_of_getElem? (i := 1245) (by decide +kernel), List.mem_of_getElem? (i := 1246) (by decide +kernel)⟩
theorem lw_p26 : lw_okq (⟨"LanternChess$MoveList", "rankOf", "(I)I"⟩, 5) := ⟨⟨by decide +kernel, by decide +kernel⟩, List.mem_of_getElem? (i := 293) (by decide +kernel), List.mem_of_getElem? (i := 1289) (by decide +kernel), List.mem_of_getElem? (i := 1290) (by decide +kernel)⟩
theorem lw_p27 : lw_okq (⟨"LanternChess", "foretellNow", "(IIII)V"⟩, 11) := ⟨⟨by decide +kernel, by decide +kernel⟩, List.mem_of_getElem? (i := 32) (by decide +kernel), List.mem_of_getElem? (i := 1297) (by decide +kernel), List.mem_of_getElem? (i := 1298) (by decide +kernel)⟩
theorem lw_p28 : lw_okq (⟨"LanternChess$Game", "noteSending", "(LLanternChess$Sending;I)V"⟩, 13) := ⟨⟨by decide +kernel, by decide +kernel⟩, List.mem_of_getElem? (i := 81) (by decide +kernel), List.mem_of_getElem? (i := 1393) (by decide +kernel), List.mem_of_getElem? (i := 1394) (by decide +kernel)⟩
theorem lw_p29 : lw_okq (⟨"LanternChess$Board", "putRight", "(II)V"⟩, 6) := ⟨⟨by decide +kernel, by decide +kernel⟩, List.mem_of_getElem? (i := 87) (by decide +kernel), List.mem_of_getElem? (i := 1425) (by decide +kernel), List.mem_of_getElem? (i := 1426) (by decide +kernel)⟩
theorem lw_p30 : lw_okq (⟨"LanternChess$Game", "finishMove", "(III)V"⟩, 13) := ⟨⟨by decide +kernel, by decide +kernel⟩, List.mem_of_getElem? (i := 81) (by decide +kernel), List.mem_of_getElem? (i := 1429) (by decide +kernel), List.mem_of_getElem? (i := 1430) (by decide +kernel)⟩
def lw_privs_2 : List (MethodName × Nat) := [(⟨"LanternChess$SetupText", "readFog", "(LLanternChess$Game;)V"⟩, 10), (⟨"LanternChess", "needCells", "(IIII)V"⟩, 11), (⟨"LanternChess", "needCell", "(II)V"⟩, 11), (⟨"LanternChess$Field", "isClear", "(III)Z"⟩, 3), (⟨"LanternChess$MoveList", "fillFrom", "(LLanternChess$Field;II)V"⟩, 5), (⟨"LanternChess", "moveInfo", "(LLanternChess$Field;III)I"⟩, 11), (⟨"LanternChess$Field", "becomesQueen", "(II)Z"⟩, 3), (⟨"LanternChess$Field", "arriving", "(II)I"⟩, 3), (⟨"LanternChess$Walk", "enter", "(II)V"⟩, 4), (⟨"LanternChess$Walk", "goOnFrom", "(III)V"⟩, 4), (⟨"LanternChess$MoveList", "rankOf", "(I)I"⟩, 5), (⟨"LanternChess", "foretellNow", "(IIII)V"⟩, 11), (⟨"LanternChess$Game", "noteSending", "(LLanternChess$Sending;I)V"⟩, 13), (⟨"LanternChess$Board", "putRight", "(II)V"⟩, 6), (⟨"LanternChess$Game", "finishMove", "(III)V"⟩, 13)]
theorem lw_r2 : ∀ q ∈ lw_privs_2, lw_okq q := List.forall_mem_cons.mpr ⟨lw_p16, List.forall_mem_cons.mpr ⟨lw_p17, List.forall_mem_cons.mpr ⟨lw_p18, List.forall_mem_cons.mpr ⟨lw_p19, List.forall_mem_cons.mpr ⟨lw_p20, List.forall_mem_cons.mpr ⟨lw_p21, List.forall_mem_cons.mpr ⟨lw_p22, List.forall_mem_cons.mpr ⟨lw_p23, List.forall_mem_cons.mpr ⟨lw_p24, List.forall_mem_cons.mpr ⟨lw_p25, List.forall_mem_cons.mpr ⟨lw_p26, List.forall_mem_cons.mpr ⟨lw_p27, List.forall_mem_cons.mpr ⟨lw_p28, List.forall_mem_cons.mpr ⟨lw_p29, List.forall_mem_cons.mpr ⟨lw_p30, fun _ h => absurd h List.not_mem_nil⟩⟩⟩⟩⟩⟩⟩⟩⟩⟩⟩⟩⟩⟩⟩
def lw_privs : List (MethodName × Nat) := lw_privs_1 ++ (lw_privs_2)
def lw_tbl : List Cond := k2_sels lw_privs ++ tables_1
theorem lw_privs_ok : ∀ q ∈ lw_privs, lw_okq q := by
  show ∀ q ∈ lw_privs_1 ++ (lw_privs_2), lw_okq q
  exact List.forall_mem_append.mpr ⟨lw_r1, lw_r2⟩
/-- the streams that the claim lets the run draw from -/
abbrev lw_cs : List Choice := [Jvm.Choice.named "NaN.bits"]
theorem lw_bits : nanBits ∈ lw_cs := by first | decide | exact List.mem_cons_self | simp [lw_cs, nanBits]
-- ===== end of PART A; then your names; then what follows =====
end
section
/-! ===== BEGIN words of one list among another's, by their places ===== -/
theorem goodIn_r {big : List Cond} (ws : List Cond) (ps : List Nat) (hp : ws = ps.filterMap (fun i => big[i]?)) (h : ws.all goodWord = true) : GoodIn big ws := by
  intro w hw
  have h1 := List.all_eq_true.mp h w hw
  rw [hp] at hw
  obtain ⟨i, -, hi⟩ := List.mem_filterMap.mp hw
  have hm : w ∈ big := by first | exact List.mem_of_getElem? hi | exact List.getElem?_mem hi
  exact ⟨hm, good_of_word h1⟩
theorem goodIn_app {big a b : List Cond} (ha : GoodIn big a) (hb : GoodIn big b) : GoodIn big (a ++ b) := fun w h => (List.mem_append.mp h).elim (ha w) (hb w)
theorem goodIn_ca {big a b : List Cond} {c : Cond} (ha : GoodIn big (c :: a)) (hb : GoodIn big b) : GoodIn big (c :: (a ++ b)) := fun w h => (List.mem_cons.mp h).elim (fun e => ha w (List.mem_cons.mpr (Or.inl e))) (fun h => (List.mem_append.mp h).elim (fun h => ha w (List.mem_cons.mpr (Or.inr h))) (hb w))
theorem goodIn_sub {big ws : List Cond} (hm : ∀ w ∈ ws, w ∈ big) (h : ws.all goodWord = true) : GoodIn big ws := fun w hw => ⟨hm w hw, good_of_word (List.all_eq_true.mp h w hw)⟩
/-! ===== END ===== -/
/-! ===== BEGIN exceptions that leave a method, and their catching by the caller (launches without stack traces) ===== -/
section VXA
/-! The laws vx_back, vx_callV, vx_callS, vx_callSW, vx_throw0, vx_throwS follow proofs of the library, with one case more: JvmDerived/Free/Laws.lean (Back.of_free), Shelf42/LK1.lean (callV, callS), Shelf/KitTraced.lean (throwNew0V, throwNewS). -/
/-- where a method has thrown q: the class by its name, the cell, what was written, the world -/
def vx_T (XC : String → State → State → Prop) (st : State) (q : Addr) (t : State) (mc ms : Nat) (free : Addr → Prop) : Prop :=
  ∃ (E : String) (ce : Cell) (L : List Loc), XC E st t ∧ t.heap[q]? = some ce ∧ ce.vm = .none ∧ st.vm.findClass E = some ce.cls ∧ st.WarmedH t.vm ∧ st.sameButNew ({ t with vm := st.vm } : State) L mc ms ∧ ∀ z ∈ L, free z.base
def vx_Q (Qc : Array Value → State → Outcome → State → Prop) (XC : String → State → State → Prop) (mc ms : Nat) (free : Addr → Prop) : Array Value → State → Outcome → State → Prop := fun a st o t =>
  (Qc a st o t ∧ ∃ L, FrameEnd st o t L mc ms ∧ ∀ q ∈ L, free q.base) ∨ ∃ q, o = .threw q ∧ vx_T XC st q t mc ms free
/-- a callee that returns or throws -/
def vx_Met (l : Launch) (y : MethodName) (ws : List Cond) (rm : Room) (Pc : Array Value → State → Prop) (Qc : Array Value → State → Outcome → State → Prop) (XC : String → State → State → Prop) (mc ms : Nat) (free : Addr → Prop) : Prop :=
  MetFree l y (headSpec ws rm) Pc (fun _ _ _ _ _ => True) (vx_Q Qc XC mc ms free)
def vx_Post (XC : String → State → State → Prop) (mc ms : Nat) (free : Addr → Prop) : Pt → Array Value → Addr → Pt → Prop := fun A a q B =>
  ∃ (g : JFrame) (mk : MethodId) (t : State) (L : List Loc) (E : String) (ce : Cell), B.U.heap = t.heap ∧ B.U.vm = t.vm ∧ XC E (A.U.calling g mk a) t ∧ t.heap[q]? = some ce ∧ ce.vm = .none ∧ A.U.vm.findClass E = some ce.cls ∧ B.locs = A.locs ++ L ∧ (∀ z ∈ L, free z.base) ∧ B.cells = A.cells + mc ∧ B.slots = A.slots + ms
def vx_Back (l : Launch) (R : Room) (p : Program) (e : Env) (below : List Frame) (s : State) (sargs : Array Value) (y : MethodName) (len W9 : Nat)
    (Pre : Pt → Array Value → Prop) (Post : Pt → Array Value → Option Value → Pt → Prop) (PostX : Pt → Array Value → Addr → Pt → Prop) : Prop :=
  ∀ (m : MethodId) (meth : Method) (c : Code) (A : Pt) (g : JFrame) (ig : Instr) (mk : MethodId) (a : Array Value),
    Stand p l e R s m sargs below meth c A.U A.locs A.cells A.slots → g.method = m → g.locals.size = c.maxLocals → decode c.code g.pc = .ok (ig, len) →
    2 * g.monitorRoom + (g.stack.map fun v => v.category).sum ≤ W9 → A.U.methodNamed? y = some mk → Pre A a →
    (∃ (v : Option Value) (B : Pt), Stand p l e R s m sargs below meth c B.U B.locs B.cells B.slots ∧ Post A a v B ∧
      Steps p.tables e below (doInvoke e (A.U.setTop g) [] mk a).1 (B.U.setTop { g with pc := g.pc + len, stack := v.toList ++ g.stack })) ∨
    (∃ (q : Addr) (B : Pt), Stand p l e R s m sargs below meth c B.U B.locs B.cells B.slots ∧ PostX A a q B ∧
      Steps p.tables e below (doInvoke e (A.U.setTop g) [] mk a).1 ((B.U.setTop g).pushFrame (.throwing q)))
section Payer
variable {l : Launch} {R : Room} {p : Program} {e : Env} {below : List Frame} {s : State} {sargs : Array Value} {y : MethodName} {len W9 : Nat}
theorem vx_back {ws : List Cond} {rm : Room} {Pc : Array Value → State → Prop} {Qc : Array Value → State → Outcome → State → Prop} {XC : String → State → State → Prop} {mc ms : Nat} {free : Addr → Prop} {bytes : ByteArray} {maxL : Nat} {ret : Option FieldType}
    (hM : vx_Met l y ws rm Pc Qc XC mc ms free) (hblind : FrameBlind Pc) (hrc : rm.cells = mc) (hrs : rm.slots = ms)
    (hframes : rm.frames + 1 ≤ R.frames) (hlocals : W9 + (maxL + 11) + rm.locals ≤ R.locals)
    (hws : ∀ w ∈ ws, ∀ a' U, s.WarmedH U.vm → w.before a' U = true) (hcode : Cond.code y bytes maxL ret ∈ ws) (hinit : ∀ a' U, s.WarmedH U.vm → (Cond.initialized y.cls).before a' U = true) :
    vx_Back l R p e below s sargs y len W9 (PreOf R mc ms Pc) (PostOf Qc mc ms free) (vx_Post XC mc ms free) := by
  intro m meth c A g ig mk a X hg hsize hdg hW hn hp
  have h1 : (headSpec ws rm).pre.before a A.U = true := atoms_intro fun w hw => hws w hw _ _ X.warmed
  have h2 : (Cond.code y bytes maxL ret).before a A.U = true := hws _ hcode _ _ X.warmed
  have h3 : (Cond.initialized y.cls).before a A.U = true := hinit _ _ X.warmed
  have h4 : A.cells + (headSpec ws rm).room.cells ≤ R.cells := by rw [show (headSpec ws rm).room.cells = mc from hrc]; exact hp.1
  have h5 : A.slots + (headSpec ws rm).room.slots ≤ R.slots := by rw [show (headSpec ws rm).room.slots = ms from hrs]; exact hp.2.1
  have hPc : Pc a (A.U.calling g mk a) := hblind _ _ _ _ hp.2.2
  obtain ⟨U, Ls, c0, s0⟩ := A
  dsimp only [Pt.U, Pt.locs, Pt.cells, Pt.slots] at h1 h2 h3 h4 h5 X hn hPc ⊢
  obtain ⟨methY, cY, hmY, hcY, -, hlY, -, -, -, -⟩ := Cond.code_spec hn h2
  obtain ⟨kY, hkY, -⟩ := className_of_methodNamed hn
  have hinitY : kY.init = .initialized := Cond.initialized_spec (findClass_of_methodNamed hn) hkY h3
  have h : At U g.method c below := by rw [hg]; exact X.here
  have hlocals9 : W9 + (maxL + 11) + (headSpec ws rm).room.locals ≤ R.locals := hlocals
  have happ : (headSpec ws rm).appliesLoose y e.platform (U.calling g mk a) = true :=
    Spec.appliesLoose_calling (g := g) h hdg hn hkY hinitY
      (X.room_calling (g := g) (R' := (headSpec ws rm).room) hsize hmY hcY hframes (by rw [hlY]; omega) h4 h5) h1
  obtain ⟨mid, hmid⟩ := h.above
  have hfr : (U.setTop g).frames = (.java g :: mid) ++ below := by rw [State.frames_setTop' g h.top, hmid]; rfl
  obtain ⟨o, s₂, hsteps, -, hend, hq⟩ := Steps.callFree hM p X.admits X.cas X.clock (acts := []) hfr happ hPc trivial
  have hq' : vx_Q Qc XC mc ms free a (U.calling g mk a) o s₂ := hq
  rw [State.frames_setTop' g h.top] at hend
  obtain ⟨g₀, hg0⟩ := Option.isSome_iff_exists.mp h.top
  obtain ⟨r, hr⟩ := State.topJava?_eq_some.mp hg0
  have hr' : (({ U with heap := s₂.heap, slotsUsed := s₂.slotsUsed } : State).setVm s₂.vm).frames = .java g₀ :: r := hr
  rcases hq' with ⟨hqc, L, hfe, hL⟩ | ⟨q, rfl, E, ce, L, hx, hce, hcv, hcl, hW₂, hsm, hL⟩
  · obtain ⟨⟨v, rfl⟩, hW₂, e2, q2, q3, q4, q5, q6⟩ := id hfe
    have e3 : s₂ = ({ (U.calling g mk a).setFrames s₂.frames with heap := s₂.heap, slotsUsed := s₂.slotsUsed } : State).setVm s₂.vm := by
      have : s₂ = ({ s₂ with vm := (U.calling g mk a).vm } : State).setVm s₂.vm := rfl
      rw [e2] at this
      exact this
    obtain ⟨c₂, i₂, len₂, hc₂, hd₂, hf₂⟩ := hend
    have hW' : U.WarmedH s₂.vm := hW₂
    have hcc : c₂ = c := by
      have h1 : s₂.code? g.method = U.code? g.method := by
        rw [State.code?_eq, State.code?_eq, hW'.alike.method?]
      exact Option.some.inj (hc₂.symm.trans (h1.trans h.code))
    subst hcc
    have hlen : len₂ = len := by rw [hdg] at hd₂; cases hd₂; rfl
    subst hlen
    have hs₂ : s₂ = (({ U with heap := s₂.heap, slotsUsed := s₂.slotsUsed } : State).setVm s₂.vm).setTop { g with pc := g.pc + len₂, stack := v.toList ++ g.stack } := by
      refine e3.trans ?_
      rw [hf₂, State.calling_eq h.top, State.setFrames_setFrames, State.setTop_of_frames _ hr', hr]
      rfl
    have hsame : U.sameButNew ({ U with heap := s₂.heap, slotsUsed := s₂.slotsUsed } : State) L mc ms := by
      refine ⟨?_, q2, q3, q4, q5, q6⟩
      obtain ⟨t, ht, -⟩ := State.frames_cons hr
      show ({ U with heap := s₂.heap, slotsUsed := s₂.slotsUsed } : State) = { U.setFrames U.frames with heap := s₂.heap, slotsUsed := s₂.slotsUsed }
      rw [State.setFrames_self ht]
    subst hg
    refine Or.inl ⟨v, ⟨(({ U with heap := s₂.heap, slotsUsed := s₂.slotsUsed } : State).setVm s₂.vm), Ls ++ L, c0 + mc, s0 + ms⟩,
      ⟨X.admits, X.cas, X.clock, X.frames, X.room, X.hears, X.method, X.code, (X.here.setHeapUsed s₂.heap s₂.slotsUsed).setVm hW'.alike, X.tail, State.WarmedH.trans X.warmed hW', X.limits, X.bytes, X.same.trans (hsame.setVm s.vm)⟩,
      ⟨g, mk, s₂, L, rfl, rfl, hqc, rfl, hL, rfl, rfl⟩, ?_⟩
    show Steps p.tables e below _ ((({ U with heap := s₂.heap, slotsUsed := s₂.slotsUsed } : State).setVm s₂.vm).setTop { g with pc := g.pc + len₂, stack := v.toList ++ g.stack })
    rw [← hs₂]
    exact hsteps
  · obtain ⟨e2, q2, q3, q4, q5, q6⟩ := id hsm
    have e3 : s₂ = ({ (U.calling g mk a).setFrames s₂.frames with heap := s₂.heap, slotsUsed := s₂.slotsUsed } : State).setVm s₂.vm := by
      have : s₂ = ({ s₂ with vm := (U.calling g mk a).vm } : State).setVm s₂.vm := rfl
      rw [e2] at this
      exact this
    have hf₂ : s₂.frames = .throwing q :: .java g :: U.frames.tail := hend
    have hW' : U.WarmedH s₂.vm := hW₂
    have hs₂ : s₂ = ((({ U with heap := s₂.heap, slotsUsed := s₂.slotsUsed } : State).setVm s₂.vm).setTop g).pushFrame (.throwing q) := by
      refine e3.trans ?_
      rw [hf₂, State.calling_eq h.top, State.setFrames_setFrames, State.pushFrame, State.frames_setTop _ hr', State.setTop_of_frames _ hr', State.setFrames_setFrames, hr]
      rfl
    have hsame : U.sameButNew ({ U with heap := s₂.heap, slotsUsed := s₂.slotsUsed } : State) L mc ms := by
      refine ⟨?_, q2, q3, q4, q5, q6⟩
      obtain ⟨t, ht, -⟩ := State.frames_cons hr
      show ({ U with heap := s₂.heap, slotsUsed := s₂.slotsUsed } : State) = { U.setFrames U.frames with heap := s₂.heap, slotsUsed := s₂.slotsUsed }
      rw [State.setFrames_self ht]
    subst hg
    refine Or.inr ⟨q, ⟨(({ U with heap := s₂.heap, slotsUsed := s₂.slotsUsed } : State).setVm s₂.vm), Ls ++ L, c0 + mc, s0 + ms⟩,
      ⟨X.admits, X.cas, X.clock, X.frames, X.room, X.hears, X.method, X.code, (X.here.setHeapUsed s₂.heap s₂.slotsUsed).setVm hW'.alike, X.tail, State.WarmedH.trans X.warmed hW', X.limits, X.bytes, X.same.trans (hsame.setVm s.vm)⟩,
      ⟨g, mk, s₂, L, E, ce, rfl, rfl, hx, hce, hcv, hcl, rfl, hL, rfl, rfl⟩, ?_⟩
    show Steps p.tables e below _ (((({ U with heap := s₂.heap, slotsUsed := s₂.slotsUsed } : State).setVm s₂.vm).setTop g).pushFrame (.throwing q))
    rw [← hs₂]
    exact hsteps
end Payer
section Calls
variable {p : Program} {l : Launch} {e : Env} {R : Room} {s : State} {m : MethodId} {args : Array Value} {below : List Frame} {meth : Method} {c : Code} {T : State} {locs : List Loc} {cells slots : Nat}
theorem vx_callV (X : Stand p l e R s m args below meth c T locs cells slots) (hexec : p.tables.exec = Jvm.exec) {own C : String} {index : Nat} {y : MethodName} {bytes : ByteArray} {maxL : Nat} {ret : Option FieldType}
    (hown : s.vm.findClass own = some m.cls) (hlink : (Cond.methodLink own index y).before args s = true) (hinst : (Cond.instanceMethod y).before args s = true) (hsel : (Cond.selects C y y).before args s = true)
    (hcode : (Cond.code y bytes maxL ret).before args s = true) (hy : y.cls ≠ "java/lang/invoke/MethodHandle" ∧ y.cls ≠ "java/lang/invoke/VarHandle")
    {W9 : Nat} {Pre : Pt → Array Value → Prop} {Post : Pt → Array Value → Option Value → Pt → Prop} {PostX : Pt → Array Value → Addr → Pt → Prop} (hK : vx_Back l R p e below s args y 3 W9 Pre Post PostX)
    {b : Addr} {cellB : Cell} (hcell : T.heap[b]? = some cellB) (hobj : cellB.vm.isStatics = false) (hcls : s.vm.findClass C = some cellB.cls)
    {g : JFrame} (hg : g.method = m) (hsize : g.locals.size = c.maxLocals) {argsL rest : List Value} (hlen : ∀ sig, parseMethodDescriptor y.desc = some sig → argsL.length = sig.parameters.length)
    (hstack : g.stack = argsL.reverse ++ .ref b :: rest) (hW : 2 * g.monitorRoom + (rest.map fun v => v.category).sum ≤ W9) (hdg : decode c.code g.pc = .ok (.invokevirtual index, 3))
    (hpre : ∀ vm₁, s.WarmedH vm₁ → Pre ⟨T.setVm vm₁, locs, cells, slots⟩ (Value.ref b :: argsL).toArray) :
    (∃ (v : Option Value) (vm₁ : Vm) (B : Pt), s.WarmedH vm₁ ∧ Stand p l e R s m args below meth c B.U B.locs B.cells B.slots ∧ Post ⟨T.setVm vm₁, locs, cells, slots⟩ (Value.ref b :: argsL).toArray v B ∧
      ∀ target, Steps p.tables e below (B.U.setTop { g with pc := g.pc + 3, stack := v.toList ++ rest }) target → Steps p.tables e below (T.setTop g) target) ∨
    (∃ (q : Addr) (vm₁ : Vm) (B : Pt), s.WarmedH vm₁ ∧ Stand p l e R s m args below meth c B.U B.locs B.cells B.slots ∧ PostX ⟨T.setVm vm₁, locs, cells, slots⟩ (Value.ref b :: argsL).toArray q B ∧
      Steps p.tables e below (T.setTop g) ((B.U.setTop { g with stack := rest }).pushFrame (.throwing q))) := by
  obtain ⟨mk, methM, hnamed, hmethM, hstM, habM⟩ := Cond.instanceMethod_spec hinst
  obtain ⟨methM', cM, hmethM', -, -, -, -, -, -, hsigM⟩ := Cond.code_spec hnamed hcode
  cases hmethM.symm.trans hmethM'
  obtain ⟨c2, r2, m2, q1, q2, q3, q4, kP, hkP, hkPi⟩ := Cond.selects_spec hsel
  cases hcls.symm.trans q1
  cases (State.methodFound?_of_named hnamed hy).symm.trans q2
  cases hnamed.symm.trans q3
  have hselP : selectMethod e.platform s.vm cellB.cls mk = .method mk := by rw [Launch.admits_selectMethod X.admits]; exact q4
  obtain ⟨vm₁, X₁, hstep₁⟩ := X.invokevirtual hexec hown hlink hnamed hmethM hstM hkP hkPi hy (a := b) (cell := cellB) hcell
    (fun z h => by rw [h] at hobj; cases hobj) hselP hmethM habM hkP hkPi (g := g) hg (argsL := argsL) (rest := rest) (hlen _ hsigM) hstack hdg
  rcases hK m meth c ⟨T.setVm vm₁, locs, cells, slots⟩ { g with stack := rest } (.invokevirtual index) mk (Value.ref b :: argsL).toArray X₁ hg hsize hdg hW (X₁.named hnamed) (hpre vm₁ X₁.warmed) with ⟨v, B, X', hpost, hsteps⟩ | ⟨q, B, X', hpost, hsteps⟩
  · exact Or.inl ⟨v, vm₁, B, X₁.warmed, X', hpost, fun target h => hstep₁ _ fun acts => by rw [doInvoke_state]; exact hsteps.trans h⟩
  · exact Or.inr ⟨q, vm₁, B, X₁.warmed, X', hpost, hstep₁ _ fun acts => by rw [doInvoke_state]; exact hsteps⟩
theorem vx_callS (X : Stand p l e R s m args below meth c T locs cells slots) (hexec : p.tables.exec = Jvm.exec) {own : String} {index : Nat} {y : MethodName} {bytes : ByteArray} {maxL : Nat} {ret : Option FieldType}
    (hown : s.vm.findClass own = some m.cls) (hlink : (Cond.methodLink own index y).before args s = true) (hstat : (Cond.static y).before args s = true) (hinit : (Cond.initialized y.cls).before args s = true)
    (hcode : (Cond.code y bytes maxL ret).before args s = true) (hy : y.cls ≠ "java/lang/invoke/MethodHandle" ∧ y.cls ≠ "java/lang/invoke/VarHandle")
    {W9 : Nat} {Pre : Pt → Array Value → Prop} {Post : Pt → Array Value → Option Value → Pt → Prop} {PostX : Pt → Array Value → Addr → Pt → Prop} (hK : vx_Back l R p e below s args y 3 W9 Pre Post PostX)
    {g : JFrame} (hg : g.method = m) (hsize : g.locals.size = c.maxLocals) {argsL rest : List Value} (hlen : ∀ sig, parseMethodDescriptor y.desc = some sig → argsL.length = sig.parameters.length)
    (hstack : g.stack = argsL.reverse ++ rest) (hW : 2 * g.monitorRoom + (rest.map fun v => v.category).sum ≤ W9) (hdg : decode c.code g.pc = .ok (.invokestatic index, 3))
    (hpre : ∀ vm₁, s.WarmedH vm₁ → Pre ⟨T.setVm vm₁, locs, cells, slots⟩ argsL.toArray) :
    (∃ (v : Option Value) (vm₁ : Vm) (B : Pt), s.WarmedH vm₁ ∧ Stand p l e R s m args below meth c B.U B.locs B.cells B.slots ∧ Post ⟨T.setVm vm₁, locs, cells, slots⟩ argsL.toArray v B ∧
      ∀ target, Steps p.tables e below (B.U.setTop { g with pc := g.pc + 3, stack := v.toList ++ rest }) target → Steps p.tables e below (T.setTop g) target) ∨
    (∃ (q : Addr) (vm₁ : Vm) (B : Pt), s.WarmedH vm₁ ∧ Stand p l e R s m args below meth c B.U B.locs B.cells B.slots ∧ PostX ⟨T.setVm vm₁, locs, cells, slots⟩ argsL.toArray q B ∧
      Steps p.tables e below (T.setTop g) ((B.U.setTop { g with stack := rest }).pushFrame (.throwing q))) := by
  obtain ⟨mk, hnamed⟩ := Cond.code_named hcode
  obtain ⟨methM, cM, hmethM, -, -, -, -, -, -, hsigM⟩ := Cond.code_spec hnamed hcode
  have hstatic : methM.isStatic = true := Cond.static_spec hnamed hmethM hstat
  obtain ⟨kP, hkP, -⟩ := className_of_methodNamed hnamed
  have hinitP : kP.init = .initialized := Cond.initialized_spec (findClass_of_methodNamed hnamed) hkP hinit
  obtain ⟨vm₁, X₁, hstep₁⟩ := X.invokestatic hexec hown hlink hnamed hmethM hstatic hkP hinitP hy (g := g) hg (argsL := argsL) (rest := rest) (hlen _ hsigM) hstack hdg
  rcases hK m meth c ⟨T.setVm vm₁, locs, cells, slots⟩ { g with stack := rest } (.invokestatic index) mk argsL.toArray X₁ hg hsize hdg hW (X₁.named hnamed) (hpre vm₁ X₁.warmed) with ⟨v, B, X', hpost, hsteps⟩ | ⟨q, B, X', hpost, hsteps⟩
  · exact Or.inl ⟨v, vm₁, B, X₁.warmed, X', hpost, fun target h => hstep₁ _ fun acts => by rw [doInvoke_state]; exact hsteps.trans h⟩
  · exact Or.inr ⟨q, vm₁, B, X₁.warmed, X', hpost, hstep₁ _ fun acts => by rw [doInvoke_state]; exact hsteps⟩
end Calls
theorem vx_cls {s : State} {T : State} {vm₁ : Vm} {E : String} {k : ClassId} (hW : s.WarmedH vm₁) (h : (T.setVm vm₁).vm.findClass E = some k) : s.vm.findClass E = some k := by
  have h1 : vm₁.findClass E = some k := h
  rw [hW.alike.findClass] at h1
  exact h1
/-- the method's frame g, with q thrown over it -/
def vx_W (p : Program) (l : Launch) (e : Env) (R : Room) (s : State) (m : MethodId) (args : Array Value) (below : List Frame) (meth : Method) (c : Code) (H : Heap) (locs : List Loc) (cells slots : Nat) (Q : State → Prop) (g : JFrame) (q : Addr) : Prop :=
  ∀ T : State, T.heap = H → Stand p l e R s m args below meth c T locs cells slots → ∃ t, Steps p.tables e below ((T.setTop g).pushFrame (.throwing q)) t ∧ Q t
def vx_Run (p : Program) (l : Launch) (e : Env) (R : Room) (s : State) (m : MethodId) (args : Array Value) (below : List Frame) (meth : Method) (c : Code) (H : Heap) (locs : List Loc) (cells slots mc ms : Nat) (g : JFrame) (rest : List Value) (Qa : State → Outcome → State → Prop) (XC : String → State → State → Prop) (free : Addr → Prop) : Prop :=
  ∀ T : State, T.heap = H → Stand p l e R s m args below meth c T locs cells slots →
    (∃ (v : Option Value) (st₀ t T' : State) (L : List Loc), st₀.heap = H ∧ Stand p l e R s m args below meth c T' (locs ++ L) (cells + mc) (slots + ms) ∧ (∀ q ∈ L, free q.base) ∧ T'.heap = t.heap ∧ T'.vm = t.vm ∧ Qa st₀ (.returned v) t ∧
      Goes p e below T g T' { g with pc := g.pc + 3, stack := v.toList ++ rest }) ∨
    (∃ (q : Addr) (st₀ t T' : State) (L : List Loc) (E : String) (ce : Cell), st₀.heap = H ∧ Stand p l e R s m args below meth c T' (locs ++ L) (cells + mc) (slots + ms) ∧ (∀ z ∈ L, free z.base) ∧ T'.heap = t.heap ∧ T'.vm = t.vm ∧ XC E st₀ t ∧ t.heap[q]? = some ce ∧ ce.vm = .none ∧ s.vm.findClass E = some ce.cls ∧
      Steps p.tables e below (T.setTop g) ((T'.setTop { g with stack := rest }).pushFrame (.throwing q)))
def vx_X {S : Type} (px : S → Prop) (B : String → S → State → Prop) (A : Nat → Prop) : String → State → State → Prop := fun E st t => ∃ u : S, px u ∧ B E u t ∧ va_F A st t
section Runs
variable {p : Program} {l : Launch} {e : Env} {R : Room} {s : State} {m : MethodId} {args : Array Value} {below : List Frame} {meth : Method} {c : Code} {H : Heap} {locs : List Loc} {cells slots : Nat}
variable {y : MethodName} {bytes cc : ByteArray} {maxL nL mc ms n index : Nat} {ret : Option FieldType} {ws : List Cond} {rm : Room} {Pc : Array Value → State → Prop} {Qc : Array Value → State → Outcome → State → Prop} {XC : String → State → State → Prop} {free : Addr → Prop} {Ts : List Cond} {own C : String} {b : Addr} {As rest : List Value} {g : JFrame}
theorem vx_callBack (cb : CallB R s args own index y bytes maxL ret ws rm mc ms n) (hM : vx_Met l y ws rm Pc Qc XC mc ms free) (hbl : FrameBlind Pc) : vx_Back l R p e below s args y 3 8 (PreOf R mc ms Pc) (PostOf Qc mc ms free) (vx_Post XC mc ms free) := by
  obtain ⟨hrc, hrs, hfr, hlo, hws, hcw, -, hini, -⟩ := cb
  exact vx_back (bytes := bytes) (maxL := maxL) (ret := ret) hM hbl hrc hrs hfr hlo hws hcw (fun a' U hW => word_at hW (Or.inl (by first | rfl | simp [Cond.onTables, Cond.keeps, Cond.steady])) hini)
theorem vx_runV (S : CallFix p m c cc nL s args Ts own) (hM : vx_Met l y ws rm Pc Qc XC mc ms free) (cw : CallW R s args own C index y bytes maxL ret ws rm mc ms n) (hp : PreV s H C b Pc As)
    (hg : g.method = m) (hn : As.length = n) (hsize : g.locals.size = nL) (hstack : g.stack = As.reverse ++ .ref b :: rest) (hW : 2 * g.monitorRoom + (rest.map fun v => v.category).sum ≤ 8) (hdg : decode cc g.pc = .ok (.invokevirtual index, 3)) (hf : cells + mc ≤ R.cells ∧ slots + ms ≤ R.slots) :
    vx_Run p l e R s m args below meth c H locs cells slots mc ms g rest (Qc (Value.ref b :: As).toArray) XC free := by
  have hK : vx_Back l R p e below s args y 3 8 (PreOf R mc ms Pc) (PostOf Qc mc ms free) (vx_Post XC mc ms free) := vx_callBack cw.1 hM hp.1
  obtain ⟨⟨-, -, -, -, -, -, hcode, -, hy, hlen, hl⟩, hin, hse⟩ := cw
  obtain ⟨hx, hb, hml, ho, -⟩ := S
  obtain ⟨-, ⟨cellB, hcB, hoB, hclB⟩, hPc⟩ := hp
  intro T hT X
  rcases vx_callV X hx (C := C) (bytes := bytes) (maxL := maxL) (ret := ret) ho hl hin hse hcode hy hK (by rw [hT]; exact hcB) hoB hclB hg (hsize.trans hml.symm) (argsL := As) (rest := rest) (fun sig h => hn.trans (hlen sig h)) hstack hW (by rw [hb]; exact hdg)
    (fun vm₁ hW₁ => ⟨hf.1, hf.2, hPc (T.setVm vm₁) hT hW₁⟩) with ⟨v, vm₁, ⟨U', l2, c2, s2⟩, hW₁, X', ⟨g', mk, t, L, e1, e2, hq, h1, hL, h2, h3⟩, st⟩ | ⟨q, vm₁, ⟨U', l2, c2, s2⟩, hW₁, X', ⟨g', mk, t, L, E, ce, e1, e2, hq, hce, hcv, hcl, h1, hL, h2, h3⟩, st⟩
  · dsimp only [Pt.U, Pt.locs, Pt.cells, Pt.slots] at X' e1 e2 h1 h2 h3 st
    subst h1; subst h2; subst h3
    exact Or.inl ⟨v, (T.setVm vm₁).calling g' mk (Value.ref b :: As).toArray, t, U', L, hT, X', hL, e1, e2, hq, st⟩
  · dsimp only [Pt.U, Pt.locs, Pt.cells, Pt.slots] at X' e1 e2 h1 h2 h3 st hcl
    subst h1; subst h2; subst h3
    exact Or.inr ⟨q, (T.setVm vm₁).calling g' mk (Value.ref b :: As).toArray, t, U', L, E, ce, hT, X', hL, e1, e2, hq, hce, hcv, vx_cls hW₁ hcl, st⟩
theorem vx_runS (S : CallFix p m c cc nL s args Ts own) (hM : vx_Met l y ws rm Pc Qc XC mc ms free) (cw : CallB R s args own index y bytes maxL ret ws rm mc ms n ∧ (Cond.static y).before args s = true) (hp : PreS s H Pc As)
    (hg : g.method = m) (hn : As.length = n) (hsize : g.locals.size = nL) (hstack : g.stack = As.reverse ++ rest) (hW : 2 * g.monitorRoom + (rest.map fun v => v.category).sum ≤ 8) (hdg : decode cc g.pc = .ok (.invokestatic index, 3)) (hf : cells + mc ≤ R.cells ∧ slots + ms ≤ R.slots) :
    vx_Run p l e R s m args below meth c H locs cells slots mc ms g rest (Qc As.toArray) XC free := by
  have hK : vx_Back l R p e below s args y 3 8 (PreOf R mc ms Pc) (PostOf Qc mc ms free) (vx_Post XC mc ms free) := vx_callBack cw.1 hM hp.1
  obtain ⟨⟨-, -, -, -, -, -, hcode, hini, hy, hlen, hl⟩, hstt⟩ := cw
  obtain ⟨hx, hb, hml, ho, -⟩ := S
  intro T hT X
  rcases vx_callS X hx (bytes := bytes) (maxL := maxL) (ret := ret) ho hl hstt hini hcode hy hK hg (hsize.trans hml.symm) (argsL := As) (rest := rest) (fun sig h => hn.trans (hlen sig h)) hstack hW (by rw [hb]; exact hdg)
    (fun vm₁ hW₁ => ⟨hf.1, hf.2, hp.2 (T.setVm vm₁) hT hW₁⟩) with ⟨v, vm₁, ⟨U', l2, c2, s2⟩, hW₁, X', ⟨g', mk, t, L, e1, e2, hq, h1, hL, h2, h3⟩, st⟩ | ⟨q, vm₁, ⟨U', l2, c2, s2⟩, hW₁, X', ⟨g', mk, t, L, E, ce, e1, e2, hq, hce, hcv, hcl, h1, hL, h2, h3⟩, st⟩
  · dsimp only [Pt.U, Pt.locs, Pt.cells, Pt.slots] at X' e1 e2 h1 h2 h3 st
    subst h1; subst h2; subst h3
    exact Or.inl ⟨v, (T.setVm vm₁).calling g' mk As.toArray, t, U', L, hT, X', hL, e1, e2, hq, st⟩
  · dsimp only [Pt.U, Pt.locs, Pt.cells, Pt.slots] at X' e1 e2 h1 h2 h3 st hcl
    subst h1; subst h2; subst h3
    exact Or.inr ⟨q, (T.setVm vm₁).calling g' mk As.toArray, t, U', L, E, ce, hT, X', hL, e1, e2, hq, hce, hcv, vx_cls hW₁ hcl, st⟩
end Runs
section Rows
variable {p : Program} {l : Launch} {e : Env} {R : Room} {s : State} {m : MethodId} {args : Array Value} {below : List Frame} {meth : Method} {c : Code} {H : Heap} {locs : List Loc} {cells slots : Nat} {Q : State → Prop}
variable {mc ms : Nat} {free : Addr → Prop} {A0 A1 : Nat → Prop} {H0 : Heap} {a : Array Value} {pc : Nat} {ls : Array Slot} {st0 rest : List Value}
theorem vx_keep {st₀ t T' : State} {L : List Loc} (h0 : st₀.heap = H) (e1 : T'.heap = t.heap) (hS : va_S A0 H0 H locs) (hA : ∀ q, q < H.size → A1 q → A0 q) (hf : ∀ q, free q → A0 q) (hL : ∀ q ∈ L, free q.base) (hF : va_F A1 st₀ t) :
    H.size ≤ T'.heap.size ∧ (∀ q : Nat, q < H.size → ¬ A1 q → T'.heap[q]? = H[q]?) ∧ va_S A0 H0 T'.heap (locs ++ L) := by
  obtain ⟨hz, hk⟩ := hF
  rw [h0] at hz hk
  exact ⟨by rw [e1]; exact hz, fun q h1 h2 => by rw [e1]; exact hk q h1 h2,
    ⟨Nat.le_trans hS.1 (by rw [e1]; exact hz), fun q h1 h2 => by rw [e1, hk q (Nat.lt_of_lt_of_le h1 hS.1) (fun z => h2 (hA q (Nat.lt_of_lt_of_le h1 hS.1) z))]; exact hS.2.1 q h1 h2, fun q hq => by
      rcases List.mem_append.mp hq with h | h
      · exact hS.2.2 q h
      · exact hf _ (hL q h)⟩⟩
theorem vx_calli {S SX : Type} {post : Int32 → S → Prop} {px : SX → Prop} {B : S → State → Prop} {BX : String → SX → State → Prop} {AX : Nat → Prop} (hr : vx_Run p l e R s m args below meth c H locs cells slots mc ms (F0 m pc ls st0) rest (va_Qi post B A1 a) (vx_X px BX AX) free) (hS : va_S A0 H0 H locs) (hA : ∀ q, q < H.size → A1 q → A0 q) (hf : ∀ q, free q → A0 q) (hAX : ∀ q, q < H.size → AX q → A0 q)
    (kx : ∀ (E : String) (ce : Cell) (q9 : Addr) (u : SX) (t : State) (H1 : Heap) (locs1 : List Loc), t.heap = H1 → s.vm.Alike t.vm → px u → BX E u t → H.size ≤ H1.size → (∀ q : Nat, q < H.size → ¬ AX q → H1[q]? = H[q]?) → va_S A0 H0 H1 locs1 → H1[q9]? = some ce → ce.vm = .none → s.vm.findClass E = some ce.cls → vx_W p l e R s m args below meth c H1 locs1 (cells + mc) (slots + ms) Q (F0 m pc ls rest) q9)
    (kk : ∀ (r : Int32) (u : S) (t : State) (H1 : Heap) (locs1 : List Loc), t.heap = H1 → s.vm.Alike t.vm → post r u → B u t → H.size ≤ H1.size → (∀ q : Nat, q < H.size → ¬ A1 q → H1[q]? = H[q]?) → va_S A0 H0 H1 locs1 → W p l e R s m args below meth c H1 locs1 (cells + mc) (slots + ms) Q (F0 m (pc + 3) ls (.int r :: rest))) : W p l e R s m args below meth c H locs cells slots Q (F0 m pc ls st0) := by
  intro T hT X
  rcases hr T hT X with ⟨v, st₀, t, T', L, h0, X', hL, e1, e2, ⟨⟨r, u, hv, hp, hb⟩, hF⟩, st⟩ | ⟨q, st₀, t, T', L, E, ce, h0, X', hL, e1, e2, ⟨u, hp, hb, hF⟩, hce, hcv, hcl, st⟩
  · cases hv
    obtain ⟨k1, k2, k3⟩ := vx_keep h0 e1 hS hA hf hL hF
    obtain ⟨t2, a1, b1⟩ := kk r u t T'.heap (locs ++ L) e1.symm (by rw [← e2]; exact X'.warmed.alike) hp hb k1 k2 k3 T' rfl X'
    exact ⟨t2, st t2 a1, b1⟩
  · obtain ⟨k1, k2, k3⟩ := vx_keep h0 e1 hS hAX hf hL hF
    obtain ⟨t2, a1, b1⟩ := kx E ce q u t T'.heap (locs ++ L) e1.symm (by rw [← e2]; exact X'.warmed.alike) hp hb k1 k2 k3 (by rw [e1]; exact hce) hcv hcl T' rfl X'
    exact ⟨t2, st.trans a1, b1⟩
theorem vx_calll {S SX : Type} {post : Int64 → S → Prop} {px : SX → Prop} {B : S → State → Prop} {BX : String → SX → State → Prop} {AX : Nat → Prop} (hr : vx_Run p l e R s m args below meth c H locs cells slots mc ms (F0 m pc ls st0) rest (va_Ql post B A1 a) (vx_X px BX AX) free) (hS : va_S A0 H0 H locs) (hA : ∀ q, q < H.size → A1 q → A0 q) (hf : ∀ q, free q → A0 q) (hAX : ∀ q, q < H.size → AX q → A0 q)
    (kx : ∀ (E : String) (ce : Cell) (q9 : Addr) (u : SX) (t : State) (H1 : Heap) (locs1 : List Loc), t.heap = H1 → s.vm.Alike t.vm → px u → BX E u t → H.size ≤ H1.size → (∀ q : Nat, q < H.size → ¬ AX q → H1[q]? = H[q]?) → va_S A0 H0 H1 locs1 → H1[q9]? = some ce → ce.vm = .none → s.vm.findClass E = some ce.cls → vx_W p l e R s m args below meth c H1 locs1 (cells + mc) (slots + ms) Q (F0 m pc ls rest) q9)
    (kk : ∀ (r : Int64) (u : S) (t : State) (H1 : Heap) (locs1 : List Loc), t.heap = H1 → s.vm.Alike t.vm → post r u → B u t → H.size ≤ H1.size → (∀ q : Nat, q < H.size → ¬ A1 q → H1[q]? = H[q]?) → va_S A0 H0 H1 locs1 → W p l e R s m args below meth c H1 locs1 (cells + mc) (slots + ms) Q (F0 m (pc + 3) ls (.long r :: rest))) : W p l e R s m args below meth c H locs cells slots Q (F0 m pc ls st0) := by
  intro T hT X
  rcases hr T hT X with ⟨v, st₀, t, T', L, h0, X', hL, e1, e2, ⟨⟨r, u, hv, hp, hb⟩, hF⟩, st⟩ | ⟨q, st₀, t, T', L, E, ce, h0, X', hL, e1, e2, ⟨u, hp, hb, hF⟩, hce, hcv, hcl, st⟩
  · cases hv
    obtain ⟨k1, k2, k3⟩ := vx_keep h0 e1 hS hA hf hL hF
    obtain ⟨t2, a1, b1⟩ := kk r u t T'.heap (locs ++ L) e1.symm (by rw [← e2]; exact X'.warmed.alike) hp hb k1 k2 k3 T' rfl X'
    exact ⟨t2, st t2 a1, b1⟩
  · obtain ⟨k1, k2, k3⟩ := vx_keep h0 e1 hS hAX hf hL hF
    obtain ⟨t2, a1, b1⟩ := kx E ce q u t T'.heap (locs ++ L) e1.symm (by rw [← e2]; exact X'.warmed.alike) hp hb k1 k2 k3 (by rw [e1]; exact hce) hcv hcl T' rfl X'
    exact ⟨t2, st.trans a1, b1⟩
theorem vx_callf {S SX : Type} {post : UInt32 → S → Prop} {px : SX → Prop} {B : S → State → Prop} {BX : String → SX → State → Prop} {AX : Nat → Prop} (hr : vx_Run p l e R s m args below meth c H locs cells slots mc ms (F0 m pc ls st0) rest (va_Qf post B A1 a) (vx_X px BX AX) free) (hS : va_S A0 H0 H locs) (hA : ∀ q, q < H.size → A1 q → A0 q) (hf : ∀ q, free q → A0 q) (hAX : ∀ q, q < H.size → AX q → A0 q)
    (kx : ∀ (E : String) (ce : Cell) (q9 : Addr) (u : SX) (t : State) (H1 : Heap) (locs1 : List Loc), t.heap = H1 → s.vm.Alike t.vm → px u → BX E u t → H.size ≤ H1.size → (∀ q : Nat, q < H.size → ¬ AX q → H1[q]? = H[q]?) → va_S A0 H0 H1 locs1 → H1[q9]? = some ce → ce.vm = .none → s.vm.findClass E = some ce.cls → vx_W p l e R s m args below meth c H1 locs1 (cells + mc) (slots + ms) Q (F0 m pc ls rest) q9)
    (kk : ∀ (r : UInt32) (u : S) (t : State) (H1 : Heap) (locs1 : List Loc), t.heap = H1 → s.vm.Alike t.vm → post r u → B u t → H.size ≤ H1.size → (∀ q : Nat, q < H.size → ¬ A1 q → H1[q]? = H[q]?) → va_S A0 H0 H1 locs1 → W p l e R s m args below meth c H1 locs1 (cells + mc) (slots + ms) Q (F0 m (pc + 3) ls (.float r :: rest))) : W p l e R s m args below meth c H locs cells slots Q (F0 m pc ls st0) := by
  intro T hT X
  rcases hr T hT X with ⟨v, st₀, t, T', L, h0, X', hL, e1, e2, ⟨⟨r, u, hv, hp, hb⟩, hF⟩, st⟩ | ⟨q, st₀, t, T', L, E, ce, h0, X', hL, e1, e2, ⟨u, hp, hb, hF⟩, hce, hcv, hcl, st⟩
  · cases hv
    obtain ⟨k1, k2, k3⟩ := vx_keep h0 e1 hS hA hf hL hF
    obtain ⟨t2, a1, b1⟩ := kk r u t T'.heap (locs ++ L) e1.symm (by rw [← e2]; exact X'.warmed.alike) hp hb k1 k2 k3 T' rfl X'
    exact ⟨t2, st t2 a1, b1⟩
  · obtain ⟨k1, k2, k3⟩ := vx_keep h0 e1 hS hAX hf hL hF
    obtain ⟨t2, a1, b1⟩ := kx E ce q u t T'.heap (locs ++ L) e1.symm (by rw [← e2]; exact X'.warmed.alike) hp hb k1 k2 k3 (by rw [e1]; exact hce) hcv hcl T' rfl X'
    exact ⟨t2, st.trans a1, b1⟩
theorem vx_calld {S SX : Type} {post : UInt64 → S → Prop} {px : SX → Prop} {B : S → State → Prop} {BX : String → SX → State → Prop} {AX : Nat → Prop} (hr : vx_Run p l e R s m args below meth c H locs cells slots mc ms (F0 m pc ls st0) rest (va_Qd post B A1 a) (vx_X px BX AX) free) (hS : va_S A0 H0 H locs) (hA : ∀ q, q < H.size → A1 q → A0 q) (hf : ∀ q, free q → A0 q) (hAX : ∀ q, q < H.size → AX q → A0 q)
    (kx : ∀ (E : String) (ce : Cell) (q9 : Addr) (u : SX) (t : State) (H1 : Heap) (locs1 : List Loc), t.heap = H1 → s.vm.Alike t.vm → px u → BX E u t → H.size ≤ H1.size → (∀ q : Nat, q < H.size → ¬ AX q → H1[q]? = H[q]?) → va_S A0 H0 H1 locs1 → H1[q9]? = some ce → ce.vm = .none → s.vm.findClass E = some ce.cls → vx_W p l e R s m args below meth c H1 locs1 (cells + mc) (slots + ms) Q (F0 m pc ls rest) q9)
    (kk : ∀ (r : UInt64) (u : S) (t : State) (H1 : Heap) (locs1 : List Loc), t.heap = H1 → s.vm.Alike t.vm → post r u → B u t → H.size ≤ H1.size → (∀ q : Nat, q < H.size → ¬ A1 q → H1[q]? = H[q]?) → va_S A0 H0 H1 locs1 → W p l e R s m args below meth c H1 locs1 (cells + mc) (slots + ms) Q (F0 m (pc + 3) ls (.double r :: rest))) : W p l e R s m args below meth c H locs cells slots Q (F0 m pc ls st0) := by
  intro T hT X
  rcases hr T hT X with ⟨v, st₀, t, T', L, h0, X', hL, e1, e2, ⟨⟨r, u, hv, hp, hb⟩, hF⟩, st⟩ | ⟨q, st₀, t, T', L, E, ce, h0, X', hL, e1, e2, ⟨u, hp, hb, hF⟩, hce, hcv, hcl, st⟩
  · cases hv
    obtain ⟨k1, k2, k3⟩ := vx_keep h0 e1 hS hA hf hL hF
    obtain ⟨t2, a1, b1⟩ := kk r u t T'.heap (locs ++ L) e1.symm (by rw [← e2]; exact X'.warmed.alike) hp hb k1 k2 k3 T' rfl X'
    exact ⟨t2, st t2 a1, b1⟩
  · obtain ⟨k1, k2, k3⟩ := vx_keep h0 e1 hS hAX hf hL hF
    obtain ⟨t2, a1, b1⟩ := kx E ce q u t T'.heap (locs ++ L) e1.symm (by rw [← e2]; exact X'.warmed.alike) hp hb k1 k2 k3 (by rw [e1]; exact hce) hcv hcl T' rfl X'
    exact ⟨t2, st.trans a1, b1⟩
theorem vx_callv {S SX : Type} {post : S → Prop} {px : SX → Prop} {B : S → State → Prop} {BX : String → SX → State → Prop} {AX : Nat → Prop} (hr : vx_Run p l e R s m args below meth c H locs cells slots mc ms (F0 m pc ls st0) rest (va_Qv post B A1 a) (vx_X px BX AX) free) (hS : va_S A0 H0 H locs) (hA : ∀ q, q < H.size → A1 q → A0 q) (hf : ∀ q, free q → A0 q) (hAX : ∀ q, q < H.size → AX q → A0 q)
    (kx : ∀ (E : String) (ce : Cell) (q9 : Addr) (u : SX) (t : State) (H1 : Heap) (locs1 : List Loc), t.heap = H1 → s.vm.Alike t.vm → px u → BX E u t → H.size ≤ H1.size → (∀ q : Nat, q < H.size → ¬ AX q → H1[q]? = H[q]?) → va_S A0 H0 H1 locs1 → H1[q9]? = some ce → ce.vm = .none → s.vm.findClass E = some ce.cls → vx_W p l e R s m args below meth c H1 locs1 (cells + mc) (slots + ms) Q (F0 m pc ls rest) q9)
    (kk : ∀ (u : S) (t : State) (H1 : Heap) (locs1 : List Loc), t.heap = H1 → s.vm.Alike t.vm → post u → B u t → H.size ≤ H1.size → (∀ q : Nat, q < H.size → ¬ A1 q → H1[q]? = H[q]?) → va_S A0 H0 H1 locs1 → W p l e R s m args below meth c H1 locs1 (cells + mc) (slots + ms) Q (F0 m (pc + 3) ls (rest))) : W p l e R s m args below meth c H locs cells slots Q (F0 m pc ls st0) := by
  intro T hT X
  rcases hr T hT X with ⟨v, st₀, t, T', L, h0, X', hL, e1, e2, ⟨⟨u, hv, hp, hb⟩, hF⟩, st⟩ | ⟨q, st₀, t, T', L, E, ce, h0, X', hL, e1, e2, ⟨u, hp, hb, hF⟩, hce, hcv, hcl, st⟩
  · cases hv
    obtain ⟨k1, k2, k3⟩ := vx_keep h0 e1 hS hA hf hL hF
    obtain ⟨t2, a1, b1⟩ := kk u t T'.heap (locs ++ L) e1.symm (by rw [← e2]; exact X'.warmed.alike) hp hb k1 k2 k3 T' rfl X'
    exact ⟨t2, st t2 a1, b1⟩
  · obtain ⟨k1, k2, k3⟩ := vx_keep h0 e1 hS hAX hf hL hF
    obtain ⟨t2, a1, b1⟩ := kx E ce q u t T'.heap (locs ++ L) e1.symm (by rw [← e2]; exact X'.warmed.alike) hp hb k1 k2 k3 (by rw [e1]; exact hce) hcv hcl T' rfl X'
    exact ⟨t2, st.trans a1, b1⟩
/-- caught by the row x of this method's table; the rows ahead don't take it -/
theorem vx_catch {own name : String} {E : String} {ce : Cell} {q : Addr} (hown : s.vm.findClass own = some m.cls) (pre : List ExceptionTableEntry) (x : ExceptionTableEntry) (suf : List ExceptionTableEntry) (hsplit : c.exceptionTable.toList = pre ++ x :: suf)
    (hpass : ∀ z ∈ pre, covers z pc = false ∨ (z.catchType ≠ 0 ∧ ∃ nm : String, (Cond.classLink own z.catchType nm).before args s = true ∧ va_Nc E nm s)) (hx : covers x pc = true) (h0 : x.catchType ≠ 0)
    (hlink : (Cond.classLink own x.catchType name).before args s = true) (hcast : (Cond.castable E name).before args s = true) (hcell : H[q]? = some ce) (hv : ce.vm = .none) (hcl : s.vm.findClass E = some ce.cls)
    (kk : W p l e R s m args below meth c H locs cells slots Q (F0 m x.handlerPc ls [.ref q])) : vx_W p l e R s m args below meth c H locs cells slots Q (F0 m pc ls rest) q := by
  intro T hT X
  have hpl : e.platform.magicAccessors = ({} : Platform).magicAccessors := by rw [X.admits.platform]
  obtain ⟨c3, c4, hc3, hc4, hasg⟩ := Cond.castable_spec hcast
  cases Option.some.inj (hc3.symm.trans hcl)
  obtain ⟨c5, hc5, hcl5⟩ := Cond.classLink_spec hown hlink e.platform hpl
  cases Option.some.inj (hc4.symm.trans hc5)
  obtain ⟨vm', X', st⟩ := X.thenCaughtThrough q (g := F0 m pc ls rest) rfl (Steps.refl _) (by rw [hT]; exact hcell) (by rw [hv]; rfl) (by obtain ⟨k9, h9, -⟩ := Vm.findClass_spec hcl; exact ⟨k9, h9⟩) pre x suf hsplit
    (fun z hz => by
      rcases hpass z hz with h | ⟨hz0, nm, hl1, hn1⟩
      · exact Or.inl h
      · obtain ⟨c6, hc6, hcl6⟩ := Cond.classLink_spec hown hl1 e.platform hpl
        obtain ⟨a8, b8, h1, h2, h3⟩ := hn1
        cases Option.some.inj (h1.symm.trans hcl)
        cases Option.some.inj (h2.symm.trans hc6)
        exact Or.inr ⟨hz0, _, hcl6, h3⟩) hx (Or.inr ⟨h0, c4, hcl5, hasg⟩)
  obtain ⟨t, a1, b1⟩ := kk (T.setVm vm') hT X'
  exact ⟨t, st.trans a1, b1⟩
end Rows
section Ends
variable {p : Program} {l : Launch} {e : Env} {R : Room} {s : State} {m : MethodId} {args : Array Value} {below : List Frame} {meth : Method} {c : Code} {H : Heap} {locs : List Loc} {cells slots : Nat} {Q : State → Prop}
variable {mc ms : Nat} {free : Addr → Prop} {A0 A1 : Nat → Prop} {H0 : Heap} {a : Array Value} {ls : Array Slot} {st0 rest : List Value}
variable {Qc : Array Value → State → Outcome → State → Prop} {XC : String → State → State → Prop}
/-- what a body that may throw owes at its end -/
def vx_MQ (below : List Frame) (Qc : Array Value → State → Outcome → State → Prop) (XC : String → State → State → Prop) (a : Array Value) (s : State) (mc ms : Nat) (free : Addr → Prop) : State → Prop := fun t =>
  ∃ o, t.status = .running ∧ Ended t below o ∧ vx_Q Qc XC mc ms free a s o t
theorem vx_ret {g : JFrame} {mc ms : Nat} (k : W p l e R s m args below meth c H locs cells slots (MQ below Qc args s mc ms free) g) : W p l e R s m args below meth c H locs cells slots (vx_MQ below Qc XC args s mc ms free) g := by
  intro T hT X
  obtain ⟨t, a1, o, b1, b2, b3, b4⟩ := k T hT X
  exact ⟨t, a1, o, b1, b2, Or.inl ⟨b3, b4⟩⟩
/-- not caught here: it goes on to the caller -/
theorem vx_widen {g : JFrame} {q : Addr} {k n : Nat} (h1 : cells ≤ k) (h2 : slots ≤ n) (kk : vx_W p l e R s m args below meth c H locs k n Q g q) : vx_W p l e R s m args below meth c H locs cells slots Q g q := fun T hT X => kk T hT (stand_widen X h1 h2)
theorem vx_out {pc : Nat} {E : String} {ce : Cell} {q : Addr} {mc ms : Nat} (hout : ∀ x ∈ c.exceptionTable.toList, covers x pc = false) (hlocks : meth.locks = false) (hcell : H[q]? = some ce) (hv : ce.vm = .none) (hcl : s.vm.findClass E = some ce.cls)
    (hx : ∀ t : State, t.heap = H → s.vm.Alike t.vm → XC E s t) (hf : ∀ z ∈ locs, free z.base) (hc : cells ≤ mc) (hs : slots ≤ ms) :
    vx_W p l e R s m args below meth c H locs cells slots (vx_MQ below Qc XC args s mc ms free) (F0 m pc ls rest) q := by
  intro T hT X
  obtain ⟨st1, hrun, hend, hW, hsm⟩ := X.leaveThrown q (g := F0 m pc ls rest) rfl rfl rfl hout hlocks
  have hcell9 : (T.setFrames (.throwing q :: below)).heap[q]? = some ce := by
    show T.heap[q]? = some ce
    rw [hT]; exact hcell
  exact ⟨_, st1, .threw q, hrun, hend, Or.inr ⟨q, rfl, E, ce, locs, hx _ hT hW.alike, hcell9, hv, hcl, hW, hsm.mono hc hs, hf⟩⟩
theorem vx_frame {U : State} {k n : Nat} (h : s.sameButNew ({ U with vm := s.vm } : State) locs k n) : s.heap.size ≤ U.heap.size ∧ ∀ q : Nat, q < s.heap.size → (∀ z ∈ locs, z.base ≠ q) → U.heap[q]? = s.heap[q]? := by
  obtain ⟨-, h2, -, -, -, h6⟩ := h
  refine ⟨h2, fun q hq hz => ?_⟩
  obtain ⟨c9, e1, e2, e3, e4⟩ := h6 q _ (Array.getElem?_eq_getElem hq)
  have hs : c9.slots = (s.heap[q]).slots := Array.ext_getElem? fun i => e4 i fun hm => hz _ hm rfl
  have h9 : c9 = s.heap[q] := by
    rw [hs] at e2
    exact e2
  have e5 : U.heap[q]? = some c9 := e1
  rw [e5, h9, Array.getElem?_eq_getElem hq]
/-- the words of a throw but the four that speak of the heap -/
def vx_no (w : Cond) : Bool := decide (w ≠ .isRef (.static Bundle.tN "UNASSIGNED_STACK" Bundle.steD)) && decide (w ≠ .isRef (.static Bundle.tN "SUPPRESSED_SENTINEL" Bundle.listD)) && decide (w ≠ .laysStatic Bundle.tN "UNASSIGNED_STACK" Bundle.steD) && decide (w ≠ .laysStatic Bundle.tN "SUPPRESSED_SENTINEL" Bundle.listD)
def vx_at0 (own : String) (ic : Nat) (X : String) (names : List String) : List Cond := (Bundle.ownAtoms0 own ic X names).filter vx_no
def vx_atS (own : String) (ic : Nat) (X : String) (names : List String) : List Cond := (Bundle.ownAtoms own ic X names).filter vx_no
/-- a word that the tables alone decide, or a good one -/
def vx_ot (w : Cond) : Bool := w.onTables || goodWord w
theorem vx_ot_at {args a' : Array Value} {s U : State} {w : Cond} (hW : s.WarmedH U.vm) (hvm : s.vm = U.vm) (hg : vx_ot w = true) (h : w.before args s = true) : w.before a' U = true := by
  simp only [vx_ot, Bool.or_eq_true] at hg
  rcases hg with hg | hg
  · exact va_tabs hg hvm h
  · exact word_at hW (good_of_word hg) h
/-- a list's words: the good ones out of the method's own list, the others by premises of their own -/
theorem vx_hat {args : Array Value} {s : State} {L B : List Cond} (h1 : ∀ w ∈ L.filter goodWord, w.before args s = true) (h2 : ∀ w ∈ L.filter (fun w => !goodWord w), w ∈ B) (h3 : ∀ w ∈ B, w.before args s = true) : ∀ w ∈ L, w.before args s = true := by
  intro w hw
  by_cases g : goodWord w = true
  · exact h1 w (List.mem_filter.mpr ⟨hw, g⟩)
  · refine h3 w (h2 w (List.mem_filter.mpr ⟨hw, ?_⟩))
    show (!goodWord w) = true
    cases hgw : goodWord w
    · rfl
    · exact absurd hgw g
theorem vx_c {args : Array Value} {s : State} {w : Cond} {B : List Cond} (h : w.before args s = true) (t : ∀ w ∈ B, w.before args s = true) : ∀ w' ∈ w :: B, w'.before args s = true := fun w' h' => (List.mem_cons.mp h').elim (fun e => by rw [e]; exact h) (t w')
theorem vx_n {args : Array Value} {s : State} : ∀ w ∈ ([] : List Cond), w.before args s = true := fun _ h => nomatch h
theorem vx_own {args : Array Value} {s : State} {L : List Cond} (h1 : ∀ w ∈ L.filter vx_no, w.before args s = true)
    (hU : (Cond.isRef (.static Bundle.tN "UNASSIGNED_STACK" Bundle.steD)).before args s = true) (hN : (Cond.isRef (.static Bundle.tN "SUPPRESSED_SENTINEL" Bundle.listD)).before args s = true)
    (lU : (Cond.laysStatic Bundle.tN "UNASSIGNED_STACK" Bundle.steD).before args s = true) (lN : (Cond.laysStatic Bundle.tN "SUPPRESSED_SENTINEL" Bundle.listD).before args s = true) : ∀ w ∈ L, w.before args s = true := by
  intro w hw
  by_cases e1 : w = .isRef (.static Bundle.tN "UNASSIGNED_STACK" Bundle.steD)
  · rw [e1]; exact hU
  · by_cases e2 : w = .isRef (.static Bundle.tN "SUPPRESSED_SENTINEL" Bundle.listD)
    · rw [e2]; exact hN
    · by_cases e3 : w = .laysStatic Bundle.tN "UNASSIGNED_STACK" Bundle.steD
      · rw [e3]; exact lU
      · by_cases e4 : w = .laysStatic Bundle.tN "SUPPRESSED_SENTINEL" Bundle.listD
        · rw [e4]; exact lN
        · exact h1 w (List.mem_filter.mpr ⟨hw, by unfold vx_no; rw [decide_eq_true e1, decide_eq_true e2, decide_eq_true e3, decide_eq_true e4]; rfl⟩)
/-- where a static field lies, its class's statics cell in H -/
def vx_L (C n d : String) (A : Nat → Prop) (U : State) (H : Heap) : Prop := ∃ (c : ClassId) (k : Class) (i : Nat) (f : Field) (a : Nat) (cell : Cell), U.vm.findClass C = some c ∧ U.fieldFound? C n d = some (c, k, i, f) ∧ f.isStatic = true ∧ k.statics = some a ∧ H[a]? = some cell ∧ cell.vm.isStatics = true ∧ cell.cls = c ∧ f.slot < cell.slots.size ∧ k.staticTypes[f.slot]? = some f.type ∧ ¬ A a
theorem vx_L.moved {C n d : String} {A : Nat → Prop} {u U : State} {H : Heap} (hvm : u.vm.Alike U.vm) (h : vx_L C n d A u H) : vx_L C n d A U H := by
  obtain ⟨c, k, i, f, a, cell, h1, h2, h3, h4, h5, h6, h7, h8, h9, h10⟩ := h
  obtain ⟨k', hi', he⟩ := State.fieldFound?_setVm hvm h2
  exact ⟨c, k', i, f, a, cell, by rw [hvm.findClass]; exact h1, hi', h3, by rw [he]; exact h4, h5, h6, h7, h8, by rw [he]; exact h9, h10⟩
theorem vx_L.kept {C n d : String} {A : Nat → Prop} {U : State} {H H1 : Heap} (h : vx_L C n d A U H) (hq : ∀ a : Nat, a < H.size → ¬ A a → H1[a]? = H[a]?) : vx_L C n d A U H1 := by
  obtain ⟨c, k, i, f, a, cell, h1, h2, h3, h4, h5, h6, h7, h8, h9, h10⟩ := h
  exact ⟨c, k, i, f, a, cell, h1, h2, h3, h4, by rw [hq a (Array.getElem?_eq_some_iff.mp h5).1 h10]; exact h5, h6, h7, h8, h9, h10⟩
theorem vx_L.narrow {C n d : String} {A B : Nat → Prop} {U : State} {H : Heap} (h : vx_L C n d A U H) (hAB : ∀ q, B q → A q) : vx_L C n d B U H := by
  obtain ⟨c, k, i, f, a, cell, h1, h2, h3, h4, h5, h6, h7, h8, h9, h10⟩ := h
  exact ⟨c, k, i, f, a, cell, h1, h2, h3, h4, h5, h6, h7, h8, h9, fun z => h10 (hAB _ z)⟩
theorem vx_L.word {C n d : String} {A : Nat → Prop} {s : State} {args : Array Value} (h : vx_L C n d A s s.heap) : (Cond.laysStatic C n d).before args s = true := by
  obtain ⟨c, k, i, f, a, cell, h1, h2, h3, h4, h5, h6, h7, h8, h9, -⟩ := h
  show (Cond.laysStatic C n d).holds args s none s [] = true
  exact Cond.laysStatic_of h1 h2 h3 h4 h5 h6 h7 h8 h9
/-- .. and what it holds: null or some reference -/
def vx_Zq (C n d : String) (A : Nat → Prop) (U : State) (H : Heap) : Prop := va_Zq C n d A U H ∧ vx_L C n d A U H
theorem vx_Zq.moved {C n d : String} {A : Nat → Prop} {u U : State} {H : Heap} (hvm : u.vm.Alike U.vm) (h : vx_Zq C n d A u H) : vx_Zq C n d A U H := ⟨va_Zq.moved hvm h.1, vx_L.moved hvm h.2⟩
theorem vx_Zq.kept {C n d : String} {A : Nat → Prop} {U : State} {H H1 : Heap} (h : vx_Zq C n d A U H) (hq : ∀ a : Nat, a < H.size → ¬ A a → H1[a]? = H[a]?) : vx_Zq C n d A U H1 := ⟨va_Zq.kept h.1 hq, vx_L.kept h.2 hq⟩
theorem vx_Zq.narrow {C n d : String} {A B : Nat → Prop} {U : State} {H : Heap} (h : vx_Zq C n d A U H) (hAB : ∀ q, B q → A q) : vx_Zq C n d B U H := ⟨va_Zq.narrow h.1 hAB, vx_L.narrow h.2 hAB⟩
theorem vx_Zqof {args : Array Value} {s : State} {C n d : String} {A : Nat → Prop} (hl : (Cond.laysStatic C n d).before args s = true) (hini : (Cond.initialized C).before args s = true) (h : (Cond.isRef (.static C n d)).before args s = true) (hA : ∀ a : Nat, a < s.heap.size → ¬ A a) : vx_Zq C n d A s s.heap := by
  refine ⟨va_Zqof hl hini h hA, ?_⟩
  obtain ⟨c, k, i, f, a, cell, h1, h2, h3, h4, h5, h6, h7, h8, h9⟩ := Cond.laysStatic_spec hl
  exact ⟨c, k, i, f, a, cell, h1, h2, h3, h4, h5, h6, h7, h8, h9, hA a (Array.getElem?_eq_some_iff.mp h5).1⟩
theorem vx_isRef {C n d : String} {v : Value} {A : Nat → Prop} {s : State} {args : Array Value} (h : va_Z C n d v A s s.heap) (hv : v.isRef = true) : (Cond.isRef (.static C n d)).before args s = true := by
  obtain ⟨cf, kf, fi, f, a, cell, h1, h2, h3, h4, h5, h6, h7, -⟩ := h
  have he : (Term.static C n d).eval args s none [] s = some v := by
    simp [Term.eval, State.fieldNamed?, h1, h2, h4, h5, h6, h7]
  simp only [Cond.before, Cond.holds, Cond.value, he]
  cases v <;> simp_all [Value.isRef]
theorem vx_isRefq {C n d : String} {A : Nat → Prop} {s : State} {args : Array Value} (h : va_Zq C n d A s s.heap) : (Cond.isRef (.static C n d)).before args s = true := by
  rcases h with h | ⟨t, h⟩
  · exact vx_isRef h rfl
  · exact vx_isRef h rfl
/-- the same frame, seen from here: as if the method were called anew in this heap -/
theorem vx_rebase {T : State} (X : Stand p l e R s m args below meth c T locs cells slots) {R' : Room} (hf : R'.frames ≤ R.frames) (hl : R'.locals ≤ R.locals) (hc : cells + R'.cells ≤ R.cells) (hs : slots + R'.slots ≤ R.slots) :
    Stand p l e R' ((T.setVm s.vm).setFrames (.invoking m args :: below)) m args below meth c T [] 0 0 := by
  have htop : (T.setVm s.vm).topJava?.isSome := X.here.top
  have hF : ((T.setVm s.vm).setFrames (.invoking m args :: below)).frames = .invoking m args :: below := State.frames_setFrames _ (State.cur_lt_of_top htop)
  obtain ⟨g₀, hg0⟩ := Option.isSome_iff_exists.mp htop
  obtain ⟨r, hr⟩ := State.topJava?_eq_some.mp hg0
  have hl9 : e.platform.stackLimits (T.setVm s.vm).me = e.platform.stackLimits s.me := X.limits
  have hb9 : (T.setVm s.vm).me.stackBytes = s.me.stackBytes := X.bytes
  refine ⟨X.admits, X.cas, X.clock, hF, ?_, X.hears, X.method, X.code, X.here, X.tail, X.warmed, ?_, ?_, ?_⟩
  · have h := X.room
    have hU : ((T.setVm s.vm).setFrames (.invoking m args :: below)).localsInUse = s.localsInUse := by
      rw [State.localsInUse_invoking hF (meth := meth) (c := c) X.method X.code, State.localsInUse_invoking X.frames X.method X.code]
    simp only [State.hasRoom, Bool.and_eq_true, decide_eq_true_eq] at h ⊢
    obtain ⟨⟨⟨⟨h1, h2, h3, h4, h5, h6⟩, h7⟩, h8⟩, h9⟩ := h
    rw [X.frames, List.length_cons] at h2 h3
    have q1 := X.heapSize
    have q2 := X.used
    simp only [hF, hU, List.length_cons, State.stackLimits_setFrames, State.stackBytes_setFrames, hl9, hb9]
    refine ⟨⟨⟨⟨by omega, by omega, by omega, by omega, by omega, h6⟩, ?_⟩, ?_⟩, X.book⟩
    · show T.heap.size + R'.cells ≤ e.platform.maxCells
      omega
    · show T.slotsUsed + R'.slots ≤ e.platform.maxSlots
      omega
  · rw [State.stackLimits_setFrames]; rfl
  · rw [State.stackBytes_setFrames]; rfl
  · refine ⟨?_, Nat.le_refl _, Nat.le_refl _, ?_, ?_, fun a c9 h9 => ⟨c9, h9, rfl, rfl, fun _ _ => rfl⟩⟩
    · obtain ⟨t, ht, -⟩ := State.frames_cons hr
      show T.setVm s.vm = { ((T.setVm s.vm).setFrames (.invoking m args :: below)).setFrames (T.setVm s.vm).frames with heap := T.heap, slotsUsed := T.slotsUsed }
      rw [State.setFrames_setFrames, State.setFrames_self ht]
      rfl
    · show T.slotsUsed = T.slotsUsed + ((T.heap.toList.drop T.heap.size).map (·.slots.size)).sum
      rw [List.drop_eq_nil_of_le (Nat.le_of_eq Array.length_toList)]
      rfl
    · show ((T.heap.toList.drop T.heap.size).map (·.slots.size)).sum ≤ 0
      rw [List.drop_eq_nil_of_le (Nat.le_of_eq Array.length_toList)]
      exact Nat.le_refl _
/-- 'throw new E()': new; dup; invokespecial; athrow -/
theorem vx_throw0 {cc : ByteArray} {pc : Nat} (hexec : p.tables.exec = Jvm.exec) (hb : c.code = cc) (hl : l.stackTraces = false) {own cls : String} {names : List String} {ik ic mc ms : Nat} {A : Nat → Prop}
    (hown : s.vm.findClass own = some m.cls) (hcls : Bundle.fit cls = true) (hnames : ∀ n ∈ names, Bundle.fit n = true)
    (hk : (Cond.classLink own ik cls).before args s = true) (hini : (Cond.initialized cls).before args s = true) (hat : ∀ w ∈ vx_at0 own ic cls names, w.before args s = true)
    (hgood : ∀ w ∈ Cond.classLink own ik cls :: Cond.initialized cls :: vx_at0 own ic cls names, vx_ot w = true)
    (hU : vx_Zq Bundle.tN "UNASSIGNED_STACK" Bundle.steD A s s.heap) (hN : vx_Zq Bundle.tN "SUPPRESSED_SENTINEL" Bundle.listD A s s.heap) (hS : va_S A s.heap H locs) (hsize : ls.size = c.maxLocals)
    (d0 : decode cc pc = .ok (.new ik, 3)) (d3 : decode cc (pc + 3) = .ok (.dup, 1)) (d4 : decode cc (pc + 4) = .ok (.invokespecial ic, 3)) (d7 : decode cc (pc + 7) = .ok (.athrow, 1))
    (hout : ∀ x ∈ c.exceptionTable.toList, covers x (pc + 7) = false)
    (hRframes : names.length + 3 < R.frames) (hRlocals : (rest.map fun v => v.category).sum + (13 * (names.length + 1) + 42) ≤ R.locals) (hRcells : cells + 1 ≤ R.cells) (hRslots : slots + 6 ≤ R.slots) (hlocks : meth.locks = false)
    (hx : ∀ t : State, s.vm.Alike t.vm → H.size ≤ t.heap.size → (∀ q : Nat, q < H.size → t.heap[q]? = H[q]?) → XC cls s t)
    (hf : ∀ z ∈ locs, free z.base) (hc : cells + 1 ≤ mc) (hs : slots + 6 ≤ ms) :
    W p l e R s m args below meth c H locs cells slots (vx_MQ below Qc XC args s mc ms free) (F0 m pc ls rest) := by
  intro T hT X
  have htr : e.platform.stackTraces = false := (show e.platform.stackTraces = l.stackTraces by rw [X.admits.platform]).trans hl
  have Y := vx_rebase X (R' := { frames := R.frames, locals := R.locals, cells := 1, slots := 6 }) (Nat.le_refl _) (Nat.le_refl _) hRcells hRslots
  obtain ⟨s', hA⟩ : ∃ z, z = (T.setVm s.vm).setFrames (.invoking m args :: below) := ⟨_, rfl⟩
  rw [← hA] at Y
  have hvm : s'.vm = s.vm := by rw [hA]; rfl
  have hhp : s'.heap = H := by rw [hA]; exact hT
  have hW0 : s.WarmedH s'.vm := by rw [hvm]; exact State.WarmedH.refl s
  have hat' : ∀ w ∈ vx_at0 own ic cls names, w.before args s' = true := fun w hw => vx_ot_at hW0 hvm.symm (hgood w (List.mem_cons_of_mem _ (List.mem_cons_of_mem _ hw))) (hat w hw)
  have hk' : (Cond.classLink own ik cls).before args s' = true := vx_ot_at hW0 hvm.symm (hgood _ List.mem_cons_self) hk
  have hini' : (Cond.initialized cls).before args s' = true := vx_ot_at hW0 hvm.symm (hgood _ (List.mem_cons_of_mem _ List.mem_cons_self)) hini
  have hU' : vx_Zq Bundle.tN "UNASSIGNED_STACK" Bundle.steD A s' s'.heap := by rw [hhp]; exact vx_Zq.moved hW0.alike (hU.kept hS.2.1)
  have hN' : vx_Zq Bundle.tN "SUPPRESSED_SENTINEL" Bundle.listD A s' s'.heap := by rw [hhp]; exact vx_Zq.moved hW0.alike (hN.kept hS.2.1)
  have h : ∀ w ∈ Bundle.ownAtoms0 own ic cls names, w.before args s' = true := vx_own hat' (vx_isRefq hU'.1) (vx_isRefq hN'.1) hU'.2.word hN'.2.word
  have hown' : s'.vm.findClass own = some m.cls := by rw [hvm]; exact hown
  have hins : (Cond.instantiable cls 6).before args s' = true := h _ (by simp [Bundle.ownAtoms0])
  obtain ⟨vm₁, cX, kX, hfX, hkX, -, -, X₁, st1⟩ := Y.newCold hexec (own := own) (C := cls) (index := ik) (n := 6) hown' hk' hins hini'
    (g := F0 m pc ls rest) rfl (by rw [hb]; exact d0) (Nat.le_refl _) (Nat.le_refl _)
  generalize hT1 : (T.setVm vm₁).pushCell { cls := cX, slots := kX.instanceTypes.map defaultValue, vm := .none } = T1 at X₁ st1
  have hcat : (Value.ref T.heap.size).category = 1 := rfl
  have hcellA : T1.heap[T.heap.size]? = some (freshCell cX kX) := by rw [← hT1]; exact State.heap_pushCell_size _ _
  have d3' : decode c.code (pc + 3) = .ok (.dup, 1) := by rw [hb]; exact d3
  obtain ⟨U, hsteps, hrun, hend, hW, hsame, ce, hce, hO⟩ := X₁.ctorThrow0 hexec htr (own := own) (cls := cls) (names := names) (ic := ic) hown' hcls hnames h (fun x hx => nomatch hx) hfX hkX hcellA (by rw [hhp, hT]; exact Nat.le_refl _)
    (g := { method := m, pc := pc + 4, locals := ls, stack := .ref T.heap.size :: .ref T.heap.size :: rest, locked := none }) rfl hsize rfl rfl (rest := rest) rfl
    (by rw [hb]; exact d4) (by rw [hb]; exact d7) hout hRframes (by simp only [List.map_cons, List.sum_cons, hcat]; omega) hlocks
  obtain ⟨f1, f2⟩ := vx_frame hsame
  rw [hhp] at f1 f2
  have hWs : s.WarmedH U.vm := State.WarmedH.trans hW0 hW
  have hcl : s.vm.findClass cls = some ce.cls := by
    have h9 := hO.cls
    rw [hvm] at h9
    exact h9
  have hall : s.sameButNew ({ U with vm := s.vm } : State) locs mc ms := by
    subst hA
    obtain ⟨e1, e2⟩ := hsame
    rw [State.setFrames_setFrames] at e1
    have h2 : (T.setVm s.vm).sameButNew ({ U with vm := s.vm } : State) [] (0 + 1) (0 + 6) := ⟨e1, e2⟩
    have h3 := X.same.trans h2
    rw [List.append_nil] at h3
    exact h3.mono hc hs
  refine ⟨U, ?_, .threw T.heap.size, hrun, hend, Or.inr ⟨T.heap.size, rfl, cls, ce, locs, hx U hWs.alike f1 (fun q hq => f2 q hq (fun z hz => nomatch hz)), hce, hO.vm, hcl, hWs, hall, hf⟩⟩
  refine st1 _ ?_
  show Steps p.tables e below (T1.setTop { method := m, pc := pc + 3, locals := ls, stack := .ref T.heap.size :: rest, locked := none }) _
  jvm_step X₁.here [X₁.here.top, hexec, d3', Value.category]
  exact hsteps
/-- 'throw new E("text")': new; dup; ldc; invokespecial; athrow -/
theorem vx_throwS {cc : ByteArray} {pc : Nat} (hexec : p.tables.exec = Jvm.exec) (hb : c.code = cc) (hl : l.stackTraces = false) {own cls text : String} {names : List String} {ik is ic mc ms sa : Nat} {A : Nat → Prop}
    (hown : s.vm.findClass own = some m.cls) (hcls : Bundle.fit cls = true) (hnames : ∀ n ∈ names, Bundle.fit n = true)
    (hk : (Cond.classLink own ik cls).before args s = true) (hini : (Cond.initialized cls).before args s = true) (hstr : vk_R own is text sa s) (hat : ∀ w ∈ vx_atS own ic cls names, w.before args s = true)
    (hgood : ∀ w ∈ Cond.classLink own ik cls :: Cond.initialized cls :: vx_atS own ic cls names, vx_ot w = true)
    (hU : vx_Zq Bundle.tN "UNASSIGNED_STACK" Bundle.steD A s s.heap) (hN : vx_Zq Bundle.tN "SUPPRESSED_SENTINEL" Bundle.listD A s s.heap) (hS : va_S A s.heap H locs) (hsize : ls.size = c.maxLocals)
    (d0 : decode cc pc = .ok (.new ik, 3)) (d3 : decode cc (pc + 3) = .ok (.dup, 1)) (d4 : decode cc (pc + 4) = .ok (.ldc is, 2)) (d6 : decode cc (pc + 6) = .ok (.invokespecial ic, 3)) (d9 : decode cc (pc + 9) = .ok (.athrow, 1))
    (hout : ∀ x ∈ c.exceptionTable.toList, covers x (pc + 9) = false)
    (hRframes : names.length + 3 < R.frames) (hRlocals : (rest.map fun v => v.category).sum + (13 * (names.length + 1) + 43) ≤ R.locals) (hRcells : cells + 1 ≤ R.cells) (hRslots : slots + 6 ≤ R.slots) (hlocks : meth.locks = false)
    (hx : ∀ t : State, s.vm.Alike t.vm → H.size ≤ t.heap.size → (∀ q : Nat, q < H.size → t.heap[q]? = H[q]?) → XC cls s t)
    (hf : ∀ z ∈ locs, free z.base) (hc : cells + 1 ≤ mc) (hs : slots + 6 ≤ ms) :
    W p l e R s m args below meth c H locs cells slots (vx_MQ below Qc XC args s mc ms free) (F0 m pc ls rest) := by
  intro T hT X
  have htr : e.platform.stackTraces = false := (show e.platform.stackTraces = l.stackTraces by rw [X.admits.platform]).trans hl
  have Y := vx_rebase X (R' := { frames := R.frames, locals := R.locals, cells := 1, slots := 6 }) (Nat.le_refl _) (Nat.le_refl _) hRcells hRslots
  obtain ⟨s', hA⟩ : ∃ z, z = (T.setVm s.vm).setFrames (.invoking m args :: below) := ⟨_, rfl⟩
  rw [← hA] at Y
  have hvm : s'.vm = s.vm := by rw [hA]; rfl
  have hhp : s'.heap = H := by rw [hA]; exact hT
  have hW0 : s.WarmedH s'.vm := by rw [hvm]; exact State.WarmedH.refl s
  have hat' : ∀ w ∈ vx_atS own ic cls names, w.before args s' = true := fun w hw => vx_ot_at hW0 hvm.symm (hgood w (List.mem_cons_of_mem _ (List.mem_cons_of_mem _ hw))) (hat w hw)
  have hk' : (Cond.classLink own ik cls).before args s' = true := vx_ot_at hW0 hvm.symm (hgood _ List.mem_cons_self) hk
  have hini' : (Cond.initialized cls).before args s' = true := vx_ot_at hW0 hvm.symm (hgood _ (List.mem_cons_of_mem _ List.mem_cons_self)) hini
  have hU' : vx_Zq Bundle.tN "UNASSIGNED_STACK" Bundle.steD A s' s'.heap := by rw [hhp]; exact vx_Zq.moved hW0.alike (hU.kept hS.2.1)
  have hN' : vx_Zq Bundle.tN "SUPPRESSED_SENTINEL" Bundle.listD A s' s'.heap := by rw [hhp]; exact vx_Zq.moved hW0.alike (hN.kept hS.2.1)
  have h : ∀ w ∈ Bundle.ownAtoms own ic cls names, w.before args s' = true := vx_own hat' (vx_isRefq hU'.1) (vx_isRefq hN'.1) hU'.2.word hN'.2.word
  have hown' : s'.vm.findClass own = some m.cls := by rw [hvm]; exact hown
  have hins : (Cond.instantiable cls 6).before args s' = true := h _ (by simp [Bundle.ownAtoms])
  obtain ⟨vm₁, cX, kX, hfX, hkX, -, -, X₁, st1⟩ := Y.newCold hexec (own := own) (C := cls) (index := ik) (n := 6) hown' hk' hins hini'
    (g := F0 m pc ls rest) rfl (by rw [hb]; exact d0) (Nat.le_refl _) (Nat.le_refl _)
  generalize hT1 : (T.setVm vm₁).pushCell { cls := cX, slots := kX.instanceTypes.map defaultValue, vm := .none } = T1 at X₁ st1
  have hcat : (Value.ref T.heap.size).category = 1 := rfl
  have hcellA : T1.heap[T.heap.size]? = some (freshCell cX kX) := by rw [← hT1]; exact State.heap_pushCell_size _ _
  have d3' : decode c.code (pc + 3) = .ok (.dup, 1) := by rw [hb]; exact d3
  have d4' : decode c.code (pc + 4) = .ok (.ldc is, 2) := by rw [hb]; exact d4
  have hstr' : vk_R own is text sa s' := vk_R.warm hW0 hstr
  obtain ⟨U, hsteps, hrun, hend, hW, hsame, ce, hce, hO⟩ := X₁.ctorThrowS hexec htr (own := own) (cls := cls) (names := names) (ic := ic) hown' hcls hnames h (fun x hx => nomatch hx) hfX hkX hcellA (by rw [hhp, hT]; exact Nat.le_refl _) (msg := .ref sa) rfl
    (g := { method := m, pc := pc + 6, locals := ls, stack := .ref sa :: .ref T.heap.size :: .ref T.heap.size :: rest, locked := none }) rfl hsize rfl rfl (rest := rest) rfl
    (by rw [hb]; exact d6) (by rw [hb]; exact d9) hout hRframes (by simp only [List.map_cons, List.sum_cons, hcat]; omega) hlocks
  obtain ⟨f1, f2⟩ := vx_frame hsame
  rw [hhp] at f1 f2
  have hWs : s.WarmedH U.vm := State.WarmedH.trans hW0 hW
  have hcl : s.vm.findClass cls = some ce.cls := by
    have h9 := hO.cls
    rw [hvm] at h9
    exact h9
  have hall : s.sameButNew ({ U with vm := s.vm } : State) locs mc ms := by
    subst hA
    obtain ⟨e1, e2⟩ := hsame
    rw [State.setFrames_setFrames] at e1
    have h2 : (T.setVm s.vm).sameButNew ({ U with vm := s.vm } : State) [] (0 + 1) (0 + 6) := ⟨e1, e2⟩
    have h3 := X.same.trans h2
    rw [List.append_nil] at h3
    exact h3.mono hc hs
  refine ⟨U, ?_, .threw T.heap.size, hrun, hend, Or.inr ⟨T.heap.size, rfl, cls, ce, locs, hx U hWs.alike f1 (fun q hq => f2 q hq (fun z hz => nomatch hz)), hce, hO.vm, hcl, hWs, hall, hf⟩⟩
  refine st1 _ ?_
  show Steps p.tables e below (T1.setTop { method := m, pc := pc + 3, locals := ls, stack := .ref T.heap.size :: rest, locked := none }) _
  jvm_step X₁.here [X₁.here.top, hexec, d3', Value.category]
  exact X₁.ldcString hexec (own := own) (text := text) (index := is) (a := sa) hown' hstr'.1 hstr'.2
    (g := { method := m, pc := pc + 4, locals := ls, stack := .ref T.heap.size :: .ref T.heap.size :: rest, locked := none }) rfl d4' _ hsteps
/-- 'throw new E("text")', the text by a wide index -/
theorem vx_throwSW {cc : ByteArray} {pc : Nat} (hexec : p.tables.exec = Jvm.exec) (hb : c.code = cc) (hl : l.stackTraces = false) {own cls text : String} {names : List String} {ik is ic mc ms sa : Nat} {A : Nat → Prop}
    (hown : s.vm.findClass own = some m.cls) (hcls : Bundle.fit cls = true) (hnames : ∀ n ∈ names, Bundle.fit n = true)
    (hk : (Cond.classLink own ik cls).before args s = true) (hini : (Cond.initialized cls).before args s = true) (hstr : vk_R own is text sa s) (hat : ∀ w ∈ vx_atS own ic cls names, w.before args s = true)
    (hgood : ∀ w ∈ Cond.classLink own ik cls :: Cond.initialized cls :: vx_atS own ic cls names, vx_ot w = true)
    (hU : vx_Zq Bundle.tN "UNASSIGNED_STACK" Bundle.steD A s s.heap) (hN : vx_Zq Bundle.tN "SUPPRESSED_SENTINEL" Bundle.listD A s s.heap) (hS : va_S A s.heap H locs) (hsize : ls.size = c.maxLocals)
    (d0 : decode cc pc = .ok (.new ik, 3)) (d3 : decode cc (pc + 3) = .ok (.dup, 1)) (d4 : decode cc (pc + 4) = .ok (.ldc_w is, 3)) (d7 : decode cc (pc + 7) = .ok (.invokespecial ic, 3)) (d10 : decode cc (pc + 10) = .ok (.athrow, 1))
    (hout : ∀ x ∈ c.exceptionTable.toList, covers x (pc + 10) = false)
    (hRframes : names.length + 3 < R.frames) (hRlocals : (rest.map fun v => v.category).sum + (13 * (names.length + 1) + 43) ≤ R.locals) (hRcells : cells + 1 ≤ R.cells) (hRslots : slots + 6 ≤ R.slots) (hlocks : meth.locks = false)
    (hx : ∀ t : State, s.vm.Alike t.vm → H.size ≤ t.heap.size → (∀ q : Nat, q < H.size → t.heap[q]? = H[q]?) → XC cls s t)
    (hf : ∀ z ∈ locs, free z.base) (hc : cells + 1 ≤ mc) (hs : slots + 6 ≤ ms) :
    W p l e R s m args below meth c H locs cells slots (vx_MQ below Qc XC args s mc ms free) (F0 m pc ls rest) := by
  intro T hT X
  have htr : e.platform.stackTraces = false := (show e.platform.stackTraces = l.stackTraces by rw [X.admits.platform]).trans hl
  have Y := vx_rebase X (R' := { frames := R.frames, locals := R.locals, cells := 1, slots := 6 }) (Nat.le_refl _) (Nat.le_refl _) hRcells hRslots
  obtain ⟨s', hA⟩ : ∃ z, z = (T.setVm s.vm).setFrames (.invoking m args :: below) := ⟨_, rfl⟩
  rw [← hA] at Y
  have hvm : s'.vm = s.vm := by rw [hA]; rfl
  have hhp : s'.heap = H := by rw [hA]; exact hT
  have hW0 : s.WarmedH s'.vm := by rw [hvm]; exact State.WarmedH.refl s
  have hat' : ∀ w ∈ vx_atS own ic cls names, w.before args s' = true := fun w hw => vx_ot_at hW0 hvm.symm (hgood w (List.mem_cons_of_mem _ (List.mem_cons_of_mem _ hw))) (hat w hw)
  have hk' : (Cond.classLink own ik cls).before args s' = true := vx_ot_at hW0 hvm.symm (hgood _ List.mem_cons_self) hk
  have hini' : (Cond.initialized cls).before args s' = true := vx_ot_at hW0 hvm.symm (hgood _ (List.mem_cons_of_mem _ List.mem_cons_self)) hini
  have hU' : vx_Zq Bundle.tN "UNASSIGNED_STACK" Bundle.steD A s' s'.heap := by rw [hhp]; exact vx_Zq.moved hW0.alike (hU.kept hS.2.1)
  have hN' : vx_Zq Bundle.tN "SUPPRESSED_SENTINEL" Bundle.listD A s' s'.heap := by rw [hhp]; exact vx_Zq.moved hW0.alike (hN.kept hS.2.1)
  have h : ∀ w ∈ Bundle.ownAtoms own ic cls names, w.before args s' = true := vx_own hat' (vx_isRefq hU'.1) (vx_isRefq hN'.1) hU'.2.word hN'.2.word
  have hown' : s'.vm.findClass own = some m.cls := by rw [hvm]; exact hown
  have hins : (Cond.instantiable cls 6).before args s' = true := h _ (by simp [Bundle.ownAtoms])
  obtain ⟨vm₁, cX, kX, hfX, hkX, -, -, X₁, st1⟩ := Y.newCold hexec (own := own) (C := cls) (index := ik) (n := 6) hown' hk' hins hini'
    (g := F0 m pc ls rest) rfl (by rw [hb]; exact d0) (Nat.le_refl _) (Nat.le_refl _)
  generalize hT1 : (T.setVm vm₁).pushCell { cls := cX, slots := kX.instanceTypes.map defaultValue, vm := .none } = T1 at X₁ st1
  have hcat : (Value.ref T.heap.size).category = 1 := rfl
  have hcellA : T1.heap[T.heap.size]? = some (freshCell cX kX) := by rw [← hT1]; exact State.heap_pushCell_size _ _
  have d3' : decode c.code (pc + 3) = .ok (.dup, 1) := by rw [hb]; exact d3
  have d4' : decode c.code (pc + 4) = .ok (.ldc_w is, 3) := by rw [hb]; exact d4
  have hstr' : vk_R own is text sa s' := vk_R.warm hW0 hstr
  obtain ⟨U, hsteps, hrun, hend, hW, hsame, ce, hce, hO⟩ := X₁.ctorThrowS hexec htr (own := own) (cls := cls) (names := names) (ic := ic) hown' hcls hnames h (fun x hx => nomatch hx) hfX hkX hcellA (by rw [hhp, hT]; exact Nat.le_refl _) (msg := .ref sa) rfl
    (g := { method := m, pc := pc + 7, locals := ls, stack := .ref sa :: .ref T.heap.size :: .ref T.heap.size :: rest, locked := none }) rfl hsize rfl rfl (rest := rest) rfl
    (by rw [hb]; exact d7) (by rw [hb]; exact d10) hout hRframes (by simp only [List.map_cons, List.sum_cons, hcat]; omega) hlocks
  obtain ⟨f1, f2⟩ := vx_frame hsame
  rw [hhp] at f1 f2
  have hWs : s.WarmedH U.vm := State.WarmedH.trans hW0 hW
  have hcl : s.vm.findClass cls = some ce.cls := by
    have h9 := hO.cls
    rw [hvm] at h9
    exact h9
  have hall : s.sameButNew ({ U with vm := s.vm } : State) locs mc ms := by
    subst hA
    obtain ⟨e1, e2⟩ := hsame
    rw [State.setFrames_setFrames] at e1
    have h2 : (T.setVm s.vm).sameButNew ({ U with vm := s.vm } : State) [] (0 + 1) (0 + 6) := ⟨e1, e2⟩
    have h3 := X.same.trans h2
    rw [List.append_nil] at h3
    exact h3.mono hc hs
  refine ⟨U, ?_, .threw T.heap.size, hrun, hend, Or.inr ⟨T.heap.size, rfl, cls, ce, locs, hx U hWs.alike f1 (fun q hq => f2 q hq (fun z hz => nomatch hz)), hce, hO.vm, hcl, hWs, hall, hf⟩⟩
  refine st1 _ ?_
  show Steps p.tables e below (T1.setTop { method := m, pc := pc + 3, locals := ls, stack := .ref T.heap.size :: rest, locked := none }) _
  jvm_step X₁.here [X₁.here.top, hexec, d3', Value.category]
  exact X₁.ldcStringW hexec (own := own) (text := text) (index := is) (a := sa) hown' hstr'.1 hstr'.2
    (g := { method := m, pc := pc + 4, locals := ls, stack := .ref T.heap.size :: .ref T.heap.size :: rest, locked := none }) rfl d4' _ hsteps
end Ends
section Bodies
variable {l : Launch}
theorem vx_ofW {y : MethodName} {ws ws' : List Cond} {rm : Room} {Pc : Array Value → State → Prop} {Qc : Array Value → State → Outcome → State → Prop} {XC : String → State → State → Prop} {mc ms : Nat} {free : Addr → Prop} {cc : ByteArray} {maxL : Nat} {ret : Option FieldType}
    (hy : plainName y.cls = true) (hw : ws = Cond.code y cc maxL ret :: ws')
    (body : ∀ p e s m args below meth c s₁, BodyLoose p l y (headSpec ws rm) cc maxL ret e s m args below meth c s₁ → c.maxLocals = maxL → (∀ x ∈ c.exceptionTable.toList, False) → Pc args s →
      W p l e (headSpec ws rm).room s m args below meth c s.heap [] 0 0 (vx_MQ below Qc XC args s mc ms free) (entryFrame m args maxL)) : vx_Met l y ws rm Pc Qc XC mc ms free := by
  refine MetFree.of_bodyS (code := cc) (maxLocals := maxL) (ret := ret) hy ?_ ?_
  · intro args s m h hn
    obtain ⟨meth, c, h1, h2, h3, h4, h5, h6, -, -⟩ := Cond.code_spec hn (atoms_spec (ws := ws) h _ (by rw [hw]; exact List.mem_cons_self))
    exact ⟨meth, c, h1, h2, h3, h4, h5, h6⟩
  · intro p e s m args below meth c s₁ B hml hP _
    have hh0 : s₁.heap = s.heap := by rw [B.state]; rfl
    have ht : ∀ x ∈ c.exceptionTable.toList, False := by
      obtain ⟨meth9, c9, h1, h2, -, -, -, -, h7, -⟩ := Cond.code_spec B.named (atoms_spec (ws := ws) B.pre _ (by rw [hw]; exact List.mem_cons_self))
      cases Option.some.inj (h1.symm.trans B.method)
      cases Option.some.inj (h2.symm.trans (Stand.of_body B).code)
      intro x hx
      rw [Array.isEmpty_iff.mp h7] at hx
      cases hx
    obtain ⟨t, a1, o, b1, b2, b3⟩ := body p e s m args below meth c s₁ B hml ht hP s₁ hh0 (Stand.of_body B)
    exact ⟨t, o, a1, b1, b2, b3⟩
/-- the table of a body with handlers -/
theorem vx_table {p : Program} {x y : MethodName} {S : Spec} {cc bytes : ByteArray} {maxL maxL' : Nat} {ret ret' : Option FieldType} {e : Env} {s s₁ : State} {m : MethodId} {args : Array Value} {below : List Frame} {meth : Method} {c : Code} {hh : List (Nat × Nat × Nat × Nat)}
    (B : BodyLoose p l y S cc maxL ret e s m args below meth c s₁) (h : (Cond.codeWith y bytes maxL' ret' hh).before args s = true) : c.exceptionTable.toList = tableOf hh := by
  obtain ⟨m9, meth9, c9, hn9, h1, h2, -, -, h6, -⟩ := Cond.codeWith_spec h
  cases Option.some.inj (hn9.symm.trans B.named)
  cases Option.some.inj (h1.symm.trans B.method)
  cases Option.some.inj (h2.symm.trans (Stand.of_body B).code)
  rw [← h6, table_eq]
end Bodies
end VXA
/-! ===== END ===== -/
/-! ===== BEGIN a static call of a method with an exception table ===== -/
section VXS
variable {p : Program} {l : Launch} {e : Env} {R : Room} {s : State} {m : MethodId} {args : Array Value} {below : List Frame} {meth : Method} {c : Code} {T : State} {H : Heap} {locs : List Loc} {cells slots : Nat}
abbrev vx_CSW (R : Room) (s : State) (args : Array Value) (own : String) (index : Nat) (y : MethodName) (bytes : ByteArray) (maxL : Nat) (ret : Option FieldType) (hh : List (Nat × Nat × Nat × Nat)) (ws : List Cond) (rm : Room) (mc ms n : Nat) : Prop :=
  (rm.cells = mc ∧ rm.slots = ms ∧ rm.frames + 1 ≤ R.frames ∧ 8 + (maxL + 11) + rm.locals ≤ R.locals ∧ (∀ w ∈ ws, ∀ (a' : Array Value) (U : State), s.WarmedH U.vm → w.before a' U = true) ∧ Cond.codeWith y bytes maxL ret hh ∈ ws) ∧
  (Cond.codeWith y bytes maxL ret hh).before args s = true ∧ (Cond.initialized y.cls).before args s = true ∧ (y.cls ≠ "java/lang/invoke/MethodHandle" ∧ y.cls ≠ "java/lang/invoke/VarHandle") ∧
  (∀ sig, parseMethodDescriptor y.desc = some sig → n = sig.parameters.length) ∧ (Cond.methodLink own index y).before args s = true ∧ (Cond.static y).before args s = true
theorem vx_cwSW {own : String} {index maxL mc ms : Nat} {y : MethodName} {bytes : ByteArray} {ret : Option FieldType} {hh : List (Nat × Nat × Nat × Nat)} {Ts ws ws' : List Cond} {rm : Room} (n : Nat) (ht : ∀ w ∈ Ts, w.before args s = true) (hT : GoodIn Ts (va_wsS own index y ws)) (hw : ws = Cond.codeWith y bytes maxL ret hh :: ws') (hrc : rm.cells = mc) (hrs : rm.slots = ms)
    (hd : y.cls ≠ "java/lang/invoke/MethodHandle" ∧ y.cls ≠ "java/lang/invoke/VarHandle" ∧ (parseMethodDescriptor y.desc).map (fun d => d.parameters.length) = some n) (hR : rm.frames + 1 ≤ R.frames ∧ 8 + (maxL + 11) + rm.locals ≤ R.locals) :
    vx_CSW R s args own index y bytes maxL ret hh ws rm mc ms n := by
  have ok : ∀ w ∈ va_wsS own index y ws, w.before args s = true := fun w h => ht w (hT w h).1
  have hG : GoodIn Ts ws := fun w h => hT w (by unfold va_wsS; exact List.mem_append_right _ h)
  have hc : Cond.codeWith y bytes maxL ret hh ∈ ws := by rw [hw]; exact List.mem_cons_self
  refine ⟨⟨hrc, hrs, hR.1, hR.2, pay_in ht hG, hc⟩, ht _ (hG _ hc).1, ok _ (by simp [va_wsS]), ⟨hd.1, hd.2.1⟩, fun sig h => ?_, ok _ (by simp [va_wsS]), ok _ (by simp [va_wsS])⟩
  have h2 := hd.2.2
  rw [h] at h2
  exact (Option.some.inj h2).symm
theorem vx_callSW (X : Stand p l e R s m args below meth c T locs cells slots) (hexec : p.tables.exec = Jvm.exec) {own : String} {index : Nat} {y : MethodName} {bytes : ByteArray} {maxL : Nat} {ret : Option FieldType} {hh : List (Nat × Nat × Nat × Nat)}
    (hown : s.vm.findClass own = some m.cls) (hlink : (Cond.methodLink own index y).before args s = true) (hstat : (Cond.static y).before args s = true) (hinit : (Cond.initialized y.cls).before args s = true)
    (hcode : (Cond.codeWith y bytes maxL ret hh).before args s = true) (hy : y.cls ≠ "java/lang/invoke/MethodHandle" ∧ y.cls ≠ "java/lang/invoke/VarHandle")
    {W9 : Nat} {Pre : Pt → Array Value → Prop} {Post : Pt → Array Value → Option Value → Pt → Prop} (hK : Back l R p e below s args y 3 W9 Pre Post)
    {g : JFrame} (hg : g.method = m) (hsize : g.locals.size = c.maxLocals) {argsL rest : List Value} (hlen : ∀ sig, parseMethodDescriptor y.desc = some sig → argsL.length = sig.parameters.length)
    (hstack : g.stack = argsL.reverse ++ rest) (hW : 2 * g.monitorRoom + (rest.map fun v => v.category).sum ≤ W9) (hdg : decode c.code g.pc = .ok (.invokestatic index, 3))
    (hpre : ∀ vm₁, s.WarmedH vm₁ → Pre ⟨T.setVm vm₁, locs, cells, slots⟩ argsL.toArray) :
    ∃ (v : Option Value) (vm₁ : Vm) (B : Pt), s.WarmedH vm₁ ∧ Stand p l e R s m args below meth c B.U B.locs B.cells B.slots ∧ Post ⟨T.setVm vm₁, locs, cells, slots⟩ argsL.toArray v B ∧
      ∀ target, Steps p.tables e below (B.U.setTop { g with pc := g.pc + 3, stack := v.toList ++ rest }) target → Steps p.tables e below (T.setTop g) target := by
  obtain ⟨mk, methM, cM, hnamed, hmethM, -, -, -, -, -, -, hsigM⟩ := Cond.codeWith_spec hcode
  have hstatic : methM.isStatic = true := Cond.static_spec hnamed hmethM hstat
  obtain ⟨kP, hkP, -⟩ := className_of_methodNamed hnamed
  have hinitP : kP.init = .initialized := Cond.initialized_spec (findClass_of_methodNamed hnamed) hkP hinit
  obtain ⟨vm₁, X₁, hstep₁⟩ := X.invokestatic hexec hown hlink hnamed hmethM hstatic hkP hinitP hy (g := g) hg (argsL := argsL) (rest := rest) (hlen _ hsigM) hstack hdg
  obtain ⟨v, B, X', hpost, hsteps⟩ := hK m meth c ⟨T.setVm vm₁, locs, cells, slots⟩ { g with stack := rest } (.invokestatic index) mk argsL.toArray X₁ hg hsize hdg hW (X₁.named hnamed) (hpre vm₁ X₁.warmed)
  exact ⟨v, vm₁, B, X₁.warmed, X', hpost, fun target h => hstep₁ _ fun acts => by rw [doInvoke_state]; exact hsteps.trans h⟩
theorem vx_runSW {y : MethodName} {bytes cc : ByteArray} {maxL nL mc ms n index : Nat} {ret : Option FieldType} {hh : List (Nat × Nat × Nat × Nat)} {ws : List Cond} {rm : Room} {Pc : Array Value → State → Prop} {Qc : Array Value → State → Outcome → State → Prop} {free : Addr → Prop} {Ts : List Cond} {own : String} {As rest : List Value} {g : JFrame}
    (S : CallFix p m c cc nL s args Ts own) (hM : Met l y ws rm Pc Qc mc ms free) (cw : vx_CSW R s args own index y bytes maxL ret hh ws rm mc ms n) (hp : PreS s H Pc As)
    (hg : g.method = m) (hn : As.length = n) (hsize : g.locals.size = nL) (hstack : g.stack = As.reverse ++ rest) (hW : 2 * g.monitorRoom + (rest.map fun v => v.category).sum ≤ 8) (hdg : decode cc g.pc = .ok (.invokestatic index, 3)) (hf : cells + mc ≤ R.cells ∧ slots + ms ≤ R.slots) :
    va_Run p l e R s m args below meth c H locs cells slots mc ms g rest (Qc As.toArray) (free) := by
  obtain ⟨⟨hrc, hrs, hfr, hlo, hws, hcw⟩, hcode, hini, hy, hlen, hl, hstt⟩ := cw
  have hK : Back l R p e below s args y 3 8 (PreOf R mc ms Pc) (PostOf Qc mc ms free) := va_backW (hh := hh) (bytes := bytes) (maxL := maxL) (ret := ret) hM hp.1 hrc hrs hfr hlo hws hcw (fun a' U hW => word_at hW (Or.inl (by first | rfl | simp [Cond.onTables, Cond.keeps, Cond.steady])) hini)
  obtain ⟨hx, hb, hml, ho, -⟩ := S
  intro T hT X
  obtain ⟨v, vm₁, ⟨U', l2, c2, s2⟩, hW₁, X', ⟨g', mk, t, L, e1, e2, hq, h1, hL, h2, h3⟩, st⟩ := vx_callSW X hx (hh := hh) (bytes := bytes) (maxL := maxL) (ret := ret) ho hl hstt hini hcode hy hK hg (hsize.trans hml.symm) (argsL := As) (rest := rest) (fun sig h => hn.trans (hlen sig h)) hstack hW (by rw [hb]; exact hdg)
    (fun vm₁ hW₁ => ⟨hf.1, hf.2, hp.2 (T.setVm vm₁) hT hW₁⟩)
  dsimp only [Pt.U, Pt.locs, Pt.cells, Pt.slots] at X' e1 e2 h1 h2 h3 st
  subst h1; subst h2; subst h3
  exact ⟨v, (T.setVm vm₁).calling g' mk As.toArray, t, U', L, hT, X', hL, e1, e2, hq, st⟩
/-- not caught here, past rows that name other classes: it goes on to the caller -/
theorem vx_outP {p : Program} {l : Launch} {e : Env} {R : Room} {s : State} {m : MethodId} {args : Array Value} {below : List Frame} {meth : Method} {c : Code} {H : Heap} {locs : List Loc} {cells slots : Nat} {free : Addr → Prop} {ls : Array Slot} {rest : List Value} {Qc : Array Value → State → Outcome → State → Prop} {XC : String → State → State → Prop}
    {pc : Nat} {own E : String} {ce : Cell} {q : Addr} {mc ms : Nat} (hown : s.vm.findClass own = some m.cls) (hlocks : meth.locks = false)
    (hpass : ∀ z ∈ c.exceptionTable.toList, covers z pc = false ∨ (z.catchType ≠ 0 ∧ ∃ nm : String, (Cond.classLink own z.catchType nm).before args s = true ∧ va_Nc E nm s)) (hcell : H[q]? = some ce) (hv : ce.vm = .none) (hcl : s.vm.findClass E = some ce.cls)
    (hx : ∀ t : State, t.heap = H → s.vm.Alike t.vm → XC E s t) (hf : ∀ z ∈ locs, free z.base) (hc : cells ≤ mc) (hs : slots ≤ ms) :
    vx_W p l e R s m args below meth c H locs cells slots (vx_MQ below Qc XC args s mc ms free) (F0 m pc ls rest) q := by
  intro T hT X
  have hpl : e.platform.magicAccessors = ({} : Platform).magicAccessors := by rw [X.admits.platform]
  obtain ⟨vm', hW', X', st⟩ := X.outThrough hlocks q (g := F0 m pc ls rest) rfl rfl rfl (cell := ce) (by rw [hT]; exact hcell) (by rw [hv]; rfl)
    (by obtain ⟨k9, h9, -⟩ := Vm.findClass_spec hcl; exact ⟨k9, h9⟩) (fun z hz => by
      rcases hpass z hz with h | ⟨hz0, nm, hl1, hn1⟩
      · exact Or.inl h
      · obtain ⟨c6, hc6, hcl6⟩ := Cond.classLink_spec hown hl1 e.platform hpl
        obtain ⟨a8, b8, h1, h2, h3⟩ := hn1
        cases Option.some.inj (h1.symm.trans hcl)
        cases Option.some.inj (h2.symm.trans hc6)
        exact Or.inr ⟨hz0, _, hcl6, h3⟩)
  obtain ⟨g₀, hfr⟩ := X'.frames_eq
  have hcell9 : ((T.setVm vm').setFrames (.throwing q :: below)).heap[q]? = some ce := by
    show T.heap[q]? = some ce
    rw [hT]; exact hcell
  have hend : Ended ((T.setVm vm').setFrames (.throwing q :: below)) below (.threw q) := State.frames_setFrames _ (State.cur_lt_of_frames hfr)
  refine ⟨(T.setVm vm').setFrames (.throwing q :: below), ?_, .threw q, X'.here.running, hend, Or.inr ⟨q, rfl, E, ce, locs, hx _ hT (X'.ends _).1.alike, hcell9, hv, hcl, (X'.ends _).1, (X'.ends _).2.mono hc hs, hf⟩⟩
  rw [X.pushThrowing_eq]
  exact st
/-- a thing of a world lies in the heap -/
theorem vx_lt {D : va_G} {cl : List vw_C} {ws : va_W} {H1 : Heap} (h : va_P D cl ws H1) {k : Nat} {q : Nat × va_E} (hk : ws[k]? = some q) : q.1 < H1.size := (h k q hk).lt
end VXS
/-! ===== END ===== -/
/-! ===== BEGIN methods with a table of their own: called by a name, returning or throwing ===== -/
section VXH
/-! vx_backW, vx_callVX, vx_callSX, vx_callVW, vx_runVW, vx_runVX, vx_runSX, vx_ofWH follow the same proofs as their sisters above (Free/Laws.lean, Shelf42/LK1.lean); vx_outP calls Shelf42/NT130.lean (outThrough). -/
section
variable {l : Launch} {R : Room} {p : Program} {e : Env} {below : List Frame} {s : State} {sargs : Array Value} {y : MethodName} {len W9 : Nat}
theorem vx_backW {ws : List Cond} {rm : Room} {Pc : Array Value → State → Prop} {Qc : Array Value → State → Outcome → State → Prop} {XC : String → State → State → Prop} {mc ms : Nat} {free : Addr → Prop} {bytes : ByteArray} {maxL : Nat} {ret : Option FieldType} {hh : List (Nat × Nat × Nat × Nat)}
    (hM : vx_Met l y ws rm Pc Qc XC mc ms free) (hblind : FrameBlind Pc) (hrc : rm.cells = mc) (hrs : rm.slots = ms)
    (hframes : rm.frames + 1 ≤ R.frames) (hlocals : W9 + (maxL + 11) + rm.locals ≤ R.locals)
    (hws : ∀ w ∈ ws, ∀ a' U, s.WarmedH U.vm → w.before a' U = true) (hcode : Cond.codeWith y bytes maxL ret hh ∈ ws) (hinit : ∀ a' U, s.WarmedH U.vm → (Cond.initialized y.cls).before a' U = true) :
    vx_Back l R p e below s sargs y len W9 (PreOf R mc ms Pc) (PostOf Qc mc ms free) (vx_Post XC mc ms free) := by
  intro m meth c A g ig mk a X hg hsize hdg hW hn hp
  have h1 : (headSpec ws rm).pre.before a A.U = true := atoms_intro fun w hw => hws w hw _ _ X.warmed
  have h2 : (Cond.codeWith y bytes maxL ret hh).before a A.U = true := hws _ hcode _ _ X.warmed
  have h3 : (Cond.initialized y.cls).before a A.U = true := hinit _ _ X.warmed
  have h4 : A.cells + (headSpec ws rm).room.cells ≤ R.cells := by rw [show (headSpec ws rm).room.cells = mc from hrc]; exact hp.1
  have h5 : A.slots + (headSpec ws rm).room.slots ≤ R.slots := by rw [show (headSpec ws rm).room.slots = ms from hrs]; exact hp.2.1
  have hPc : Pc a (A.U.calling g mk a) := hblind _ _ _ _ hp.2.2
  obtain ⟨U, Ls, c0, s0⟩ := A
  dsimp only [Pt.U, Pt.locs, Pt.cells, Pt.slots] at h1 h2 h3 h4 h5 X hn hPc ⊢
  obtain ⟨m9, methY, cY, hn9, hmY, hcY, -, hlY, -⟩ := Cond.codeWith_spec h2
  cases Option.some.inj (hn9.symm.trans hn)
  obtain ⟨kY, hkY, -⟩ := className_of_methodNamed hn
  have hinitY : kY.init = .initialized := Cond.initialized_spec (findClass_of_methodNamed hn) hkY h3
  have h : At U g.method c below := by rw [hg]; exact X.here
  have hlocals9 : W9 + (maxL + 11) + (headSpec ws rm).room.locals ≤ R.locals := hlocals
  have happ : (headSpec ws rm).appliesLoose y e.platform (U.calling g mk a) = true :=
    Spec.appliesLoose_calling (g := g) h hdg hn hkY hinitY
      (X.room_calling (g := g) (R' := (headSpec ws rm).room) hsize hmY hcY hframes (by rw [hlY]; omega) h4 h5) h1
  obtain ⟨mid, hmid⟩ := h.above
  have hfr : (U.setTop g).frames = (.java g :: mid) ++ below := by rw [State.frames_setTop' g h.top, hmid]; rfl
  obtain ⟨o, s₂, hsteps, -, hend, hq⟩ := Steps.callFree hM p X.admits X.cas X.clock (acts := []) hfr happ hPc trivial
  have hq' : vx_Q Qc XC mc ms free a (U.calling g mk a) o s₂ := hq
  rw [State.frames_setTop' g h.top] at hend
  obtain ⟨g₀, hg0⟩ := Option.isSome_iff_exists.mp h.top
  obtain ⟨r, hr⟩ := State.topJava?_eq_some.mp hg0
  have hr' : (({ U with heap := s₂.heap, slotsUsed := s₂.slotsUsed } : State).setVm s₂.vm).frames = .java g₀ :: r := hr
  rcases hq' with ⟨hqc, L, hfe, hL⟩ | ⟨q, rfl, E, ce, L, hx, hce, hcv, hcl, hW₂, hsm, hL⟩
  · obtain ⟨⟨v, rfl⟩, hW₂, e2, q2, q3, q4, q5, q6⟩ := id hfe
    have e3 : s₂ = ({ (U.calling g mk a).setFrames s₂.frames with heap := s₂.heap, slotsUsed := s₂.slotsUsed } : State).setVm s₂.vm := by
      have : s₂ = ({ s₂ with vm := (U.calling g mk a).vm } : State).setVm s₂.vm := rfl
      rw [e2] at this
      exact this
    obtain ⟨c₂, i₂, len₂, hc₂, hd₂, hf₂⟩ := hend
    have hW' : U.WarmedH s₂.vm := hW₂
    have hcc : c₂ = c := by
      have h1 : s₂.code? g.method = U.code? g.method := by
        rw [State.code?_eq, State.code?_eq, hW'.alike.method?]
      exact Option.some.inj (hc₂.symm.trans (h1.trans h.code))
    subst hcc
    have hlen : len₂ = len := by rw [hdg] at hd₂; cases hd₂; rfl
    subst hlen
    have hs₂ : s₂ = (({ U with heap := s₂.heap, slotsUsed := s₂.slotsUsed } : State).setVm s₂.vm).setTop { g with pc := g.pc + len₂, stack := v.toList ++ g.stack } := by
      refine e3.trans ?_
      rw [hf₂, State.calling_eq h.top, State.setFrames_setFrames, State.setTop_of_frames _ hr', hr]
      rfl
    have hsame : U.sameButNew ({ U with heap := s₂.heap, slotsUsed := s₂.slotsUsed } : State) L mc ms := by
      refine ⟨?_, q2, q3, q4, q5, q6⟩
      obtain ⟨t, ht, -⟩ := State.frames_cons hr
      show ({ U with heap := s₂.heap, slotsUsed := s₂.slotsUsed } : State) = { U.setFrames U.frames with heap := s₂.heap, slotsUsed := s₂.slotsUsed }
      rw [State.setFrames_self ht]
    subst hg
    refine Or.inl ⟨v, ⟨(({ U with heap := s₂.heap, slotsUsed := s₂.slotsUsed } : State).setVm s₂.vm), Ls ++ L, c0 + mc, s0 + ms⟩,
      ⟨X.admits, X.cas, X.clock, X.frames, X.room, X.hears, X.method, X.code, (X.here.setHeapUsed s₂.heap s₂.slotsUsed).setVm hW'.alike, X.tail, State.WarmedH.trans X.warmed hW', X.limits, X.bytes, X.same.trans (hsame.setVm s.vm)⟩,
      ⟨g, mk, s₂, L, rfl, rfl, hqc, rfl, hL, rfl, rfl⟩, ?_⟩
    show Steps p.tables e below _ ((({ U with heap := s₂.heap, slotsUsed := s₂.slotsUsed } : State).setVm s₂.vm).setTop { g with pc := g.pc + len₂, stack := v.toList ++ g.stack })
    rw [← hs₂]
    exact hsteps
  · obtain ⟨e2, q2, q3, q4, q5, q6⟩ := id hsm
    have e3 : s₂ = ({ (U.calling g mk a).setFrames s₂.frames with heap := s₂.heap, slotsUsed := s₂.slotsUsed } : State).setVm s₂.vm := by
      have : s₂ = ({ s₂ with vm := (U.calling g mk a).vm } : State).setVm s₂.vm := rfl
      rw [e2] at this
      exact this
    have hf₂ : s₂.frames = .throwing q :: .java g :: U.frames.tail := hend
    have hW' : U.WarmedH s₂.vm := hW₂
    have hs₂ : s₂ = ((({ U with heap := s₂.heap, slotsUsed := s₂.slotsUsed } : State).setVm s₂.vm).setTop g).pushFrame (.throwing q) := by
      refine e3.trans ?_
      rw [hf₂, State.calling_eq h.top, State.setFrames_setFrames, State.pushFrame, State.frames_setTop _ hr', State.setTop_of_frames _ hr', State.setFrames_setFrames, hr]
      rfl
    have hsame : U.sameButNew ({ U with heap := s₂.heap, slotsUsed := s₂.slotsUsed } : State) L mc ms := by
      refine ⟨?_, q2, q3, q4, q5, q6⟩
      obtain ⟨t, ht, -⟩ := State.frames_cons hr
      show ({ U with heap := s₂.heap, slotsUsed := s₂.slotsUsed } : State) = { U.setFrames U.frames with heap := s₂.heap, slotsUsed := s₂.slotsUsed }
      rw [State.setFrames_self ht]
    subst hg
    refine Or.inr ⟨q, ⟨(({ U with heap := s₂.heap, slotsUsed := s₂.slotsUsed } : State).setVm s₂.vm), Ls ++ L, c0 + mc, s0 + ms⟩,
      ⟨X.admits, X.cas, X.clock, X.frames, X.room, X.hears, X.method, X.code, (X.here.setHeapUsed s₂.heap s₂.slotsUsed).setVm hW'.alike, X.tail, State.WarmedH.trans X.warmed hW', X.limits, X.bytes, X.same.trans (hsame.setVm s.vm)⟩,
      ⟨g, mk, s₂, L, E, ce, rfl, rfl, hx, hce, hcv, hcl, rfl, hL, rfl, rfl⟩, ?_⟩
    show Steps p.tables e below _ (((({ U with heap := s₂.heap, slotsUsed := s₂.slotsUsed } : State).setVm s₂.vm).setTop g).pushFrame (.throwing q))
    rw [← hs₂]
    exact hsteps
end
variable {p : Program} {l : Launch} {e : Env} {R : Room} {s : State} {m : MethodId} {args : Array Value} {below : List Frame} {meth : Method} {c : Code} {T : State} {H : Heap} {locs : List Loc} {cells slots : Nat}
theorem vx_callVX (X : Stand p l e R s m args below meth c T locs cells slots) (hexec : p.tables.exec = Jvm.exec) {own C : String} {index : Nat} {y : MethodName} {bytes : ByteArray} {maxL : Nat} {ret : Option FieldType} {hh : List (Nat × Nat × Nat × Nat)}
    (hown : s.vm.findClass own = some m.cls) (hlink : (Cond.methodLink own index y).before args s = true) (hinst : (Cond.instanceMethod y).before args s = true) (hsel : (Cond.selects C y y).before args s = true)
    (hcode : (Cond.codeWith y bytes maxL ret hh).before args s = true) (hy : y.cls ≠ "java/lang/invoke/MethodHandle" ∧ y.cls ≠ "java/lang/invoke/VarHandle")
    {W9 : Nat} {Pre : Pt → Array Value → Prop} {Post : Pt → Array Value → Option Value → Pt → Prop} {PostX : Pt → Array Value → Addr → Pt → Prop} (hK : vx_Back l R p e below s args y 3 W9 Pre Post PostX)
    {b : Addr} {cellB : Cell} (hcell : T.heap[b]? = some cellB) (hobj : cellB.vm.isStatics = false) (hcls : s.vm.findClass C = some cellB.cls)
    {g : JFrame} (hg : g.method = m) (hsize : g.locals.size = c.maxLocals) {argsL rest : List Value} (hlen : ∀ sig, parseMethodDescriptor y.desc = some sig → argsL.length = sig.parameters.length)
    (hstack : g.stack = argsL.reverse ++ .ref b :: rest) (hW : 2 * g.monitorRoom + (rest.map fun v => v.category).sum ≤ W9) (hdg : decode c.code g.pc = .ok (.invokevirtual index, 3))
    (hpre : ∀ vm₁, s.WarmedH vm₁ → Pre ⟨T.setVm vm₁, locs, cells, slots⟩ (Value.ref b :: argsL).toArray) :
    (∃ (v : Option Value) (vm₁ : Vm) (B : Pt), s.WarmedH vm₁ ∧ Stand p l e R s m args below meth c B.U B.locs B.cells B.slots ∧ Post ⟨T.setVm vm₁, locs, cells, slots⟩ (Value.ref b :: argsL).toArray v B ∧
      ∀ target, Steps p.tables e below (B.U.setTop { g with pc := g.pc + 3, stack := v.toList ++ rest }) target → Steps p.tables e below (T.setTop g) target) ∨
    (∃ (q : Addr) (vm₁ : Vm) (B : Pt), s.WarmedH vm₁ ∧ Stand p l e R s m args below meth c B.U B.locs B.cells B.slots ∧ PostX ⟨T.setVm vm₁, locs, cells, slots⟩ (Value.ref b :: argsL).toArray q B ∧
      Steps p.tables e below (T.setTop g) ((B.U.setTop { g with stack := rest }).pushFrame (.throwing q))) := by
  obtain ⟨mk, methM, hnamed, hmethM, hstM, habM⟩ := Cond.instanceMethod_spec hinst
  obtain ⟨m8, methM', cM, hn8, hmethM', -, -, -, -, -, -, hsigM⟩ := Cond.codeWith_spec hcode
  cases Option.some.inj (hn8.symm.trans hnamed)
  cases hmethM.symm.trans hmethM'
  obtain ⟨c2, r2, m2, q1, q2, q3, q4, kP, hkP, hkPi⟩ := Cond.selects_spec hsel
  cases hcls.symm.trans q1
  cases (State.methodFound?_of_named hnamed hy).symm.trans q2
  cases hnamed.symm.trans q3
  have hselP : selectMethod e.platform s.vm cellB.cls mk = .method mk := by rw [Launch.admits_selectMethod X.admits]; exact q4
  obtain ⟨vm₁, X₁, hstep₁⟩ := X.invokevirtual hexec hown hlink hnamed hmethM hstM hkP hkPi hy (a := b) (cell := cellB) hcell
    (fun z h => by rw [h] at hobj; cases hobj) hselP hmethM habM hkP hkPi (g := g) hg (argsL := argsL) (rest := rest) (hlen _ hsigM) hstack hdg
  rcases hK m meth c ⟨T.setVm vm₁, locs, cells, slots⟩ { g with stack := rest } (.invokevirtual index) mk (Value.ref b :: argsL).toArray X₁ hg hsize hdg hW (X₁.named hnamed) (hpre vm₁ X₁.warmed) with ⟨v, B, X', hpost, hsteps⟩ | ⟨q, B, X', hpost, hsteps⟩
  · exact Or.inl ⟨v, vm₁, B, X₁.warmed, X', hpost, fun target h => hstep₁ _ fun acts => by rw [doInvoke_state]; exact hsteps.trans h⟩
  · exact Or.inr ⟨q, vm₁, B, X₁.warmed, X', hpost, hstep₁ _ fun acts => by rw [doInvoke_state]; exact hsteps⟩
theorem vx_callSX (X : Stand p l e R s m args below meth c T locs cells slots) (hexec : p.tables.exec = Jvm.exec) {own : String} {index : Nat} {y : MethodName} {bytes : ByteArray} {maxL : Nat} {ret : Option FieldType} {hh : List (Nat × Nat × Nat × Nat)}
    (hown : s.vm.findClass own = some m.cls) (hlink : (Cond.methodLink own index y).before args s = true) (hstat : (Cond.static y).before args s = true) (hinit : (Cond.initialized y.cls).before args s = true)
    (hcode : (Cond.codeWith y bytes maxL ret hh).before args s = true) (hy : y.cls ≠ "java/lang/invoke/MethodHandle" ∧ y.cls ≠ "java/lang/invoke/VarHandle")
    {W9 : Nat} {Pre : Pt → Array Value → Prop} {Post : Pt → Array Value → Option Value → Pt → Prop} {PostX : Pt → Array Value → Addr → Pt → Prop} (hK : vx_Back l R p e below s args y 3 W9 Pre Post PostX)
    {g : JFrame} (hg : g.method = m) (hsize : g.locals.size = c.maxLocals) {argsL rest : List Value} (hlen : ∀ sig, parseMethodDescriptor y.desc = some sig → argsL.length = sig.parameters.length)
    (hstack : g.stack = argsL.reverse ++ rest) (hW : 2 * g.monitorRoom + (rest.map fun v => v.category).sum ≤ W9) (hdg : decode c.code g.pc = .ok (.invokestatic index, 3))
    (hpre : ∀ vm₁, s.WarmedH vm₁ → Pre ⟨T.setVm vm₁, locs, cells, slots⟩ argsL.toArray) :
    (∃ (v : Option Value) (vm₁ : Vm) (B : Pt), s.WarmedH vm₁ ∧ Stand p l e R s m args below meth c B.U B.locs B.cells B.slots ∧ Post ⟨T.setVm vm₁, locs, cells, slots⟩ argsL.toArray v B ∧
      ∀ target, Steps p.tables e below (B.U.setTop { g with pc := g.pc + 3, stack := v.toList ++ rest }) target → Steps p.tables e below (T.setTop g) target) ∨
    (∃ (q : Addr) (vm₁ : Vm) (B : Pt), s.WarmedH vm₁ ∧ Stand p l e R s m args below meth c B.U B.locs B.cells B.slots ∧ PostX ⟨T.setVm vm₁, locs, cells, slots⟩ argsL.toArray q B ∧
      Steps p.tables e below (T.setTop g) ((B.U.setTop { g with stack := rest }).pushFrame (.throwing q))) := by
  obtain ⟨mk, methM, cM, hnamed, hmethM, -, -, -, -, -, -, hsigM⟩ := Cond.codeWith_spec hcode
  have hstatic : methM.isStatic = true := Cond.static_spec hnamed hmethM hstat
  obtain ⟨kP, hkP, -⟩ := className_of_methodNamed hnamed
  have hinitP : kP.init = .initialized := Cond.initialized_spec (findClass_of_methodNamed hnamed) hkP hinit
  obtain ⟨vm₁, X₁, hstep₁⟩ := X.invokestatic hexec hown hlink hnamed hmethM hstatic hkP hinitP hy (g := g) hg (argsL := argsL) (rest := rest) (hlen _ hsigM) hstack hdg
  rcases hK m meth c ⟨T.setVm vm₁, locs, cells, slots⟩ { g with stack := rest } (.invokestatic index) mk argsL.toArray X₁ hg hsize hdg hW (X₁.named hnamed) (hpre vm₁ X₁.warmed) with ⟨v, B, X', hpost, hsteps⟩ | ⟨q, B, X', hpost, hsteps⟩
  · exact Or.inl ⟨v, vm₁, B, X₁.warmed, X', hpost, fun target h => hstep₁ _ fun acts => by rw [doInvoke_state]; exact hsteps.trans h⟩
  · exact Or.inr ⟨q, vm₁, B, X₁.warmed, X', hpost, hstep₁ _ fun acts => by rw [doInvoke_state]; exact hsteps⟩
theorem vx_callVW (X : Stand p l e R s m args below meth c T locs cells slots) (hexec : p.tables.exec = Jvm.exec) {own C : String} {index : Nat} {y : MethodName} {bytes : ByteArray} {maxL : Nat} {ret : Option FieldType} {hh : List (Nat × Nat × Nat × Nat)}
    (hown : s.vm.findClass own = some m.cls) (hlink : (Cond.methodLink own index y).before args s = true) (hinst : (Cond.instanceMethod y).before args s = true) (hsel : (Cond.selects C y y).before args s = true)
    (hcode : (Cond.codeWith y bytes maxL ret hh).before args s = true) (hy : y.cls ≠ "java/lang/invoke/MethodHandle" ∧ y.cls ≠ "java/lang/invoke/VarHandle")
    {W9 : Nat} {Pre : Pt → Array Value → Prop} {Post : Pt → Array Value → Option Value → Pt → Prop} (hK : Back l R p e below s args y 3 W9 Pre Post)
    {b : Addr} {cellB : Cell} (hcell : T.heap[b]? = some cellB) (hobj : cellB.vm.isStatics = false) (hcls : s.vm.findClass C = some cellB.cls)
    {g : JFrame} (hg : g.method = m) (hsize : g.locals.size = c.maxLocals) {argsL rest : List Value} (hlen : ∀ sig, parseMethodDescriptor y.desc = some sig → argsL.length = sig.parameters.length)
    (hstack : g.stack = argsL.reverse ++ .ref b :: rest) (hW : 2 * g.monitorRoom + (rest.map fun v => v.category).sum ≤ W9) (hdg : decode c.code g.pc = .ok (.invokevirtual index, 3))
    (hpre : ∀ vm₁, s.WarmedH vm₁ → Pre ⟨T.setVm vm₁, locs, cells, slots⟩ (Value.ref b :: argsL).toArray) :
    ∃ (v : Option Value) (vm₁ : Vm) (B : Pt), s.WarmedH vm₁ ∧ Stand p l e R s m args below meth c B.U B.locs B.cells B.slots ∧ Post ⟨T.setVm vm₁, locs, cells, slots⟩ (Value.ref b :: argsL).toArray v B ∧
      ∀ target, Steps p.tables e below (B.U.setTop { g with pc := g.pc + 3, stack := v.toList ++ rest }) target → Steps p.tables e below (T.setTop g) target := by
  obtain ⟨mk, methM, hnamed, hmethM, hstM, habM⟩ := Cond.instanceMethod_spec hinst
  obtain ⟨m8, methM', cM, hn8, hmethM', -, -, -, -, -, -, hsigM⟩ := Cond.codeWith_spec hcode
  cases Option.some.inj (hn8.symm.trans hnamed)
  cases hmethM.symm.trans hmethM'
  obtain ⟨c2, r2, m2, q1, q2, q3, q4, kP, hkP, hkPi⟩ := Cond.selects_spec hsel
  cases hcls.symm.trans q1
  cases (State.methodFound?_of_named hnamed hy).symm.trans q2
  cases hnamed.symm.trans q3
  have hselP : selectMethod e.platform s.vm cellB.cls mk = .method mk := by rw [Launch.admits_selectMethod X.admits]; exact q4
  obtain ⟨vm₁, X₁, hstep₁⟩ := X.invokevirtual hexec hown hlink hnamed hmethM hstM hkP hkPi hy (a := b) (cell := cellB) hcell
    (fun z h => by rw [h] at hobj; cases hobj) hselP hmethM habM hkP hkPi (g := g) hg (argsL := argsL) (rest := rest) (hlen _ hsigM) hstack hdg
  obtain ⟨v, B, X', hpost, hsteps⟩ := hK m meth c ⟨T.setVm vm₁, locs, cells, slots⟩ { g with stack := rest } (.invokevirtual index) mk (Value.ref b :: argsL).toArray X₁ hg hsize hdg hW (X₁.named hnamed) (hpre vm₁ X₁.warmed)
  exact ⟨v, vm₁, B, X₁.warmed, X', hpost, fun target h => hstep₁ _ fun acts => by rw [doInvoke_state]; exact hsteps.trans h⟩
abbrev vx_CVW (R : Room) (s : State) (args : Array Value) (own C : String) (index : Nat) (y : MethodName) (bytes : ByteArray) (maxL : Nat) (ret : Option FieldType) (hh : List (Nat × Nat × Nat × Nat)) (ws : List Cond) (rm : Room) (mc ms n : Nat) : Prop :=
  (rm.cells = mc ∧ rm.slots = ms ∧ rm.frames + 1 ≤ R.frames ∧ 8 + (maxL + 11) + rm.locals ≤ R.locals ∧ (∀ w ∈ ws, ∀ (a' : Array Value) (U : State), s.WarmedH U.vm → w.before a' U = true) ∧ Cond.codeWith y bytes maxL ret hh ∈ ws) ∧
  (Cond.codeWith y bytes maxL ret hh).before args s = true ∧ (Cond.initialized y.cls).before args s = true ∧ (y.cls ≠ "java/lang/invoke/MethodHandle" ∧ y.cls ≠ "java/lang/invoke/VarHandle") ∧
  (∀ sig, parseMethodDescriptor y.desc = some sig → n = sig.parameters.length) ∧ (Cond.methodLink own index y).before args s = true ∧ (Cond.instanceMethod y).before args s = true ∧ (Cond.selects C y y).before args s = true
theorem vx_cwVW {own C : String} {index maxL mc ms : Nat} {y : MethodName} {bytes : ByteArray} {ret : Option FieldType} {hh : List (Nat × Nat × Nat × Nat)} {Ts ws ws' : List Cond} {rm : Room} (n : Nat) (ht : ∀ w ∈ Ts, w.before args s = true) (hT : GoodIn Ts (wsV own index C y ws)) (hw : ws = Cond.codeWith y bytes maxL ret hh :: ws') (hrc : rm.cells = mc) (hrs : rm.slots = ms)
    (hd : y.cls = C ∧ y.cls ≠ "java/lang/invoke/MethodHandle" ∧ y.cls ≠ "java/lang/invoke/VarHandle" ∧ (parseMethodDescriptor y.desc).map (fun d => d.parameters.length) = some n) (hR : rm.frames + 1 ≤ R.frames ∧ 8 + (maxL + 11) + rm.locals ≤ R.locals) :
    vx_CVW R s args own C index y bytes maxL ret hh ws rm mc ms n := by
  obtain ⟨hC, hd⟩ := hd
  subst hC
  have ok : ∀ w ∈ wsV own index y.cls y ws, w.before args s = true := fun w h => ht w (hT w h).1
  have hG : GoodIn Ts ws := fun w h => hT w (by unfold wsV; exact List.mem_append_right _ h)
  have hc : Cond.codeWith y bytes maxL ret hh ∈ ws := by rw [hw]; exact List.mem_cons_self
  refine ⟨⟨hrc, hrs, hR.1, hR.2, pay_in ht hG, hc⟩, ht _ (hG _ hc).1, ok _ (by simp [wsV]), ⟨hd.1, hd.2.1⟩, fun sig h => ?_, ok _ (by simp [wsV]), ok _ (by simp [wsV]), ok _ (by simp [wsV])⟩
  have h2 := hd.2.2
  rw [h] at h2
  exact (Option.some.inj h2).symm
theorem vx_runVW {y : MethodName} {bytes cc : ByteArray} {maxL nL mc ms n index : Nat} {ret : Option FieldType} {hh : List (Nat × Nat × Nat × Nat)} {ws : List Cond} {rm : Room} {Pc : Array Value → State → Prop} {Qc : Array Value → State → Outcome → State → Prop} {free : Addr → Prop} {Ts : List Cond} {own C : String} {b : Addr} {As rest : List Value} {g : JFrame}
    (S : CallFix p m c cc nL s args Ts own) (hM : Met l y ws rm Pc Qc mc ms free) (cw : vx_CVW R s args own C index y bytes maxL ret hh ws rm mc ms n) (hp : PreV s H C b Pc As)
    (hg : g.method = m) (hn : As.length = n) (hsize : g.locals.size = nL) (hstack : g.stack = As.reverse ++ .ref b :: rest) (hW : 2 * g.monitorRoom + (rest.map fun v => v.category).sum ≤ 8) (hdg : decode cc g.pc = .ok (.invokevirtual index, 3)) (hf : cells + mc ≤ R.cells ∧ slots + ms ≤ R.slots) :
    va_Run p l e R s m args below meth c H locs cells slots mc ms g rest (Qc (Value.ref b :: As).toArray) free := by
  obtain ⟨⟨hrc, hrs, hfr, hlo, hws, hcw⟩, hcode, hini, hy, hlen, hl, hin, hse⟩ := cw
  have hK : Back l R p e below s args y 3 8 (PreOf R mc ms Pc) (PostOf Qc mc ms free) := va_backW (hh := hh) (bytes := bytes) (maxL := maxL) (ret := ret) hM hp.1 hrc hrs hfr hlo hws hcw (fun a' U hW => word_at hW (Or.inl (by first | rfl | simp [Cond.onTables, Cond.keeps, Cond.steady])) hini)
  obtain ⟨hx, hb, hml, ho, -⟩ := S
  obtain ⟨-, ⟨cellB, hcB, hoB, hclB⟩, hPc⟩ := hp
  intro T hT X
  obtain ⟨v, vm₁, ⟨U', l2, c2, s2⟩, hW₁, X', ⟨g', mk, t, L, e1, e2, hq, h1, hL, h2, h3⟩, st⟩ := vx_callVW X hx (C := C) (hh := hh) (bytes := bytes) (maxL := maxL) (ret := ret) ho hl hin hse hcode hy hK (by rw [hT]; exact hcB) hoB hclB hg (hsize.trans hml.symm) (argsL := As) (rest := rest) (fun sig h => hn.trans (hlen sig h)) hstack hW (by rw [hb]; exact hdg)
    (fun vm₁ hW₁ => ⟨hf.1, hf.2, hPc (T.setVm vm₁) hT hW₁⟩)
  dsimp only [Pt.U, Pt.locs, Pt.cells, Pt.slots] at X' e1 e2 h1 h2 h3 st
  subst h1; subst h2; subst h3
  exact ⟨v, (T.setVm vm₁).calling g' mk (Value.ref b :: As).toArray, t, U', L, hT, X', hL, e1, e2, hq, st⟩
section
variable {y : MethodName} {bytes cc : ByteArray} {maxL nL mc ms n index : Nat} {ret : Option FieldType} {ws : List Cond} {rm : Room} {Pc : Array Value → State → Prop} {Qc : Array Value → State → Outcome → State → Prop} {XC : String → State → State → Prop} {free : Addr → Prop} {Ts : List Cond} {own C : String} {b : Addr} {As rest : List Value} {g : JFrame}
theorem vx_runVX {hh : List (Nat × Nat × Nat × Nat)} (S : CallFix p m c cc nL s args Ts own) (hM : vx_Met l y ws rm Pc Qc XC mc ms free) (cw : vx_CVW R s args own C index y bytes maxL ret hh ws rm mc ms n) (hp : PreV s H C b Pc As)
    (hg : g.method = m) (hn : As.length = n) (hsize : g.locals.size = nL) (hstack : g.stack = As.reverse ++ .ref b :: rest) (hW : 2 * g.monitorRoom + (rest.map fun v => v.category).sum ≤ 8) (hdg : decode cc g.pc = .ok (.invokevirtual index, 3)) (hf : cells + mc ≤ R.cells ∧ slots + ms ≤ R.slots) :
    vx_Run p l e R s m args below meth c H locs cells slots mc ms g rest (Qc (Value.ref b :: As).toArray) XC free := by
  obtain ⟨⟨hrc, hrs, hfr, hlo, hws, hcw⟩, hcode, hini, hy, hlen, hl, hin, hse⟩ := cw
  have hK : vx_Back l R p e below s args y 3 8 (PreOf R mc ms Pc) (PostOf Qc mc ms free) (vx_Post XC mc ms free) := vx_backW (hh := hh) (bytes := bytes) (maxL := maxL) (ret := ret) hM hp.1 hrc hrs hfr hlo hws hcw (fun a' U hW => word_at hW (Or.inl (by first | rfl | simp [Cond.onTables, Cond.keeps, Cond.steady])) hini)
  obtain ⟨hx, hb, hml, ho, -⟩ := S
  obtain ⟨-, ⟨cellB, hcB, hoB, hclB⟩, hPc⟩ := hp
  intro T hT X
  rcases vx_callVX X hx (C := C) (hh := hh) (bytes := bytes) (maxL := maxL) (ret := ret) ho hl hin hse hcode hy hK (by rw [hT]; exact hcB) hoB hclB hg (hsize.trans hml.symm) (argsL := As) (rest := rest) (fun sig h => hn.trans (hlen sig h)) hstack hW (by rw [hb]; exact hdg)
    (fun vm₁ hW₁ => ⟨hf.1, hf.2, hPc (T.setVm vm₁) hT hW₁⟩) with ⟨v, vm₁, ⟨U', l2, c2, s2⟩, hW₁, X', ⟨g', mk, t, L, e1, e2, hq, h1, hL, h2, h3⟩, st⟩ | ⟨q, vm₁, ⟨U', l2, c2, s2⟩, hW₁, X', ⟨g', mk, t, L, E, ce, e1, e2, hq, hce, hcv, hcl, h1, hL, h2, h3⟩, st⟩
  · dsimp only [Pt.U, Pt.locs, Pt.cells, Pt.slots] at X' e1 e2 h1 h2 h3 st
    subst h1; subst h2; subst h3
    exact Or.inl ⟨v, (T.setVm vm₁).calling g' mk (Value.ref b :: As).toArray, t, U', L, hT, X', hL, e1, e2, hq, st⟩
  · dsimp only [Pt.U, Pt.locs, Pt.cells, Pt.slots] at X' e1 e2 h1 h2 h3 st hcl
    subst h1; subst h2; subst h3
    exact Or.inr ⟨q, (T.setVm vm₁).calling g' mk (Value.ref b :: As).toArray, t, U', L, E, ce, hT, X', hL, e1, e2, hq, hce, hcv, vx_cls hW₁ hcl, st⟩
theorem vx_runSX {hh : List (Nat × Nat × Nat × Nat)} (S : CallFix p m c cc nL s args Ts own) (hM : vx_Met l y ws rm Pc Qc XC mc ms free) (cw : vx_CSW R s args own index y bytes maxL ret hh ws rm mc ms n) (hp : PreS s H Pc As)
    (hg : g.method = m) (hn : As.length = n) (hsize : g.locals.size = nL) (hstack : g.stack = As.reverse ++ rest) (hW : 2 * g.monitorRoom + (rest.map fun v => v.category).sum ≤ 8) (hdg : decode cc g.pc = .ok (.invokestatic index, 3)) (hf : cells + mc ≤ R.cells ∧ slots + ms ≤ R.slots) :
    vx_Run p l e R s m args below meth c H locs cells slots mc ms g rest (Qc As.toArray) XC free := by
  obtain ⟨⟨hrc, hrs, hfr, hlo, hws, hcw⟩, hcode, hini, hy, hlen, hl, hstt⟩ := cw
  have hK : vx_Back l R p e below s args y 3 8 (PreOf R mc ms Pc) (PostOf Qc mc ms free) (vx_Post XC mc ms free) := vx_backW (hh := hh) (bytes := bytes) (maxL := maxL) (ret := ret) hM hp.1 hrc hrs hfr hlo hws hcw (fun a' U hW => word_at hW (Or.inl (by first | rfl | simp [Cond.onTables, Cond.keeps, Cond.steady])) hini)
  obtain ⟨hx, hb, hml, ho, -⟩ := S
  intro T hT X
  rcases vx_callSX X hx (hh := hh) (bytes := bytes) (maxL := maxL) (ret := ret) ho hl hstt hini hcode hy hK hg (hsize.trans hml.symm) (argsL := As) (rest := rest) (fun sig h => hn.trans (hlen sig h)) hstack hW (by rw [hb]; exact hdg)
    (fun vm₁ hW₁ => ⟨hf.1, hf.2, hp.2 (T.setVm vm₁) hT hW₁⟩) with ⟨v, vm₁, ⟨U', l2, c2, s2⟩, hW₁, X', ⟨g', mk, t, L, e1, e2, hq, h1, hL, h2, h3⟩, st⟩ | ⟨q, vm₁, ⟨U', l2, c2, s2⟩, hW₁, X', ⟨g', mk, t, L, E, ce, e1, e2, hq, hce, hcv, hcl, h1, hL, h2, h3⟩, st⟩
  · dsimp only [Pt.U, Pt.locs, Pt.cells, Pt.slots] at X' e1 e2 h1 h2 h3 st
    subst h1; subst h2; subst h3
    exact Or.inl ⟨v, (T.setVm vm₁).calling g' mk As.toArray, t, U', L, hT, X', hL, e1, e2, hq, st⟩
  · dsimp only [Pt.U, Pt.locs, Pt.cells, Pt.slots] at X' e1 e2 h1 h2 h3 st hcl
    subst h1; subst h2; subst h3
    exact Or.inr ⟨q, (T.setVm vm₁).calling g' mk As.toArray, t, U', L, E, ce, hT, X', hL, e1, e2, hq, hce, hcv, vx_cls hW₁ hcl, st⟩
end
end VXH
theorem vx_ofWH {l : Launch} {y : MethodName} {ws ws' : List Cond} {rm : Room} {Pc : Array Value → State → Prop} {Qc : Array Value → State → Outcome → State → Prop} {XC : String → State → State → Prop} {mc ms : Nat} {free : Addr → Prop} {cc : ByteArray} {maxL : Nat} {ret : Option FieldType} {hh : List (Nat × Nat × Nat × Nat)}
    (hy : plainName y.cls = true) (hw : ws = Cond.codeWith y cc maxL ret hh :: ws')
    (body : ∀ p e s m args below meth c s₁, BodyLoose p l y (headSpec ws rm) cc maxL ret e s m args below meth c s₁ → c.maxLocals = maxL → Pc args s →
      W p l e (headSpec ws rm).room s m args below meth c s.heap [] 0 0 (vx_MQ below Qc XC args s mc ms free) (entryFrame m args maxL)) : vx_Met l y ws rm Pc Qc XC mc ms free := by
  refine MetFree.of_bodyS (code := cc) (maxLocals := maxL) (ret := ret) hy ?_ ?_
  · intro args s m h hn
    obtain ⟨m9, meth, c, hn9, h1, h2, h3, h4, -, h5, h6, -⟩ := Cond.codeWith_spec (atoms_spec (ws := ws) h _ (by rw [hw]; exact List.mem_cons_self))
    cases hn.symm.trans hn9
    exact ⟨meth, c, h1, h2, h3, h4, h5, h6⟩
  · intro p e s m args below meth c s₁ B hml hP _
    have hh0 : s₁.heap = s.heap := by rw [B.state]; rfl
    obtain ⟨t, a1, o, b1, b2, b3⟩ := body p e s m args below meth c s₁ B hml hP s₁ hh0 (Stand.of_body B)
    exact ⟨t, o, a1, b1, b2, b3⟩
/-! ===== END ===== -/
end
section
/-! the program as tables: classes, methods, links, constants, rooms (written by a program out of the listing) -/
def ev_N : List String := ["LanternChess$Board", "LanternChess$Field", "LanternChess$Fogs", "LanternChess$Game", "LanternChess$History", "LanternChess$Log", "LanternChess$MoveList", "LanternChess$Sending", "LanternChess$SetupText", "LanternChess$Walk", "LanternChess", "LanternChess$Log", "LanternChessLaw", "java/util/Arrays", "java/lang/Integer"]
def ev_own (k : Nat) : String := ev_N.getD k ""
def ev_T0 : u_T := fun k => match k with
  | 0 => ("LanternChess$Board", "now", "LLanternChess$Field;", true)
  | 1 => ("LanternChess$Board", "before", "LLanternChess$Field;", true)
  | 2 => ("LanternChess$Board", "made", "I", false)
  | 3 => ("LanternChess$Board", "latestSide", "I", false)
  | 4 => ("LanternChess$Board", "latestFrom", "I", false)
  | _ => ("LanternChess$Board", "latestTo", "I", false)
def ev_T1 : u_T := fun k => match k with
  | 0 => ("LanternChess$Field", "cells", "[I", true)
  | 1 => ("LanternChess$Field", "width", "I", false)
  | _ => ("LanternChess$Field", "height", "I", false)
def ev_T2 : u_T := fun k => match k with
  | 0 => ("LanternChess$Fogs", "first", "[I", true)
  | 1 => ("LanternChess$Fogs", "lasting", "[I", true)
  | 2 => ("LanternChess$Fogs", "every", "[I", true)
  | _ => ("LanternChess$Fogs", "size", "I", false)
def ev_T3 : u_T := fun k => match k with
  | 0 => ("LanternChess$Game", "white", "LLanternChess$Board;", true)
  | 1 => ("LanternChess$Game", "black", "LLanternChess$Board;", true)
  | 2 => ("LanternChess$Game", "fogs", "LLanternChess$Fogs;", true)
  | 3 => ("LanternChess$Game", "sendings", "LLanternChess$Log;", true)
  | 4 => ("LanternChess$Game", "answers", "LLanternChess$Log;", true)
  | 5 => ("LanternChess$Game", "time", "I", false)
  | 6 => ("LanternChess$Game", "toMove", "I", false)
  | 7 => ("LanternChess$Game", "outcome", "I", false)
  | 8 => ("LanternChess$Game", "pause", "I", false)
  | 9 => ("LanternChess$Game", "waiting", "I", false)
  | 10 => ("LanternChess$Game", "tries", "I", false)
  | 11 => ("LanternChess$Game", "whiteClock", "I", false)
  | _ => ("LanternChess$Game", "blackClock", "I", false)
def ev_T4 : u_T := fun k => match k with
  | 0 => ("LanternChess$History", "games", "[LLanternChess$Game;", true)
  | 1 => ("LanternChess$History", "next", "I", false)
  | _ => ("LanternChess$History", "size", "I", false)
def ev_T5 : u_T := fun k => match k with
  | 0 => ("LanternChess$Log", "numbers", "[I", true)
  | 1 => ("LanternChess$Log", "kept", "I", false)
  | _ => ("LanternChess$Log", "total", "I", false)
def ev_T6 : u_T := fun k => match k with
  | 0 => ("LanternChess$MoveList", "froms", "[I", true)
  | 1 => ("LanternChess$MoveList", "tos", "[I", true)
  | 2 => ("LanternChess$MoveList", "worths", "[I", true)
  | 3 => ("LanternChess$MoveList", "behind", "LLanternChess$Field;", true)
  | _ => ("LanternChess$MoveList", "size", "I", false)
def ev_T7 : u_T := fun k => match k with
  | 0 => ("LanternChess$Sending", "flashes", "[I", true)
  | 1 => ("LanternChess$Sending", "looks", "[I", true)
  | 2 => ("LanternChess$Sending", "messageLength", "I", false)
  | 3 => ("LanternChess$Sending", "reading", "I", false)
  | 4 => ("LanternChess$Sending", "answer", "I", false)
  | 5 => ("LanternChess$Sending", "answerSeen", "I", false)
  | 6 => ("LanternChess$Sending", "isAnswered", "Z", false)
  | _ => ("LanternChess$Sending", "ticks", "I", false)
def ev_T8 : u_T := fun k => match k with
  | 0 => ("LanternChess$SetupText", "text", "[B", true)
  | 1 => ("LanternChess$SetupText", "length", "I", false)
  | 2 => ("LanternChess$SetupText", "code", "I", false)
  | 3 => ("LanternChess$SetupText", "offset", "I", false)
  | 4 => ("LanternChess$SetupText", "pieces", "I", false)
  | 5 => ("LanternChess$SetupText", "told", "I", false)
  | 6 => ("LanternChess$SetupText", "position", "I", false)
  | 7 => ("LanternChess$SetupText", "tokenKind", "I", false)
  | 8 => ("LanternChess$SetupText", "tokenStart", "I", false)
  | _ => ("LanternChess$SetupText", "takenStart", "I", false)
def ev_T9 : u_T := fun k => match k with
  | 0 => ("LanternChess$Walk", "others", "LLanternChess$Field;", true)
  | 1 => ("LanternChess$Walk", "distance", "[I", true)
  | 2 => ("LanternChess$Walk", "queue", "[I", true)
  | _ => ("LanternChess$Walk", "queued", "I", false)
def ev_T10 : u_T := fun k => match k with
  | 0 => ("LanternChess", "setup", "LLanternChess$SetupText;", true)
  | 1 => ("LanternChess", "game", "LLanternChess$Game;", true)
  | 2 => ("LanternChess", "trial", "LLanternChess$Game;", true)
  | 3 => ("LanternChess", "saved", "LLanternChess$Game;", true)
  | 4 => ("LanternChess", "isSaved", "Z", false)
  | 5 => ("LanternChess", "history", "LLanternChess$History;", true)
  | 6 => ("LanternChess", "foretold", "LLanternChess$Sending;", true)
  | 7 => ("LanternChess", "list", "LLanternChess$MoveList;", true)
  | 8 => ("LanternChess", "walk", "LLanternChess$Walk;", true)
  | 9 => ("LanternChess", "output", "[B", true)
  | _ => ("LanternChess", "outputLength", "I", false)
def ev_T11 : u_T := fun k => match k with
  | 0 => ("LanternChess$Log", "numbers", "[I", true)
  | 1 => ("LanternChess$Log", "kept", "I", false)
  | _ => ("LanternChess$Log", "total", "I", false)
def ev_y0 : Nat → FieldType := fun k => match k with
  | 0 => .object "LanternChess$Field"
  | 1 => .object "LanternChess$Field"
  | 2 => .int
  | 3 => .int
  | 4 => .int
  | _ => .int
def ev_y1 : Nat → FieldType := fun k => match k with
  | 0 => .array .int
  | 1 => .int
  | _ => .int
def ev_y2 : Nat → FieldType := fun k => match k with
  | 0 => .array .int
  | 1 => .array .int
  | 2 => .array .int
  | _ => .int
def ev_y3 : Nat → FieldType := fun k => match k with
  | 0 => .object "LanternChess$Board"
  | 1 => .object "LanternChess$Board"
  | 2 => .object "LanternChess$Fogs"
  | 3 => .object "LanternChess$Log"
  | 4 => .object "LanternChess$Log"
  | 5 => .int
  | 6 => .int
  | 7 => .int
  | 8 => .int
  | 9 => .int
  | 10 => .int
  | 11 => .int
  | _ => .int
def ev_y4 : Nat → FieldType := fun k => match k with
  | 0 => .array (.object "LanternChess$Game")
  | 1 => .int
  | _ => .int
def ev_y5 : Nat → FieldType := fun k => match k with
  | 0 => .array .int
  | 1 => .int
  | _ => .int
def ev_y6 : Nat → FieldType := fun k => match k with
  | 0 => .array .int
  | 1 => .array .int
  | 2 => .array .int
  | 3 => .object "LanternChess$Field"
  | _ => .int
def ev_y7 : Nat → FieldType := fun k => match k with
  | 0 => .array .int
  | 1 => .array .int
  | 2 => .int
  | 3 => .int
  | 4 => .int
  | 5 => .int
  | 6 => .boolean
  | _ => .int
def ev_y8 : Nat → FieldType := fun k => match k with
  | 0 => .array .byte
  | 1 => .int
  | 2 => .int
  | 3 => .int
  | 4 => .int
  | 5 => .int
  | 6 => .int
  | 7 => .int
  | 8 => .int
  | _ => .int
def ev_y9 : Nat → FieldType := fun k => match k with
  | 0 => .object "LanternChess$Field"
  | 1 => .array .int
  | 2 => .array .int
  | _ => .int
def ev_y10 : Nat → FieldType := fun k => match k with
  | 0 => .object "LanternChess$SetupText"
  | 1 => .object "LanternChess$Game"
  | 2 => .object "LanternChess$Game"
  | 3 => .object "LanternChess$Game"
  | 4 => .boolean
  | 5 => .object "LanternChess$History"
  | 6 => .object "LanternChess$Sending"
  | 7 => .object "LanternChess$MoveList"
  | 8 => .object "LanternChess$Walk"
  | 9 => .array .byte
  | _ => .int
def ev_y11 : Nat → FieldType := fun k => match k with
  | 0 => .array .int
  | 1 => .int
  | _ => .int
abbrev ev_cl : List vw_C := [("LanternChess$Board", ev_T0, 6), ("LanternChess$Field", ev_T1, 3), ("LanternChess$Fogs", ev_T2, 4), ("LanternChess$Game", ev_T3, 13), ("LanternChess$History", ev_T4, 3), ("LanternChess$Log", ev_T5, 3), ("LanternChess$MoveList", ev_T6, 5), ("LanternChess$Sending", ev_T7, 8), ("LanternChess$SetupText", ev_T8, 10), ("LanternChess$Walk", ev_T9, 4), ("LanternChess", ev_T10, 11), ("LanternChess$Log", ev_T11, 3)]
def ev_ty (k : Nat) : Nat → FieldType := match k with
  | 0 => ev_y0
  | 1 => ev_y1
  | 2 => ev_y2
  | 3 => ev_y3
  | 4 => ev_y4
  | 5 => ev_y5
  | 6 => ev_y6
  | 7 => ev_y7
  | 8 => ev_y8
  | 9 => ev_y9
  | 10 => ev_y10
  | _ => ev_y11
/-- a new object: its fields -/
def ev_new (k : Nat) : List Value := match k with
  | 0 => [.null, .null, .int 0, .int 0, .int 0, .int 0]
  | 1 => [.null, .int 0, .int 0]
  | 2 => [.null, .null, .null, .int 0]
  | 3 => [.null, .null, .null, .null, .null, .int 0, .int 0, .int 0, .int 0, .int 0, .int 0, .int 0, .int 0]
  | 4 => [.null, .int 0, .int 0]
  | 5 => [.null, .int 0, .int 0]
  | 6 => [.null, .null, .null, .null, .int 0]
  | 7 => [.null, .null, .int 0, .int 0, .int 0, .int 0, .int 0, .int 0]
  | 8 => [.null, .int 0, .int 0, .int 0, .int 0, .int 0, .int 0, .int 0, .int 0, .int 0]
  | 9 => [.null, .null, .null, .int 0]
  | 10 => [.null, .null, .null, .null, .int 0, .null, .null, .null, .null, .null, .int 0]
  | _ => [.null, .int 0, .int 0]
/-- a method: name, code, locals, answer, class, kind (0 static, 1 of an object, 2 a constructor), depth, locals of its callees, cells, slots, places of its words, handlers -/
abbrev ev_R : Type := MethodName × Nat × Option FieldType × Nat × Nat × (Nat × Nat × Nat × Nat) × (Nat × Nat × Nat) × List (Nat × Nat × Nat × Nat) × List (Nat × Nat × Nat × Nat × Nat)
def ev_mt0 : List ev_R := [
(⟨"LanternChess$Board", "<init>", "()V"⟩, 1, none, 0, 2, (3, 50, 4, 134), (11090, 11089, 0), [], []),
  (⟨"LanternChess$Board", "begin", "(II)V"⟩, 3, none, 0, 1, (3, 75, 0, 0), (12105, 12103, 12104), [], []),
  (⟨"LanternChess$Board", "copyFrom", "(LLanternChess$Board;)V"⟩, 2, none, 0, 1, (3, 81, 0, 0), (13116, 13114, 13115), [], []),
  (⟨"LanternChess$Board", "carryOut", "(III)V"⟩, 4, none, 0, 1, (5, 118, 0, 0), (16222, 16220, 16221), [], []),
  (⟨"LanternChess$Board", "putRight", "(II)V"⟩, 3, none, 0, 1, (5, 118, 0, 0), (16227, 16226, 2013), [], []),
  (⟨"LanternChess$Board", "turnFlashes", "()I"⟩, 1, some (.int), 0, 1, (1, 30, 0, 0), (16108, 16106, 16107), [], []),
  (⟨"LanternChess$Board", "readingOf", "(IIII)I"⟩, 5, some (.int), 0, 1, (4, 112, 0, 0), (16151, 16149, 16150), [], []),
  (⟨"LanternChess$Board", "totalBehind", "(III)I"⟩, 4, some (.int), 0, 1, (5, 117, 0, 0), (16157, 16155, 16156), [], []),
  (⟨"LanternChess$Board", "follow", "(IIII)V"⟩, 5, none, 0, 1, (6, 141, 0, 0), (16218, 16216, 16217), [], []),
  (⟨"LanternChess$Field", "<init>", "()V"⟩, 1, none, 1, 2, (2, 30, 1, 64), (11096, 11095, 0), [], []),
  (⟨"LanternChess$Field", "begin", "(II)V"⟩, 3, none, 1, 1, (2, 53, 0, 0), (12109, 12107, 12108), [], []),
  (⟨"LanternChess$Field", "copyFrom", "(LLanternChess$Field;)V"⟩, 2, none, 1, 1, (2, 60, 0, 0), (13120, 13118, 13119), [], []),
  (⟨"LanternChess$Field", "cellOf", "(II)I"⟩, 2, some (.int), 1, 0, (1, 30, 0, 0), (12119, 12118, 0), [], []),
  (⟨"LanternChess$Field", "columnOf", "(I)I"⟩, 1, some (.int), 1, 0, (1, 30, 0, 0), (15177, 15176, 0), [], []),
  (⟨"LanternChess$Field", "rowOf", "(I)I"⟩, 1, some (.int), 1, 0, (1, 30, 0, 0), (15180, 15179, 0), [], []),
  (⟨"LanternChess$Field", "hasCell", "(II)Z"⟩, 3, some (.boolean), 1, 1, (1, 30, 0, 0), (15165, 15163, 15164), [], []),
  (⟨"LanternChess$Field", "numberOf", "(I)I"⟩, 2, some (.int), 1, 1, (1, 30, 0, 0), (13040, 13038, 13039), [], []),
  (⟨"LanternChess$Field", "at", "(I)I"⟩, 2, some (.int), 1, 1, (1, 30, 0, 0), (14117, 14115, 14116), [], []),
  (⟨"LanternChess$Field", "put", "(II)V"⟩, 3, none, 1, 1, (1, 30, 0, 0), (12127, 12125, 12126), [], []),
  (⟨"LanternChess$Field", "isOf", "(II)Z"⟩, 2, some (.boolean), 1, 0, (1, 30, 0, 0), (15174, 15173, 0), [], []),
  (⟨"LanternChess$Field", "valueOf", "(I)I"⟩, 2, some (.int), 1, 0, (1, 30, 0, 0), (15235, 15234, 0), [], []),
  (⟨"LanternChess$Field", "allows", "(III)Z"⟩, 6, some (.boolean), 1, 1, (3, 87, 0, 0), (15170, 15168, 15169), [], []),
  (⟨"LanternChess$Field", "reaches", "(IIIZ)Z"⟩, 13, some (.boolean), 1, 1, (2, 55, 0, 0), (15185, 15183, 15184), [], []),
  (⟨"LanternChess$Field", "isClear", "(III)Z"⟩, 6, some (.boolean), 1, 1, (1, 30, 0, 0), (15196, 15195, 2003), [], []),
  (⟨"LanternChess$Field", "becomesQueen", "(II)Z"⟩, 3, some (.boolean), 1, 1, (2, 50, 0, 0), (16001, 16000, 2006), [], []),
  (⟨"LanternChess$Field", "arriving", "(II)I"⟩, 4, some (.int), 1, 1, (3, 72, 0, 0), (16015, 16014, 2007), [], []),
  (⟨"LanternChess$Field", "carryOut", "(II)V"⟩, 4, none, 1, 1, (4, 95, 0, 0), (16011, 16009, 16010), [], []),
  (⟨"LanternChess$Field", "gainOf", "(II)I"⟩, 3, some (.int), 1, 1, (3, 72, 0, 0), (15232, 15230, 15231), [], []),
  (⟨"LanternChess$Field", "greatestGain", "(I)I"⟩, 6, some (.int), 1, 1, (4, 112, 0, 0), (16020, 16018, 16019), [], []),
  (⟨"LanternChess$Field", "attacksOn", "(II)I"⟩, 5, some (.int), 1, 1, (3, 87, 0, 0), (16068, 16066, 16067), [], []),
  (⟨"LanternChess$Field", "isKingExposed", "(I)Z"⟩, 3, some (.boolean), 1, 1, (4, 111, 0, 0), (16064, 16062, 16063), [], []),
  (⟨"LanternChess$Field", "columnOf", "(I)I"⟩, 1, some (.int), 1, 0, (1, 30, 0, 0), (15177, 15176, 0), [], []),
  (⟨"LanternChess$Field", "weightOf", "(II)I"⟩, 3, some (.int), 1, 1, (2, 51, 0, 0), (13036, 13035, 1001), [], []),
  (⟨"LanternChess$Field", "total", "()I"⟩, 3, some (.int), 1, 1, (3, 73, 0, 0), (13032, 13030, 13031), [], []),
  (⟨"LanternChess$Field", "totalWith", "(II)I"⟩, 3, some (.int), 1, 1, (4, 95, 0, 0), (16161, 16159, 16160), [], []),
  (⟨"LanternChess$Field", "differences", "(LLanternChess$Field;)I"⟩, 4, some (.int), 1, 1, (1, 30, 0, 0), (13056, 13054, 13055), [], []),
  (⟨"LanternChess$Field", "firstDifference", "(LLanternChess$Field;)I"⟩, 3, some (.int), 1, 1, (2, 51, 0, 0), (13064, 13062, 13063), [], []),
  (⟨"LanternChess$Fogs", "<init>", "()V"⟩, 1, none, 2, 2, (2, 30, 3, 24), (11140, 11139, 0), [], []),
  (⟨"LanternChess$Fogs", "copyFrom", "(LLanternChess$Fogs;)V"⟩, 2, none, 2, 1, (2, 60, 0, 0), (13127, 13125, 13126), [], []),
  (⟨"LanternChess$Fogs", "isFull", "()Z"⟩, 1, some (.boolean), 2, 1, (1, 30, 0, 0), (14128, 14126, 14127), [], [])]
def ev_mt1 : List ev_R := [
(⟨"LanternChess$Fogs", "beginsAt", "(I)Z"⟩, 3, some (.boolean), 2, 1, (1, 30, 0, 0), (14132, 14130, 14131), [], []),
  (⟨"LanternChess$Fogs", "put", "(III)I"⟩, 6, some (.int), 2, 1, (1, 30, 0, 0), (14136, 14134, 14135), [], []),
  (⟨"LanternChess$Field", "columnOf", "(I)I"⟩, 1, some (.int), 1, 0, (1, 30, 0, 0), (15177, 15176, 0), [], []),
  (⟨"LanternChess$Field", "columnOf", "(I)I"⟩, 1, some (.int), 1, 0, (1, 30, 0, 0), (15177, 15176, 0), [], []),
  (⟨"LanternChess$Fogs", "hides", "(I)Z"⟩, 4, some (.boolean), 2, 1, (1, 30, 0, 0), (16129, 16127, 16128), [], []),
  (⟨"LanternChess$Fogs", "clearOnes", "(II)I"⟩, 5, some (.int), 2, 1, (2, 53, 0, 0), (16125, 16123, 16124), [], []),
  (⟨"LanternChess$Field", "columnOf", "(I)I"⟩, 1, some (.int), 1, 0, (1, 30, 0, 0), (15177, 15176, 0), [], []),
  (⟨"LanternChess$Game", "<init>", "()V"⟩, 1, none, 3, 2, (4, 70, 18, 634), (11084, 11083, 0), [], []),
  (⟨"LanternChess$Game", "begin", "(II)V"⟩, 3, none, 3, 1, (4, 97, 0, 0), (12101, 12099, 12100), [], []),
  (⟨"LanternChess$Game", "copyFrom", "(LLanternChess$Game;)V"⟩, 2, none, 3, 1, (4, 102, 0, 0), (13112, 13110, 13111), [], []),
  (⟨"LanternChess$Game", "place", "(II)V"⟩, 3, none, 3, 1, (2, 52, 0, 0), (12123, 12121, 12122), [], []),
  (⟨"LanternChess$Game", "boardOf", "(I)LLanternChess$Board;"⟩, 2, some ((Jvm.ClassFile.FieldType.object "LanternChess$Board")), 3, 1, (1, 30, 0, 0), (13028, 13026, 13027), [], []),
  (⟨"LanternChess$Game", "clockOf", "(I)I"⟩, 2, some (.int), 3, 1, (1, 30, 0, 0), (13020, 13018, 13019), [], []),
  (⟨"LanternChess$Game", "setClock", "(II)V"⟩, 3, none, 3, 1, (1, 30, 0, 0), (13154, 13152, 13153), [], []),
  (⟨"LanternChess$Game", "differences", "()I"⟩, 1, some (.int), 3, 1, (2, 53, 0, 0), (13052, 13050, 13051), [], []),
  (⟨"LanternChess$Game", "firstDifference", "()I"⟩, 1, some (.int), 3, 1, (3, 73, 0, 0), (13060, 13058, 13059), [], []),
  (⟨"LanternChess$Game", "canMove", "(II)Z"⟩, 3, some (.boolean), 3, 1, (4, 112, 0, 0), (16181, 16179, 16180), [], []),
  (⟨"LanternChess$Game", "endWith", "(I)V"⟩, 2, none, 3, 1, (1, 30, 0, 0), (13140, 13138, 13139), [], []),
  (⟨"LanternChess$Game", "spend", "(I)Z"⟩, 4, some (.boolean), 3, 1, (2, 52, 0, 0), (16187, 16185, 16186), [], []),
  (⟨"LanternChess$Game", "foretell", "(LLanternChess$Sending;III)V"⟩, 8, none, 3, 1, (6, 140, 0, 0), (16103, 16101, 16102), [], []),
  (⟨"LanternChess$Game", "tell", "(LLanternChess$Sending;II)I"⟩, 7, some (.int), 3, 1, (7, 167, 0, 0), (16177, 16175, 16176), [], []),
  (⟨"LanternChess$Game", "noteSending", "(LLanternChess$Sending;I)V"⟩, 3, none, 3, 1, (3, 80, 0, 0), (16195, 16194, 2012), [], []),
  (⟨"LanternChess$Game", "finishMove", "(III)V"⟩, 7, none, 3, 1, (6, 141, 0, 0), (16231, 16230, 2014), [], []),
  (⟨"LanternChess$History", "<init>", "()V"⟩, 2, none, 4, 2, (5, 90, 153, 5184), (11235, 11234, 0), [], []),
  (⟨"LanternChess$History", "forget", "()V"⟩, 1, none, 4, 1, (1, 30, 0, 0), (13192, 13190, 13191), [], []),
  (⟨"LanternChess$History", "keep", "(LLanternChess$Game;)V"⟩, 3, none, 4, 1, (5, 123, 0, 0), (13108, 13106, 13107), [], []),
  (⟨"LanternChess$History", "takeBack", "(LLanternChess$Game;)V"⟩, 3, none, 4, 1, (5, 123, 0, 0), (13178, 13176, 13177), [], []),
  (⟨"LanternChess$Log", "<init>", "()V"⟩, 1, none, 5, 2, (2, 30, 1, 160), (11161, 11160, 0), [], []),
  (⟨"LanternChess$Log", "copyFrom", "(LLanternChess$Log;)V"⟩, 2, none, 5, 1, (2, 60, 0, 0), (13132, 13130, 13131), [], []),
  (⟨"LanternChess$Log", "clear", "()V"⟩, 1, none, 5, 1, (1, 30, 0, 0), (12116, 12114, 12115), [], []),
  (⟨"LanternChess$Log", "openRow", "()V"⟩, 1, none, 5, 1, (2, 60, 0, 0), (16199, 16197, 16198), [], []),
  (⟨"LanternChess$Log", "note", "(II)V"⟩, 4, none, 5, 1, (1, 30, 0, 0), (16203, 16201, 16202), [], []),
  (⟨"LanternChess$Log", "partOf", "(II)I"⟩, 4, some (.int), 5, 1, (1, 30, 0, 0), (13076, 13074, 13075), [], []),
  (⟨"LanternChess$Log", "partSum", "(I)I"⟩, 4, some (.int), 5, 1, (2, 53, 0, 0), (13072, 13070, 13071), [], []),
  (⟨"LanternChess$MoveList", "<init>", "()V"⟩, 1, none, 6, 2, (3, 50, 5, 2578), (12056, 12055, 0), [], []),
  (⟨"LanternChess$MoveList", "fill", "(LLanternChess$Field;I)V"⟩, 4, none, 6, 1, (5, 136, 0, 0), (15204, 15202, 15203), [], []),
  (⟨"LanternChess$MoveList", "fillFrom", "(LLanternChess$Field;II)V"⟩, 5, none, 6, 1, (4, 112, 0, 0), (15210, 15209, 2004), [], []),
  (⟨"LanternChess$MoveList", "fromOf", "(I)I"⟩, 2, some (.int), 6, 1, (1, 30, 0, 0), (15223, 15221, 15222), [], []),
  (⟨"LanternChess$MoveList", "toOf", "(I)I"⟩, 2, some (.int), 6, 1, (1, 30, 0, 0), (15227, 15225, 15226), [], []),
  (⟨"LanternChess$MoveList", "worthOf", "(LLanternChess$Field;III)I"⟩, 6, some (.int), 6, 1, (5, 137, 0, 0), (16005, 16003, 16004), [], [])]
def ev_mt2 : List ev_R := [
(⟨"LanternChess$MoveList", "weigh", "(LLanternChess$Field;I)V"⟩, 4, none, 6, 1, (6, 162, 0, 0), (16082, 16080, 16081), [], []),
  (⟨"LanternChess$MoveList", "placeOf", "(I)I"⟩, 3, some (.int), 6, 1, (2, 53, 0, 0), (16087, 16085, 16086), [], []),
  (⟨"LanternChess$MoveList", "rankOf", "(I)I"⟩, 4, some (.int), 6, 1, (1, 30, 0, 0), (16091, 16090, 2010), [], []),
  (⟨"LanternChess$Sending", "<init>", "()V"⟩, 1, none, 7, 2, (2, 30, 2, 12), (12015, 12014, 0), [], []),
  (⟨"LanternChess$Sending", "flashesOf", "(I)I"⟩, 2, some (.int), 7, 1, (1, 30, 0, 0), (16169, 16167, 16168), [], []),
  (⟨"LanternChess$Sending", "lookOf", "(I)I"⟩, 2, some (.int), 7, 1, (1, 30, 0, 0), (16138, 16136, 16137), [], []),
  (⟨"LanternChess$Sending", "compose", "(III)V"⟩, 4, none, 7, 1, (2, 52, 0, 0), (16112, 16110, 16111), [], []),
  (⟨"LanternChess$Sending", "checkOf", "([I)I"⟩, 3, some (.int), 7, 0, (1, 30, 0, 0), (16117, 16116, 0), [], []),
  (⟨"LanternChess$Sending", "watch", "(LLanternChess$Fogs;II)V"⟩, 6, none, 7, 1, (3, 77, 0, 0), (16121, 16119, 16120), [], []),
  (⟨"LanternChess$Sending", "isWhole", "(LLanternChess$Field;)Z"⟩, 5, some (.boolean), 7, 1, (2, 52, 0, 0), (16133, 16131, 16132), [], []),
  (⟨"LanternChess$Sending", "seenFrom", "()I"⟩, 1, some (.int), 7, 1, (2, 51, 0, 0), (16142, 16140, 16141), [], []),
  (⟨"LanternChess$Sending", "seenTo", "()I"⟩, 1, some (.int), 7, 1, (2, 51, 0, 0), (16147, 16145, 16146), [], []),
  (⟨"LanternChess$Sending", "allFlashes", "()I"⟩, 1, some (.int), 7, 1, (2, 52, 0, 0), (16207, 16205, 16206), [], []),
  (⟨"LanternChess$Sending", "allLooks", "()I"⟩, 1, some (.int), 7, 1, (2, 52, 0, 0), (16214, 16212, 16213), [], []),
  (⟨"LanternChess$Sending", "sumOf", "([I)I"⟩, 3, some (.int), 7, 0, (1, 30, 0, 0), (16210, 16209, 0), [], []),
  (⟨"LanternChess$SetupText", "<init>", "()V"⟩, 1, none, 8, 2, (2, 30, 1, 600), (11043, 11042, 0), [], []),
  (⟨"LanternChess$SetupText", "hasRoom", "()Z"⟩, 1, some (.boolean), 8, 1, (1, 30, 0, 0), (14022, 14020, 14021), [], []),
  (⟨"LanternChess$SetupText", "append", "(I)V"⟩, 3, none, 8, 1, (1, 30, 0, 0), (14026, 14024, 14025), [], []),
  (⟨"LanternChess$SetupText", "read", "(LLanternChess$Game;)V"⟩, 5, none, 8, 1, (11, 271, 0, 0), (14038, 14036, 14037), [], []),
  (⟨"LanternChess$SetupText", "readStatement", "(LLanternChess$Game;)V"⟩, 2, none, 8, 1, (10, 250, 0, 0), (14084, 14083, 1011), [], []),
  (⟨"LanternChess$SetupText", "readPiece", "(LLanternChess$Game;I)V"⟩, 7, none, 8, 1, (9, 224, 0, 0), (14098, 14097, 1013), [], []),
  (⟨"LanternChess$SetupText", "readFog", "(LLanternChess$Game;)V"⟩, 5, none, 8, 1, (4, 96, 0, 0), (14124, 14123, 2000), [], []),
  (⟨"LanternChess$SetupText", "takeKind", "(I)I"⟩, 3, some (.int), 8, 1, (8, 202, 0, 0), (14102, 14101, 1014), [], []),
  (⟨"LanternChess$SetupText", "kindOfWord", "()I"⟩, 1, some (.int), 8, 1, (7, 182, 0, 0), (14106, 14105, 1015), [], []),
  (⟨"LanternChess$SetupText", "takeOnce", "(I)V"⟩, 2, none, 8, 1, (3, 71, 0, 0), (14089, 14088, 1012), [], []),
  (⟨"LanternChess$SetupText", "takeWord", "(Ljava/lang/String;)V"⟩, 2, none, 8, 1, (7, 182, 0, 0), (14057, 14056, 1005), [], []),
  (⟨"LanternChess$SetupText", "takeSemicolon", "()V"⟩, 1, none, 8, 1, (3, 71, 0, 0), (14079, 14078, 1010), [], []),
  (⟨"LanternChess$SetupText", "takeNumber", "(II)I"⟩, 4, some (.int), 8, 1, (3, 73, 0, 0), (14071, 14070, 1008), [], []),
  (⟨"LanternChess$SetupText", "numberOfToken", "()I"⟩, 3, some (.int), 8, 1, (2, 51, 0, 0), (14075, 14074, 1009), [], []),
  (⟨"LanternChess$SetupText", "isWord", "(Ljava/lang/String;)Z"⟩, 3, some (.boolean), 8, 1, (6, 160, 0, 0), (14061, 14060, 1006), [], []),
  (⟨"LanternChess$SetupText", "fail", "(II)V"⟩, 3, none, 8, 1, (1, 30, 0, 0), (14067, 14066, 1007), [], []),
  (⟨"LanternChess$SetupText", "takeToken", "()V"⟩, 1, none, 8, 1, (2, 51, 0, 0), (14042, 14041, 1003), [], []),
  (⟨"LanternChess$SetupText", "byteAt", "(I)I"⟩, 2, some (.int), 8, 1, (1, 30, 0, 0), (14046, 14045, 1004), [], []),
  (⟨"LanternChess$SetupText", "isLetter", "(I)Z"⟩, 1, some (.boolean), 8, 0, (1, 30, 0, 0), (14049, 14048, 0), [], []),
  (⟨"LanternChess$SetupText", "isDigit", "(I)Z"⟩, 1, some (.boolean), 8, 0, (1, 30, 0, 0), (14052, 14051, 0), [], []),
  (⟨"LanternChess$Walk", "<init>", "()V"⟩, 1, none, 9, 2, (3, 50, 4, 195), (12081, 12080, 0), [], []),
  (⟨"LanternChess$Walk", "fewest", "(LLanternChess$Field;II)I"⟩, 6, some (.int), 9, 1, (4, 115, 0, 0), (16035, 16033, 16034), [], []),
  (⟨"LanternChess$Walk", "enter", "(II)V"⟩, 3, none, 9, 1, (2, 51, 0, 0), (16043, 16042, 2008), [], []),
  (⟨"LanternChess$Walk", "goOnFrom", "(III)V"⟩, 9, none, 9, 1, (3, 87, 0, 0), (16047, 16046, 2009), [], []),
  (⟨"LanternChess", "<init>", "()V"⟩, 1, none, 10, 2, (6, 119, 228, 10819), (11035, 11034, 0), [], [])]
def ev_mt3 : List ev_R := [
(⟨"LanternChess", "appendInput", "(IIIII)I"⟩, 6, some (.int), 10, 1, (2, 52, 0, 0), (14018, 14016, 14017), [], []),
  (⟨"LanternChess", "truncateInput", "(I)Z"⟩, 2, some (.boolean), 10, 1, (1, 30, 0, 0), (14030, 14028, 14029), [], []),
  (⟨"LanternChess", "loadGame", "()I"⟩, 1, some (.int), 10, 1, (12, 295, 0, 0), (14034, 14032, 14033), [], []),
  (⟨"LanternChess$Field", "columnOf", "(I)I"⟩, 1, some (.int), 1, 0, (1, 30, 0, 0), (15177, 15176, 0), [], []),
  (⟨"LanternChess$Field", "columnOf", "(I)I"⟩, 1, some (.int), 1, 0, (1, 30, 0, 0), (15177, 15176, 0), [], []),
  (⟨"LanternChess", "count", "(I)I"⟩, 2, some (.int), 10, 1, (1, 30, 0, 0), (12165, 12163, 12164), [], []),
  (⟨"LanternChess", "clock", "(I)I"⟩, 2, some (.int), 10, 1, (2, 51, 0, 0), (12237, 12235, 12236), [], []),
  (⟨"LanternChess", "piece", "(III)I"⟩, 4, some (.int), 10, 1, (3, 74, 0, 0), (16026, 16024, 16025), [], []),
  (⟨"LanternChess", "isMove", "(IIIIII)Z"⟩, 7, some (.boolean), 10, 1, (4, 112, 0, 0), (15153, 15151, 15152), [], []),
  (⟨"LanternChess", "moves", "(II)I"⟩, 3, some (.int), 10, 1, (6, 159, 0, 0), (16056, 16054, 16055), [], []),
  (⟨"LanternChess", "move", "(IIII)I"⟩, 6, some (.int), 10, 1, (7, 188, 0, 0), (15200, 15198, 15199), [], []),
  (⟨"LanternChess", "ranked", "(II)I"⟩, 4, some (.int), 10, 1, (7, 188, 0, 0), (16078, 16076, 16077), [], []),
  (⟨"LanternChess", "moveInfo", "(LLanternChess$Field;III)I"⟩, 7, some (.int), 10, 1, (6, 162, 0, 0), (15219, 15218, 2005), [], []),
  (⟨"LanternChess$Field", "columnOf", "(I)I"⟩, 1, some (.int), 1, 0, (1, 30, 0, 0), (15177, 15176, 0), [], []),
  (⟨"LanternChess", "isInCheck", "(II)Z"⟩, 3, some (.boolean), 10, 1, (5, 133, 0, 0), (16060, 16058, 16059), [], []),
  (⟨"LanternChess$Field", "columnOf", "(I)I"⟩, 1, some (.int), 1, 0, (1, 30, 0, 0), (15177, 15176, 0), [], []),
  (⟨"LanternChess", "sum", "(I)I"⟩, 2, some (.int), 10, 1, (4, 95, 0, 0), (13024, 13022, 13023), [], []),
  (⟨"LanternChess", "differ", "(I)I"⟩, 2, some (.int), 10, 1, (4, 93, 0, 0), (13044, 13042, 13043), [], []),
  (⟨"LanternChess", "fewestMoves", "(IIIII)I"⟩, 6, some (.int), 10, 1, (5, 140, 0, 0), (16031, 16029, 16030), [], []),
  (⟨"LanternChess$Field", "columnOf", "(I)I"⟩, 1, some (.int), 1, 0, (1, 30, 0, 0), (15177, 15176, 0), [], []),
  (⟨"LanternChess$Field", "columnOf", "(I)I"⟩, 1, some (.int), 1, 0, (1, 30, 0, 0), (15177, 15176, 0), [], []),
  (⟨"LanternChess$Field", "columnOf", "(I)I"⟩, 1, some (.int), 1, 0, (1, 30, 0, 0), (15177, 15176, 0), [], []),
  (⟨"LanternChess$Field", "columnOf", "(I)I"⟩, 1, some (.int), 1, 0, (1, 30, 0, 0), (15177, 15176, 0), [], []),
  (⟨"LanternChess", "group", "(IIIII)I"⟩, 6, some (.int), 10, 1, (8, 191, 0, 0), (16095, 16093, 16094), [], []),
  (⟨"LanternChess$Field", "columnOf", "(I)I"⟩, 1, some (.int), 1, 0, (1, 30, 0, 0), (15177, 15176, 0), [], []),
  (⟨"LanternChess", "messageTicks", "(IIII)I"⟩, 5, some (.int), 10, 1, (8, 191, 0, 0), (17006, 17004, 17005), [], []),
  (⟨"LanternChess", "readsAs", "(IIII)I"⟩, 5, some (.int), 10, 1, (8, 191, 0, 0), (17002, 17000, 17001), [], []),
  (⟨"LanternChess", "foretellNow", "(IIII)V"⟩, 5, none, 10, 1, (7, 167, 0, 0), (16099, 16098, 2011), [], []),
  (⟨"LanternChess", "ifPlayed", "(IIIII)I"⟩, 7, some (.int), 10, 1, (8, 193, 0, 0), (16173, 16171, 16172), [], []),
  (⟨"LanternChess", "delay", "(IIIII)I"⟩, 10, some (.int), 10, 1, (7, 167, 0, 0), (16237, 16235, 16236), [], []),
  (⟨"LanternChess", "sent", "(II)I"⟩, 3, some (.int), 10, 1, (2, 53, 0, 0), (17019, 17017, 17018), [], []),
  (⟨"LanternChess", "made", "(II)I"⟩, 4, some (.int), 10, 1, (2, 53, 0, 0), (17014, 17012, 17013), [], []),
  (⟨"LanternChess", "meanTries", "()D"⟩, 2, some (.double), 10, 1, (3, 76, 0, 0), (13068, 13066, 13067), [], []),
  (⟨"LanternChess", "hiddenShare", "()F"⟩, 4, some (.float), 10, 1, (3, 76, 0, 0), (13080, 13078, 13079), [], []),
  (⟨"LanternChess", "play", "(IIII)I"⟩, 7, some (.int), 10, 1, (8, 193, 0, 0), (17010, 17008, 17009), [], []),
  (⟨"LanternChess$Field", "columnOf", "(I)I"⟩, 1, some (.int), 1, 0, (1, 30, 0, 0), (15177, 15176, 0), [], []),
  (⟨"LanternChess", "resign", "()I"⟩, 2, some (.int), 10, 1, (6, 145, 0, 0), (13084, 13082, 13083), [], []),
  (⟨"LanternChess", "settle", "(I)I"⟩, 3, some (.int), 10, 1, (6, 145, 0, 0), (13144, 13142, 13143), [], []),
  (⟨"LanternChess", "wind", "(II)I"⟩, 4, some (.int), 10, 1, (6, 145, 0, 0), (13149, 13147, 13148), [], []),
  (⟨"LanternChess$Field", "columnOf", "(I)I"⟩, 1, some (.int), 1, 0, (1, 30, 0, 0), (15177, 15176, 0), [], [])]
def ev_mt4 : List ev_R := [
(⟨"LanternChess$Field", "columnOf", "(I)I"⟩, 1, some (.int), 1, 0, (1, 30, 0, 0), (15177, 15176, 0), [], []),
  (⟨"LanternChess$Field", "columnOf", "(I)I"⟩, 1, some (.int), 1, 0, (1, 30, 0, 0), (15177, 15176, 0), [], []),
  (⟨"LanternChess$Field", "columnOf", "(I)I"⟩, 1, some (.int), 1, 0, (1, 30, 0, 0), (15177, 15176, 0), [], []),
  (⟨"LanternChess$Field", "columnOf", "(I)I"⟩, 1, some (.int), 1, 0, (1, 30, 0, 0), (15177, 15176, 0), [], []),
  (⟨"LanternChess$Field", "columnOf", "(I)I"⟩, 1, some (.int), 1, 0, (1, 30, 0, 0), (15177, 15176, 0), [], []),
  (⟨"LanternChess", "undo", "()I"⟩, 1, some (.int), 10, 1, (6, 145, 0, 0), (13158, 13156, 13157), [], []),
  (⟨"LanternChess$Field", "columnOf", "(I)I"⟩, 1, some (.int), 1, 0, (1, 30, 0, 0), (15177, 15176, 0), [], []),
  (⟨"LanternChess$Field", "columnOf", "(I)I"⟩, 1, some (.int), 1, 0, (1, 30, 0, 0), (15177, 15176, 0), [], []),
  (⟨"LanternChess$Field", "columnOf", "(I)I"⟩, 1, some (.int), 1, 0, (1, 30, 0, 0), (15177, 15176, 0), [], []),
  (⟨"LanternChess$Field", "columnOf", "(I)I"⟩, 1, some (.int), 1, 0, (1, 30, 0, 0), (15177, 15176, 0), [], []),
  (⟨"LanternChess$Field", "columnOf", "(I)I"⟩, 1, some (.int), 1, 0, (1, 30, 0, 0), (15177, 15176, 0), [], []),
  (⟨"LanternChess$Field", "columnOf", "(I)I"⟩, 1, some (.int), 1, 0, (1, 30, 0, 0), (15177, 15176, 0), [], []),
  (⟨"LanternChess$Field", "columnOf", "(I)I"⟩, 1, some (.int), 1, 0, (1, 30, 0, 0), (15177, 15176, 0), [], []),
  (⟨"LanternChess", "saveState", "()I"⟩, 1, some (.int), 10, 1, (5, 123, 0, 0), (13182, 13180, 13181), [], []),
  (⟨"LanternChess", "restoreState", "()I"⟩, 1, some (.int), 10, 1, (5, 123, 0, 0), (13187, 13185, 13186), [], []),
  (⟨"LanternChess", "needSide", "(I)V"⟩, 1, none, 10, 0, (1, 30, 0, 0), (13000, 12239, 0), [], []),
  (⟨"LanternChess", "needIndex", "(II)V"⟩, 2, none, 10, 0, (1, 30, 0, 0), (15214, 15213, 0), [], []),
  (⟨"LanternChess", "needRange", "(III)V"⟩, 3, none, 10, 0, (1, 30, 0, 0), (13047, 13046, 0), [], []),
  (⟨"LanternChess", "needCell", "(II)V"⟩, 3, none, 10, 1, (2, 52, 0, 0), (15161, 15160, 2002), [], []),
  (⟨"LanternChess", "needCells", "(IIII)V"⟩, 5, none, 10, 1, (3, 74, 0, 0), (15157, 15156, 2001), [], []),
  (⟨"LanternChess", "needGoingOn", "()V"⟩, 1, none, 10, 1, (1, 30, 0, 0), (13088, 13087, 1002), [], []),
  (⟨"LanternChessLaw", "cell", "([II)I"⟩, 2, some (.int), 12, 0, (1, 30, 0, 0), (13198, 13197, 0), [], []),
  (⟨"LanternChessLaw", "draw", "([IIII)I"⟩, 4, some (.int), 12, 0, (2, 51, 0, 0), (13195, 13194, 0), [], []),
  (⟨"LanternChessLaw", "areMoves", "(LLanternChess;II)Z"⟩, 11, some (.boolean), 12, 0, (8, 213, 0, 0), (15149, 15148, 0), [], []),
  (⟨"LanternChessLaw", "areBoards", "(LLanternChess;)Z"⟩, 7, some (.boolean), 12, 0, (5, 116, 1, 2), (16071, 16070, 0), [], []),
  (⟨"LanternChessLaw", "isPlayed", "(LLanternChess;[II)Z"⟩, 20, some (.boolean), 12, 0, (9, 219, 0, 0), (16074, 16073, 0), [], []),
  (⟨"LanternChessLaw", "law", "([I)Z"⟩, 8, some (.boolean), 12, 0, (10, 258, 232, 10836), (0, 0, 0), [], []),
  (⟨"java/util/Arrays", "fill", "([II)V"⟩, 4, none, 13, 0, (1, 30, 0, 0), (12112, 12111, 0), [], []),
  (⟨"java/lang/Integer", "signum", "(I)I"⟩, 1, some (.int), 14, 0, (1, 30, 0, 0), (15192, 15191, 0), [], [])]
def ev_z : ev_R := (⟨"", "", ""⟩, 0, none, 0, 0, (0, 0, 0, 0), (0, 0, 0), [], [])
def ev_mts : List (List ev_R) := [ev_mt0, ev_mt1, ev_mt2, ev_mt3, ev_mt4]
def ev_m (k : Nat) : ev_R := (ev_mts.getD (k / 40) []).getD (k % 40) ev_z
def ev_nm : Nat := 189
def ev_lawM : Nat := 186
def ev_y (k : Nat) : MethodName := (ev_m k).1
def ev_ml (k : Nat) : Nat := (ev_m k).2.1
def ev_rt (k : Nat) : Option FieldType := (ev_m k).2.2.1
def ev_ci (k : Nat) : Nat := (ev_m k).2.2.2.1
def ev_kd (k : Nat) : Nat := (ev_m k).2.2.2.2.1
def ev_dp (k : Nat) : Nat := (ev_m k).2.2.2.2.2.1.1
def ev_lc (k : Nat) : Nat := (ev_m k).2.2.2.2.2.1.2.1
def ev_k1 (k : Nat) : Nat := (ev_m k).2.2.2.2.2.1.2.2.1
def ev_k2 (k : Nat) : Nat := (ev_m k).2.2.2.2.2.1.2.2.2
def ev_pw (k : Nat) : Nat × Nat × Nat := (ev_m k).2.2.2.2.2.2.1
def ev_hh (k : Nat) : List (Nat × Nat × Nat × Nat) := (ev_m k).2.2.2.2.2.2.2.1
def ev_eh (k : Nat) : List (Nat × Nat × Nat × Nat × Nat) := (ev_m k).2.2.2.2.2.2.2.2
/-- a field by its place in a pool: class, place; class of the object, slot, kind (0 int, 1 boolean, 2 a reference); place of the word -/
def ev_ft : List (Nat × Nat × Nat × Nat × Nat × Nat) := [(8, 9, 8, 0, 2, 11045), (8, 15, 8, 1, 0, 11046), (10, 90, 8, 1, 0, 11047), (8, 19, 8, 2, 0, 11048), (10, 97, 8, 2, 0, 11049), (8, 22, 8, 3, 0, 11050), (8, 25, 8, 4, 0, 11051), (10, 106, 8, 4, 0, 11052), (8, 28, 8, 5, 0, 11053), (8, 31, 8, 6, 0, 11054), (8, 34, 8, 7, 0, 11055), (8, 37, 8, 8, 0, 11056), (8, 40, 8, 9, 0, 11057), (1, 9, 1, 0, 2, 11098), (1, 15, 1, 1, 0, 11099), (8, 124, 1, 1, 0, 11100), (10, 122, 1, 1, 0, 11101), (1, 19, 1, 2, 0, 11102), (8, 129, 1, 2, 0, 11103), (10, 125, 1, 2, 0, 11104), (0, 12, 0, 0, 2, 11113), (3, 83, 0, 0, 2, 11114), (8, 118, 0, 0, 2, 11115), (10, 116, 0, 0, 2, 11116), (0, 18, 0, 1, 2, 11117), (0, 21, 0, 2, 0, 11118), (10, 155, 0, 2, 0, 11119), (0, 25, 0, 3, 0, 11120), (0, 28, 0, 4, 0, 11121), (0, 31, 0, 5, 0, 11122), (2, 9, 2, 0, 2, 11142), (2, 15, 2, 1, 2, 11143), (2, 18, 2, 2, 2, 11144), (2, 21, 2, 3, 0, 11145), (3, 67, 2, 3, 0, 11146), (10, 150, 2, 3, 0, 11147), (5, 9, 5, 0, 2, 11163), (5, 15, 5, 1, 0, 11164), (10, 173, 5, 1, 0, 11165), (5, 19, 5, 2, 0, 11166), (10, 165, 5, 2, 0, 11167), (3, 12, 3, 0, 2, 11175), (8, 115, 3, 0, 2, 11176), (10, 112, 3, 0, 2, 11177), (3, 18, 3, 1, 2, 11178), (10, 158, 3, 1, 2, 11179), (3, 24, 3, 2, 2, 11180), (8, 141, 3, 2, 2, 11181), (10, 146, 3, 2, 2, 11182), (3, 31, 3, 3, 2, 11183), (10, 170, 3, 3, 2, 11184), (3, 35, 3, 4, 2, 11185), (10, 161, 3, 4, 2, 11186), (3, 38, 3, 5, 0, 11187), (10, 128, 3, 5, 0, 11188), (3, 42, 3, 6, 0, 11189), (10, 131, 3, 6, 0, 11190), (3, 45, 3, 7, 0, 11191), (10, 134, 3, 7, 0, 11192), (3, 48, 3, 8, 0, 11193), (8, 87, 3, 8, 0, 11194), (10, 137, 3, 8, 0, 11195), (3, 51, 3, 9, 0, 11196), (8, 91, 3, 9, 0, 11197), (10, 140, 3, 9, 0, 11198), (3, 54, 3, 10, 0, 11199), (8, 96, 3, 10, 0, 11200), (10, 143, 3, 10, 0, 11201), (3, 57, 3, 11, 0, 11202), (3, 60, 3, 12, 0, 11203), (4, 11, 4, 0, 2, 12000), (4, 17, 4, 1, 0, 12001), (4, 21, 4, 2, 0, 12002), (10, 176, 4, 2, 0, 12003), (7, 9, 7, 0, 2, 12017), (7, 15, 7, 1, 2, 12018), (7, 18, 7, 2, 0, 12019), (3, 165, 7, 2, 0, 12020), (10, 291, 7, 2, 0, 12021), (7, 22, 7, 3, 0, 12022), (3, 138, 7, 3, 0, 12023), (10, 294, 7, 3, 0, 12024), (7, 25, 7, 4, 0, 12025), (3, 158, 7, 4, 0, 12026), (7, 28, 7, 5, 0, 12027), (3, 171, 7, 5, 0, 12028), (7, 31, 7, 6, 1, 12029), (3, 177, 7, 6, 1, 12030), (10, 312, 7, 6, 1, 12031), (7, 35, 7, 7, 0, 12032), (3, 181, 7, 7, 0, 12033), (10, 315, 7, 7, 0, 12034), (6, 9, 6, 0, 2, 12060), (6, 15, 6, 1, 2, 12061), (6, 18, 6, 2, 2, 12062), (6, 24, 6, 3, 2, 12063), (6, 28, 6, 4, 0, 12064), (10, 213, 6, 4, 0, 12065), (9, 12, 9, 0, 2, 12085), (9, 18, 9, 1, 2, 12086), (9, 22, 9, 2, 2, 12087), (9, 25, 9, 3, 0, 12088), (10, 10, 10, 0, 2, 12128), (10, 19, 10, 1, 2, 12129), (10, 23, 10, 2, 2, 12130), (10, 26, 10, 3, 2, 12131), (10, 29, 10, 4, 1, 12132), (10, 36, 10, 5, 2, 12133), (10, 43, 10, 6, 2, 12134), (10, 50, 10, 7, 2, 12135), (10, 57, 10, 8, 2, 12136), (10, 61, 10, 9, 2, 12137), (10, 65, 10, 10, 0, 12138)]
/-- a method by its place in a pool (1000 and more: the JDK's own) -/
def ev_ct : List (Nat × Nat × Nat × Nat) := [(12, 160, 119, 11033), (10, 1, 1006, 11036), (10, 9, 95, 11041), (8, 3, 1006, 11044), (10, 18, 47, 11082), (3, 3, 1006, 11085), (3, 11, 0, 11088), (0, 3, 1006, 11091), (0, 11, 9, 11094), (1, 3, 1006, 11097), (3, 23, 37, 11138), (2, 3, 1006, 11141), (3, 30, 67, 11159), (5, 3, 1006, 11162), (10, 35, 63, 11233), (4, 3, 1006, 11236), (4, 24, 47, 11239), (10, 42, 83, 12013), (7, 3, 1006, 12016), (10, 49, 74, 12054), (6, 3, 1006, 12057), (6, 23, 9, 12059), (10, 56, 115, 12079), (9, 3, 1006, 12082), (9, 11, 9, 12084), (10, 69, 48, 12098), (3, 63, 1, 12102), (0, 34, 10, 12106), (1, 22, 187, 12110), (3, 70, 69, 12113), (10, 73, 12, 12117), (10, 79, 50, 12120), (3, 87, 18, 12124), (12, 97, 125, 12162), (12, 148, 126, 12234), (10, 184, 175, 12238), (10, 187, 52, 13017), (12, 124, 136, 13021), (10, 194, 51, 13025), (10, 256, 33, 13029), (1, 101, 32, 13033), (1, 98, 16, 13037), (12, 127, 137, 13041), (10, 217, 177, 13045), (10, 259, 54, 13049), (3, 92, 35, 13053), (10, 262, 55, 13057), (3, 96, 36, 13061), (12, 185, 152, 13065), (10, 319, 73, 13069), (5, 28, 72, 13073), (12, 181, 153, 13077), (12, 198, 156, 13081), (10, 301, 180, 13085), (10, 322, 65, 13105), (4, 25, 49, 13109), (3, 73, 2, 13113), (0, 38, 11, 13117), (1, 28, 1000, 13121), (3, 77, 38, 13124), (2, 25, 1000, 13128), (3, 80, 68, 13129), (5, 22, 1000, 13133), (4, 29, 1003, 13134), (10, 328, 57, 13137), (12, 192, 157, 13141), (10, 331, 2, 13145), (12, 201, 158, 13146), (10, 339, 53, 13151), (12, 195, 165, 13155), (10, 371, 66, 13175), (12, 189, 173, 13179), (10, 100, 49, 13183), (12, 204, 174, 13184), (10, 103, 64, 13189), (12, 52, 182, 13193), (12, 8, 181, 13196), (12, 15, 1004, 13207), (12, 21, 1005, 13217), (12, 25, 120, 14015), (10, 82, 96, 14019), (10, 86, 97, 14023), (12, 31, 121, 14027), (12, 39, 122, 14031), (10, 93, 98, 14035), (8, 43, 111, 14039), (8, 178, 112, 14043), (8, 189, 113, 14047), (8, 192, 114, 14050), (8, 48, 105, 14054), (8, 74, 109, 14058), (8, 181, 1004, 14062), (8, 185, 1005, 14063), (8, 69, 110, 14064), (8, 52, 107, 14068), (8, 175, 108, 14072), (8, 56, 106, 14076), (8, 59, 48, 14080), (8, 65, 99, 14081), (8, 78, 104, 14086), (8, 82, 53, 14090), (8, 100, 100, 14095), (8, 111, 102, 14099), (8, 159, 103, 14103), (8, 132, 12, 14113), (8, 135, 17, 14114), (8, 138, 50, 14118), (8, 108, 101, 14121), (8, 145, 39, 14125), (8, 151, 40, 14129), (8, 155, 41, 14133), (13, 304, 1003, 14206), (13, 150, 1000, 14207), (12, 173, 183, 15147), (12, 101, 128, 15150), (10, 201, 179, 15154), (10, 191, 178, 15158), (10, 411, 15, 15162), (10, 205, 21, 15167), (1, 37, 17, 15171), (1, 41, 19, 15172), (1, 45, 13, 15175), (1, 48, 14, 15178), (1, 51, 15, 15181), (1, 54, 22, 15182), (1, 58, 1001, 15186), (1, 63, 1002, 15189), (1, 67, 188, 15190), (1, 72, 23, 15193), (12, 105, 130, 15197), (10, 209, 75, 15201), (6, 32, 17, 15205), (6, 36, 19, 15206), (6, 40, 76, 15207), (6, 44, 21, 15211), (10, 214, 176, 15212), (10, 221, 132, 15216), (10, 231, 77, 15220), (10, 234, 78, 15224), (10, 237, 16, 15228), (10, 240, 27, 15229), (1, 86, 20, 15233), (1, 76, 24, 15238), (10, 243, 79, 16002), (6, 48, 27, 16006), (6, 52, 11, 16007), (6, 56, 26, 16008), (1, 79, 25, 16012), (1, 82, 18, 16016), (6, 60, 28, 16017), (1, 89, 27, 16021), (1, 92, 21, 16022), (12, 109, 127, 16023), (10, 198, 17, 16027), (12, 113, 138, 16028), (10, 265, 116, 16032), (9, 29, 17, 16036), (9, 33, 11, 16037), (9, 37, 18, 16038), (9, 41, 187, 16039), (9, 47, 117, 16040), (9, 50, 118, 16044), (9, 54, 19, 16048), (9, 58, 13, 16049), (9, 61, 14, 16050), (9, 64, 15, 16051), (9, 67, 22, 16052), (12, 116, 129, 16053), (12, 120, 134, 16057), (10, 249, 30, 16061), (1, 95, 29, 16065), (12, 169, 184, 16069), (12, 177, 185, 16072), (12, 130, 131, 16075), (10, 225, 80, 16079), (6, 63, 79, 16083), (10, 228, 81, 16084), (6, 67, 82, 16088), (12, 133, 143, 16092), (10, 282, 147, 16096), (10, 297, 59, 16100), (3, 99, 51, 16104), (3, 124, 5, 16105), (3, 128, 86, 16109), (7, 38, 13, 16113), (7, 44, 14, 16114), (7, 47, 87, 16115), (3, 134, 88, 16118), (7, 51, 45, 16122), (2, 31, 44, 16126), (3, 141, 89, 16130), (7, 57, 15, 16134), (3, 145, 85, 16135), (3, 148, 90, 16139), (7, 61, 12, 16143), (3, 151, 91, 16144), (3, 154, 6, 16148), (0, 45, 5, 16152), (0, 49, 21, 16153), (3, 161, 7, 16154), (0, 53, 34, 16158), (1, 104, 33, 16162), (0, 57, 33, 16163), (3, 168, 45, 16164), (3, 174, 34, 16165), (10, 285, 84, 16166), (12, 136, 148, 16170), (10, 304, 60, 16174), (3, 184, 56, 16178), (3, 103, 21, 16182), (3, 188, 59, 16183), (3, 192, 58, 16184), (3, 107, 52, 16188), (3, 111, 1003, 16189), (3, 117, 53, 16190), (3, 120, 57, 16191), (3, 196, 61, 16192), (3, 207, 70, 16196), (3, 210, 71, 16200), (3, 213, 92, 16204), (7, 64, 94, 16208), (3, 216, 93, 16211), (3, 200, 8, 16215), (0, 60, 3, 16219), (0, 42, 26, 16223), (0, 63, 4, 16224), (3, 204, 62, 16228), (3, 219, 17, 16232), (3, 222, 3, 16233), (12, 139, 149, 16234), (10, 308, 56, 16238), (12, 142, 146, 16239), (12, 145, 145, 17003), (12, 151, 154, 17007), (12, 154, 151, 17011), (10, 318, 72, 17015), (12, 157, 150, 17016)]
/-- constants -/
def ev_kt : List (Nat × Nat × Value × Nat) := [(12, 7, .int 131071, 13199), (12, 14, .int 2147483647, 13200)]
/-- texts: class, place, text, address -/
def ev_sr : List (Nat × Nat × String × Nat × Nat) := [(8, 46, "game", 3, 14053), (8, 72, "clock", 4, 14085), (8, 85, "pause", 5, 14091), (8, 89, "wait", 6, 14092), (8, 94, "tries", 7, 14093), (8, 98, "white", 8, 14094), (8, 163, "king", 9, 14107), (8, 165, "queen", 10, 14108), (8, 167, "rook", 11, 14109), (8, 169, "bishop", 12, 14110), (8, 171, "knight", 13, 14111), (8, 173, "pawn", 14, 14112), (8, 104, "black", 15, 14119), (8, 106, "fog", 16, 14120), (8, 46, "game", 17, 14053), (8, 46, "game", 18, 14053), (8, 46, "game", 19, 14053)]
/-- classes by their places in pools -/
def ev_nt : List (Nat × Nat × Nat × Nat) := [(12, 26, 10, 11031), (10, 7, 8, 11039), (10, 16, 3, 11080), (3, 9, 0, 11086), (0, 9, 1, 11092), (3, 21, 2, 11136), (3, 28, 5, 11157), (10, 33, 4, 11231), (4, 9, 3, 11237), (10, 40, 7, 12011), (10, 47, 6, 12052), (6, 21, 1, 12058), (10, 54, 9, 12077), (9, 9, 1, 12083)]
/-- throws: class, place of the exception's class in the pool; which exception -/
def ev_X : List String := ["java/lang/IllegalArgumentException", "java/lang/IndexOutOfBoundsException", "java/lang/IllegalStateException", "java/util/NoSuchElementException"]
def ev_xt : List (Nat × Nat × Nat × Nat) := [(10, 177, 0, 12166), (10, 402, 1, 13001), (10, 334, 2, 13089), (10, 366, 3, 13159)]
def ev_th : List (Nat × Nat × Nat × Nat × Nat × Nat × Bool × String) := []
/-- the bytes of the texts -/
def ev_tb (k : Nat) : List Int32 := match k with
  | 0 => [103, 97, 109, 101]
  | 1 => [99, 108, 111, 99, 107]
  | 2 => [112, 97, 117, 115, 101]
  | 3 => [119, 97, 105, 116]
  | 4 => [116, 114, 105, 101, 115]
  | 5 => [119, 104, 105, 116, 101]
  | 6 => [107, 105, 110, 103]
  | 7 => [113, 117, 101, 101, 110]
  | 8 => [114, 111, 111, 107]
  | 9 => [98, 105, 115, 104, 111, 112]
  | 10 => [107, 110, 105, 103, 104, 116]
  | 11 => [112, 97, 119, 110]
  | 12 => [98, 108, 97, 99, 107]
  | 13 => [102, 111, 103]
  | 14 => [103, 97, 109, 101]
  | 15 => [103, 97, 109, 101]
  | 16 => [103, 97, 109, 101]
  | _ => []
def ev_pA : List Nat := [11112, 11079, 11112]
def ev_pO : Nat := 11238
def ev_pH : Nat := 11237
def ev_pV : List Nat := [15236, 15236]
def ev_S : Nat := 20
/-! the words stand where the tables say -/
def ev_ck (k : Nat) : List Cond := match k with
  | 1 => k2_sels lw_privs_1
  | 2 => k2_sels lw_privs_2
  | 11 => tables_1_1
  | 12 => tables_1_2
  | 13 => tables_1_3
  | 14 => tables_1_4
  | 15 => tables_1_5
  | 16 => tables_1_6
  | 17 => tables_1_7
  | _ => []
def ev_w (p : Nat) : Option Cond := (ev_ck (p / 1000))[p % 1000]?
theorem ev_mem {w : Cond} {p : Nat} (h : ev_w p = some w) : w ∈ lw_tbl := by
  have h1 : w ∈ ev_ck (p / 1000) := List.mem_of_getElem? h
  generalize p / 1000 = k at h1
  have hs : ∀ l : List (MethodName × Nat), (∀ q ∈ l, q ∈ lw_privs) → w ∈ k2_sels l → w ∈ lw_tbl := fun l hl hw => by
    obtain ⟨q, hq, rfl⟩ := List.mem_map.mp hw
    exact List.mem_append_left _ (List.mem_map.mpr ⟨q, hl q hq, rfl⟩)
  unfold ev_ck at h1
  split at h1
  all_goals first
    | exact hs _ (fun q hq => by simp only [lw_privs, List.mem_append]; simp [hq]) h1
    | exact absurd h1 List.not_mem_nil
    | (refine List.mem_append_right _ ?_
       simp only [tables_1, List.mem_append]
       simp [h1])
/-- a method's code, out of its word -/
def ev_cd (k : Nat) : ByteArray := if k = ev_lawM then code else match ev_w (ev_pw k).1 with
  | some (.code _ b _ _) => b
  | some (.codeWith _ b _ _ _) => b
  | _ => ⟨#[]⟩
def ev_okM (k : Nat) : Bool := match ev_w (ev_pw k).1 with
  | some (.code y _ m r) => decide (y = ev_y k ∧ m = ev_ml k ∧ r = ev_rt k ∧ ev_hh k = [])
  | some (.codeWith y _ m r h) => decide (y = ev_y k ∧ m = ev_ml k ∧ r = ev_rt k ∧ ev_hh k = h ∧ ¬ h = [])
  | _ => false
def ev_okI (k : Nat) : Bool :=
  match ev_kd k with
  | 0 => decide (ev_w (ev_pw k).2.1 = some (.static (ev_y k)))
  | 1 => decide (ev_w (ev_pw k).2.1 = some (.instanceMethod (ev_y k))) && decide (ev_w (ev_pw k).2.2 = some (.selects (ev_y k).cls (ev_y k) (ev_y k)))
  | _ => decide (ev_w (ev_pw k).2.1 = some (.instanceMethod (ev_y k)))
def ev_okN (k : Nat) : Bool := decide ((ev_y k).cls = ev_own (ev_ci k)) && decide ((ev_y k).cls ≠ "java/lang/invoke/MethodHandle") && decide ((ev_y k).cls ≠ "java/lang/invoke/VarHandle") && plainName (ev_y k).cls && decide (ev_kd k = 2 → (ev_y k).name = "<init>") && decide (Cond.initialized (ev_y k).cls ∈ tables_1_1.take 31)
def ev_C (c : Nat) : vw_C := ev_cl.getD c ("", ev_T0, 0)
set_option maxRecDepth 100000 in
theorem ev_okM_0 : ∀ r, r < 25 → (ev_okM (25 * 0 + r) || decide (25 * 0 + r = ev_lawM ∨ ev_nm ≤ 25 * 0 + r)) = true := by decide +kernel
set_option maxRecDepth 100000 in
theorem ev_okM_1 : ∀ r, r < 25 → (ev_okM (25 * 1 + r) || decide (25 * 1 + r = ev_lawM ∨ ev_nm ≤ 25 * 1 + r)) = true := by decide +kernel
set_option maxRecDepth 100000 in
theorem ev_okM_2 : ∀ r, r < 25 → (ev_okM (25 * 2 + r) || decide (25 * 2 + r = ev_lawM ∨ ev_nm ≤ 25 * 2 + r)) = true := by decide +kernel
set_option maxRecDepth 100000 in
theorem ev_okM_3 : ∀ r, r < 25 → (ev_okM (25 * 3 + r) || decide (25 * 3 + r = ev_lawM ∨ ev_nm ≤ 25 * 3 + r)) = true := by decide +kernel
set_option maxRecDepth 100000 in
theorem ev_okM_4 : ∀ r, r < 25 → (ev_okM (25 * 4 + r) || decide (25 * 4 + r = ev_lawM ∨ ev_nm ≤ 25 * 4 + r)) = true := by decide +kernel
set_option maxRecDepth 100000 in
theorem ev_okM_5 : ∀ r, r < 25 → (ev_okM (25 * 5 + r) || decide (25 * 5 + r = ev_lawM ∨ ev_nm ≤ 25 * 5 + r)) = true := by decide +kernel
set_option maxRecDepth 100000 in
theorem ev_okM_6 : ∀ r, r < 25 → (ev_okM (25 * 6 + r) || decide (25 * 6 + r = ev_lawM ∨ ev_nm ≤ 25 * 6 + r)) = true := by decide +kernel
set_option maxRecDepth 100000 in
theorem ev_okM_7 : ∀ r, r < 25 → (ev_okM (25 * 7 + r) || decide (25 * 7 + r = ev_lawM ∨ ev_nm ≤ 25 * 7 + r)) = true := by decide +kernel
theorem ev_okM_all {k : Nat} (h : k < ev_nm) (hl : k ≠ ev_lawM) : ev_okM k = true := by
  have e : 25 * (k / 25) + k % 25 = k := Nat.div_add_mod k 25
  have hr : k % 25 < 25 := Nat.mod_lt _ (by decide)
  have hg : k / 25 < 8 := by have : ev_nm = 189 := rfl; omega
  have key : (ev_okM k || decide (k = ev_lawM ∨ ev_nm ≤ k)) = true := by
    rw [← e]
    generalize k / 25 = g at hg
    generalize k % 25 = r at hr
    match g, hg with
    | 0, _ => exact ev_okM_0 r hr
    | 1, _ => exact ev_okM_1 r hr
    | 2, _ => exact ev_okM_2 r hr
    | 3, _ => exact ev_okM_3 r hr
    | 4, _ => exact ev_okM_4 r hr
    | 5, _ => exact ev_okM_5 r hr
    | 6, _ => exact ev_okM_6 r hr
    | 7, _ => exact ev_okM_7 r hr
  rw [Bool.or_eq_true] at key
  rcases key with q | q
  · exact q
  · rcases of_decide_eq_true q with q | q
    · exact absurd q hl
    · omega
set_option maxRecDepth 100000 in
theorem ev_okI_0 : ∀ r, r < 25 → (ev_okI (25 * 0 + r) || decide (25 * 0 + r = ev_lawM ∨ ev_nm ≤ 25 * 0 + r)) = true := by decide +kernel
set_option maxRecDepth 100000 in
theorem ev_okI_1 : ∀ r, r < 25 → (ev_okI (25 * 1 + r) || decide (25 * 1 + r = ev_lawM ∨ ev_nm ≤ 25 * 1 + r)) = true := by decide +kernel
set_option maxRecDepth 100000 in
theorem ev_okI_2 : ∀ r, r < 25 → (ev_okI (25 * 2 + r) || decide (25 * 2 + r = ev_lawM ∨ ev_nm ≤ 25 * 2 + r)) = true := by decide +kernel
set_option maxRecDepth 100000 in
theorem ev_okI_3 : ∀ r, r < 25 → (ev_okI (25 * 3 + r) || decide (25 * 3 + r = ev_lawM ∨ ev_nm ≤ 25 * 3 + r)) = true := by decide +kernel
set_option maxRecDepth 100000 in
theorem ev_okI_4 : ∀ r, r < 25 → (ev_okI (25 * 4 + r) || decide (25 * 4 + r = ev_lawM ∨ ev_nm ≤ 25 * 4 + r)) = true := by decide +kernel
set_option maxRecDepth 100000 in
theorem ev_okI_5 : ∀ r, r < 25 → (ev_okI (25 * 5 + r) || decide (25 * 5 + r = ev_lawM ∨ ev_nm ≤ 25 * 5 + r)) = true := by decide +kernel
set_option maxRecDepth 100000 in
theorem ev_okI_6 : ∀ r, r < 25 → (ev_okI (25 * 6 + r) || decide (25 * 6 + r = ev_lawM ∨ ev_nm ≤ 25 * 6 + r)) = true := by decide +kernel
set_option maxRecDepth 100000 in
theorem ev_okI_7 : ∀ r, r < 25 → (ev_okI (25 * 7 + r) || decide (25 * 7 + r = ev_lawM ∨ ev_nm ≤ 25 * 7 + r)) = true := by decide +kernel
theorem ev_okI_all {k : Nat} (h : k < ev_nm) (hl : k ≠ ev_lawM) : ev_okI k = true := by
  have e : 25 * (k / 25) + k % 25 = k := Nat.div_add_mod k 25
  have hr : k % 25 < 25 := Nat.mod_lt _ (by decide)
  have hg : k / 25 < 8 := by have : ev_nm = 189 := rfl; omega
  have key : (ev_okI k || decide (k = ev_lawM ∨ ev_nm ≤ k)) = true := by
    rw [← e]
    generalize k / 25 = g at hg
    generalize k % 25 = r at hr
    match g, hg with
    | 0, _ => exact ev_okI_0 r hr
    | 1, _ => exact ev_okI_1 r hr
    | 2, _ => exact ev_okI_2 r hr
    | 3, _ => exact ev_okI_3 r hr
    | 4, _ => exact ev_okI_4 r hr
    | 5, _ => exact ev_okI_5 r hr
    | 6, _ => exact ev_okI_6 r hr
    | 7, _ => exact ev_okI_7 r hr
  rw [Bool.or_eq_true] at key
  rcases key with q | q
  · exact q
  · rcases of_decide_eq_true q with q | q
    · exact absurd q hl
    · omega
set_option maxRecDepth 100000 in
theorem ev_okN_0 : ∀ r, r < 25 → (ev_okN (25 * 0 + r) || decide (25 * 0 + r = ev_lawM ∨ ev_nm ≤ 25 * 0 + r)) = true := by decide +kernel
set_option maxRecDepth 100000 in
theorem ev_okN_1 : ∀ r, r < 25 → (ev_okN (25 * 1 + r) || decide (25 * 1 + r = ev_lawM ∨ ev_nm ≤ 25 * 1 + r)) = true := by decide +kernel
set_option maxRecDepth 100000 in
theorem ev_okN_2 : ∀ r, r < 25 → (ev_okN (25 * 2 + r) || decide (25 * 2 + r = ev_lawM ∨ ev_nm ≤ 25 * 2 + r)) = true := by decide +kernel
set_option maxRecDepth 100000 in
theorem ev_okN_3 : ∀ r, r < 25 → (ev_okN (25 * 3 + r) || decide (25 * 3 + r = ev_lawM ∨ ev_nm ≤ 25 * 3 + r)) = true := by decide +kernel
set_option maxRecDepth 100000 in
theorem ev_okN_4 : ∀ r, r < 25 → (ev_okN (25 * 4 + r) || decide (25 * 4 + r = ev_lawM ∨ ev_nm ≤ 25 * 4 + r)) = true := by decide +kernel
set_option maxRecDepth 100000 in
theorem ev_okN_5 : ∀ r, r < 25 → (ev_okN (25 * 5 + r) || decide (25 * 5 + r = ev_lawM ∨ ev_nm ≤ 25 * 5 + r)) = true := by decide +kernel
set_option maxRecDepth 100000 in
theorem ev_okN_6 : ∀ r, r < 25 → (ev_okN (25 * 6 + r) || decide (25 * 6 + r = ev_lawM ∨ ev_nm ≤ 25 * 6 + r)) = true := by decide +kernel
set_option maxRecDepth 100000 in
theorem ev_okN_7 : ∀ r, r < 25 → (ev_okN (25 * 7 + r) || decide (25 * 7 + r = ev_lawM ∨ ev_nm ≤ 25 * 7 + r)) = true := by decide +kernel
theorem ev_okN_all {k : Nat} (h : k < ev_nm) (hl : k ≠ ev_lawM) : ev_okN k = true := by
  have e : 25 * (k / 25) + k % 25 = k := Nat.div_add_mod k 25
  have hr : k % 25 < 25 := Nat.mod_lt _ (by decide)
  have hg : k / 25 < 8 := by have : ev_nm = 189 := rfl; omega
  have key : (ev_okN k || decide (k = ev_lawM ∨ ev_nm ≤ k)) = true := by
    rw [← e]
    generalize k / 25 = g at hg
    generalize k % 25 = r at hr
    match g, hg with
    | 0, _ => exact ev_okN_0 r hr
    | 1, _ => exact ev_okN_1 r hr
    | 2, _ => exact ev_okN_2 r hr
    | 3, _ => exact ev_okN_3 r hr
    | 4, _ => exact ev_okN_4 r hr
    | 5, _ => exact ev_okN_5 r hr
    | 6, _ => exact ev_okN_6 r hr
    | 7, _ => exact ev_okN_7 r hr
  rw [Bool.or_eq_true] at key
  rcases key with q | q
  · exact q
  · rcases of_decide_eq_true q with q | q
    · exact absurd q hl
    · omega
set_option maxRecDepth 100000 in
theorem ev_ft_ok0 : ∀ e ∈ (ev_ft.drop 0).take 30, ev_w e.2.2.2.2.2 = some (.fieldLink (ev_own e.1) e.2.1 ((ev_C e.2.2.1).2.1 e.2.2.2.1).1 ((ev_C e.2.2.1).2.1 e.2.2.2.1).2.1 ((ev_C e.2.2.1).2.1 e.2.2.2.1).2.2.1) ∧ e.2.2.1 < 12 ∧ e.2.2.2.1 < (ev_C e.2.2.1).2.2 := by decide +kernel
set_option maxRecDepth 100000 in
theorem ev_ft_ok1 : ∀ e ∈ (ev_ft.drop 30).take 30, ev_w e.2.2.2.2.2 = some (.fieldLink (ev_own e.1) e.2.1 ((ev_C e.2.2.1).2.1 e.2.2.2.1).1 ((ev_C e.2.2.1).2.1 e.2.2.2.1).2.1 ((ev_C e.2.2.1).2.1 e.2.2.2.1).2.2.1) ∧ e.2.2.1 < 12 ∧ e.2.2.2.1 < (ev_C e.2.2.1).2.2 := by decide +kernel
set_option maxRecDepth 100000 in
theorem ev_ft_ok2 : ∀ e ∈ (ev_ft.drop 60).take 30, ev_w e.2.2.2.2.2 = some (.fieldLink (ev_own e.1) e.2.1 ((ev_C e.2.2.1).2.1 e.2.2.2.1).1 ((ev_C e.2.2.1).2.1 e.2.2.2.1).2.1 ((ev_C e.2.2.1).2.1 e.2.2.2.1).2.2.1) ∧ e.2.2.1 < 12 ∧ e.2.2.2.1 < (ev_C e.2.2.1).2.2 := by decide +kernel
set_option maxRecDepth 100000 in
theorem ev_ft_ok3 : ∀ e ∈ (ev_ft.drop 90).take 30, ev_w e.2.2.2.2.2 = some (.fieldLink (ev_own e.1) e.2.1 ((ev_C e.2.2.1).2.1 e.2.2.2.1).1 ((ev_C e.2.2.1).2.1 e.2.2.2.1).2.1 ((ev_C e.2.2.1).2.1 e.2.2.2.1).2.2.1) ∧ e.2.2.1 < 12 ∧ e.2.2.2.1 < (ev_C e.2.2.1).2.2 := by decide +kernel
theorem ev_ft_ok : ∀ e ∈ ev_ft, ev_w e.2.2.2.2.2 = some (.fieldLink (ev_own e.1) e.2.1 ((ev_C e.2.2.1).2.1 e.2.2.2.1).1 ((ev_C e.2.2.1).2.1 e.2.2.2.1).2.1 ((ev_C e.2.2.1).2.1 e.2.2.2.1).2.2.1) ∧ e.2.2.1 < 12 ∧ e.2.2.2.1 < (ev_C e.2.2.1).2.2 := by
  intro e he
  obtain ⟨i, hi⟩ := List.getElem?_of_mem he
  by_cases h0 : i < 30
  · refine ev_ft_ok0 e (List.mem_of_getElem? (i := i - 0) ?_)
    rw [List.getElem?_take_of_lt (by omega), List.getElem?_drop, show 0 + (i - 0) = i by omega]; exact hi
  by_cases h1 : i < 60
  · refine ev_ft_ok1 e (List.mem_of_getElem? (i := i - 30) ?_)
    rw [List.getElem?_take_of_lt (by omega), List.getElem?_drop, show 30 + (i - 30) = i by omega]; exact hi
  by_cases h2 : i < 90
  · refine ev_ft_ok2 e (List.mem_of_getElem? (i := i - 60) ?_)
    rw [List.getElem?_take_of_lt (by omega), List.getElem?_drop, show 60 + (i - 60) = i by omega]; exact hi
  by_cases h3 : i < 120
  · refine ev_ft_ok3 e (List.mem_of_getElem? (i := i - 90) ?_)
    rw [List.getElem?_take_of_lt (by omega), List.getElem?_drop, show 90 + (i - 90) = i by omega]; exact hi
  have hl := (List.getElem?_eq_some_iff.mp hi).1
  have h9 : ev_ft.length = 113 := by decide +kernel
  omega
set_option maxRecDepth 100000 in
theorem ev_ct_ok0 : ∀ e ∈ (ev_ct.drop 0).take 30, (1000 ≤ e.2.2.1 ∨ (e.2.2.1 < ev_nm ∧ ev_w e.2.2.2 = some (.methodLink (ev_own e.1) e.2.1 (ev_y e.2.2.1)))) := by decide +kernel
set_option maxRecDepth 100000 in
theorem ev_ct_ok1 : ∀ e ∈ (ev_ct.drop 30).take 30, (1000 ≤ e.2.2.1 ∨ (e.2.2.1 < ev_nm ∧ ev_w e.2.2.2 = some (.methodLink (ev_own e.1) e.2.1 (ev_y e.2.2.1)))) := by decide +kernel
set_option maxRecDepth 100000 in
theorem ev_ct_ok2 : ∀ e ∈ (ev_ct.drop 60).take 30, (1000 ≤ e.2.2.1 ∨ (e.2.2.1 < ev_nm ∧ ev_w e.2.2.2 = some (.methodLink (ev_own e.1) e.2.1 (ev_y e.2.2.1)))) := by decide +kernel
set_option maxRecDepth 100000 in
theorem ev_ct_ok3 : ∀ e ∈ (ev_ct.drop 90).take 30, (1000 ≤ e.2.2.1 ∨ (e.2.2.1 < ev_nm ∧ ev_w e.2.2.2 = some (.methodLink (ev_own e.1) e.2.1 (ev_y e.2.2.1)))) := by decide +kernel
set_option maxRecDepth 100000 in
theorem ev_ct_ok4 : ∀ e ∈ (ev_ct.drop 120).take 30, (1000 ≤ e.2.2.1 ∨ (e.2.2.1 < ev_nm ∧ ev_w e.2.2.2 = some (.methodLink (ev_own e.1) e.2.1 (ev_y e.2.2.1)))) := by decide +kernel
set_option maxRecDepth 100000 in
theorem ev_ct_ok5 : ∀ e ∈ (ev_ct.drop 150).take 30, (1000 ≤ e.2.2.1 ∨ (e.2.2.1 < ev_nm ∧ ev_w e.2.2.2 = some (.methodLink (ev_own e.1) e.2.1 (ev_y e.2.2.1)))) := by decide +kernel
set_option maxRecDepth 100000 in
theorem ev_ct_ok6 : ∀ e ∈ (ev_ct.drop 180).take 30, (1000 ≤ e.2.2.1 ∨ (e.2.2.1 < ev_nm ∧ ev_w e.2.2.2 = some (.methodLink (ev_own e.1) e.2.1 (ev_y e.2.2.1)))) := by decide +kernel
set_option maxRecDepth 100000 in
theorem ev_ct_ok7 : ∀ e ∈ (ev_ct.drop 210).take 30, (1000 ≤ e.2.2.1 ∨ (e.2.2.1 < ev_nm ∧ ev_w e.2.2.2 = some (.methodLink (ev_own e.1) e.2.1 (ev_y e.2.2.1)))) := by decide +kernel
theorem ev_ct_ok : ∀ e ∈ ev_ct, (1000 ≤ e.2.2.1 ∨ (e.2.2.1 < ev_nm ∧ ev_w e.2.2.2 = some (.methodLink (ev_own e.1) e.2.1 (ev_y e.2.2.1)))) := by
  intro e he
  obtain ⟨i, hi⟩ := List.getElem?_of_mem he
  by_cases h0 : i < 30
  · refine ev_ct_ok0 e (List.mem_of_getElem? (i := i - 0) ?_)
    rw [List.getElem?_take_of_lt (by omega), List.getElem?_drop, show 0 + (i - 0) = i by omega]; exact hi
  by_cases h1 : i < 60
  · refine ev_ct_ok1 e (List.mem_of_getElem? (i := i - 30) ?_)
    rw [List.getElem?_take_of_lt (by omega), List.getElem?_drop, show 30 + (i - 30) = i by omega]; exact hi
  by_cases h2 : i < 90
  · refine ev_ct_ok2 e (List.mem_of_getElem? (i := i - 60) ?_)
    rw [List.getElem?_take_of_lt (by omega), List.getElem?_drop, show 60 + (i - 60) = i by omega]; exact hi
  by_cases h3 : i < 120
  · refine ev_ct_ok3 e (List.mem_of_getElem? (i := i - 90) ?_)
    rw [List.getElem?_take_of_lt (by omega), List.getElem?_drop, show 90 + (i - 90) = i by omega]; exact hi
  by_cases h4 : i < 150
  · refine ev_ct_ok4 e (List.mem_of_getElem? (i := i - 120) ?_)
    rw [List.getElem?_take_of_lt (by omega), List.getElem?_drop, show 120 + (i - 120) = i by omega]; exact hi
  by_cases h5 : i < 180
  · refine ev_ct_ok5 e (List.mem_of_getElem? (i := i - 150) ?_)
    rw [List.getElem?_take_of_lt (by omega), List.getElem?_drop, show 150 + (i - 150) = i by omega]; exact hi
  by_cases h6 : i < 210
  · refine ev_ct_ok6 e (List.mem_of_getElem? (i := i - 180) ?_)
    rw [List.getElem?_take_of_lt (by omega), List.getElem?_drop, show 180 + (i - 180) = i by omega]; exact hi
  by_cases h7 : i < 240
  · refine ev_ct_ok7 e (List.mem_of_getElem? (i := i - 210) ?_)
    rw [List.getElem?_take_of_lt (by omega), List.getElem?_drop, show 210 + (i - 210) = i by omega]; exact hi
  have hl := (List.getElem?_eq_some_iff.mp hi).1
  have h9 : ev_ct.length = 237 := by decide +kernel
  omega
set_option maxRecDepth 100000 in
theorem ev_nt_ok0 : ∀ e ∈ (ev_nt.drop 0).take 30, ev_w e.2.2.2 = some (.classLink (ev_own e.1) e.2.1 (ev_own e.2.2.1)) ∧ e.2.2.1 < 12 := by decide +kernel
theorem ev_nt_ok : ∀ e ∈ ev_nt, ev_w e.2.2.2 = some (.classLink (ev_own e.1) e.2.1 (ev_own e.2.2.1)) ∧ e.2.2.1 < 12 := by
  intro e he
  obtain ⟨i, hi⟩ := List.getElem?_of_mem he
  by_cases h0 : i < 30
  · refine ev_nt_ok0 e (List.mem_of_getElem? (i := i - 0) ?_)
    rw [List.getElem?_take_of_lt (by omega), List.getElem?_drop, show 0 + (i - 0) = i by omega]; exact hi
  have hl := (List.getElem?_eq_some_iff.mp hi).1
  have h9 : ev_nt.length = 14 := by decide +kernel
  omega
set_option maxRecDepth 100000 in
theorem ev_xt_ok0 : ∀ e ∈ (ev_xt.drop 0).take 30, ev_w e.2.2.2 = some (.classLink (ev_own e.1) e.2.1 (ev_X.getD e.2.2.1 "")) := by decide +kernel
theorem ev_xt_ok : ∀ e ∈ ev_xt, ev_w e.2.2.2 = some (.classLink (ev_own e.1) e.2.1 (ev_X.getD e.2.2.1 "")) := by
  intro e he
  obtain ⟨i, hi⟩ := List.getElem?_of_mem he
  by_cases h0 : i < 30
  · refine ev_xt_ok0 e (List.mem_of_getElem? (i := i - 0) ?_)
    rw [List.getElem?_take_of_lt (by omega), List.getElem?_drop, show 0 + (i - 0) = i by omega]; exact hi
  have hl := (List.getElem?_eq_some_iff.mp hi).1
  have h9 : ev_xt.length = 4 := by decide +kernel
  omega
set_option maxRecDepth 100000 in
theorem ev_sr_ok0 : ∀ e ∈ (ev_sr.drop 0).take 30, ev_w e.2.2.2.2 = some (.stringRef (ev_own e.1) e.2.1 e.2.2.1) := by decide +kernel
theorem ev_sr_ok : ∀ e ∈ ev_sr, ev_w e.2.2.2.2 = some (.stringRef (ev_own e.1) e.2.1 e.2.2.1) := by
  intro e he
  obtain ⟨i, hi⟩ := List.getElem?_of_mem he
  by_cases h0 : i < 30
  · refine ev_sr_ok0 e (List.mem_of_getElem? (i := i - 0) ?_)
    rw [List.getElem?_take_of_lt (by omega), List.getElem?_drop, show 0 + (i - 0) = i by omega]; exact hi
  have hl := (List.getElem?_eq_some_iff.mp hi).1
  have h9 : ev_sr.length = 17 := by decide +kernel
  omega
theorem ev_pA_ok : ev_w (ev_pA.getD 0 0) = some (.arrayClass .int) ∧ ev_w (ev_pA.getD 1 0) = some (.arrayClass .byte) ∧ ev_w (ev_pA.getD 2 0) = some (.arrayClass .int) := by decide +kernel
theorem ev_pO_ok : ev_w ev_pO = some (.arrayOver (.object "LanternChess$Game")) ∧ ev_w ev_pH = some (.classLink (ev_own 4) 9 "LanternChess$Game") := by decide +kernel
theorem ev_pV_ok : ev_w (ev_pV.getD 0 0) = some (.fieldLink (ev_own 1) 34 "LanternChess$Field" "VALUES" "[I") ∧ ev_w (ev_pV.getD 1 0) = some (.fieldLink (ev_own 1) 34 "LanternChess$Field" "VALUES" "[I") := by decide +kernel
theorem ev_fty : ∀ e ∈ ev_ft, (e.2.2.2.2.1 = 0 → ev_ty e.2.2.1 e.2.2.2.1 = .int) ∧ (e.2.2.2.2.1 = 1 → ev_ty e.2.2.1 e.2.2.2.1 = .boolean) ∧ (e.2.2.2.2.1 = 2 → refKind (ev_ty e.2.2.1 e.2.2.2.1) = true) := by decide +kernel
def ev_okK (e : Nat × Nat × Value × Nat) : Bool := match e.2.2.1 with
  | .int v => decide (ev_w e.2.2.2 = some (.constant (ev_own e.1) e.2.1 v))
  | .long v => decide (ev_w e.2.2.2 = some (.constantLong (ev_own e.1) e.2.1 v))
  | _ => false
set_option maxRecDepth 100000 in
theorem ev_kt_ok : ∀ e ∈ ev_kt, ev_okK e = true := by decide +kernel
theorem ev_tyok : ∀ c, c < 12 → ∀ k, k < (ev_C c).2.2 → parseFieldDescriptor ((ev_C c).2.1 k).2.2.1 = some (ev_ty c k) := by decide +kernel
theorem ev_nmok : ∀ c, c < 12 → ∀ a, a < (ev_C c).2.2 → ∀ b, b < (ev_C c).2.2 → a ≠ b → ((ev_C c).2.1 a).2.1 ≠ ((ev_C c).2.1 b).2.1 := by decide +kernel
theorem ev_newok : ∀ c, c < 12 → ∀ k, k < (ev_C c).2.2 → defaultValue (ev_ty c k) = vp_V (ev_new c) k := by decide +kernel
def ev_lp (c : Nat) : List Nat := match c with
  | 0 => [11123, 11125, 11127, 11129, 11131, 11133]
  | 1 => [11105, 11107, 11109]
  | 2 => [11148, 11150, 11152, 11154]
  | 3 => [11204, 11206, 11208, 11210, 11212, 11214, 11216, 11218, 11220, 11222, 11224, 11226, 11228]
  | 4 => [12004, 12006, 12008]
  | 5 => [11168, 11170, 11172]
  | 6 => [12066, 12068, 12070, 12072, 12074]
  | 7 => [12035, 12037, 12039, 12041, 12043, 12045, 12047, 12049]
  | 8 => [11058, 11060, 11062, 11064, 11066, 11068, 11070, 11072, 11074, 11076]
  | 9 => [12089, 12091, 12093, 12095]
  | 10 => [12139, 12141, 12143, 12145, 12147, 12149, 12151, 12153, 12155, 12157, 12159]
  | _ => [11168, 11170, 11172]
def ev_ip (c : Nat) : Nat := match c with
  | 0 => 11087
  | 1 => 11093
  | 2 => 11137
  | 3 => 11081
  | 4 => 11232
  | 5 => 11158
  | 6 => 12053
  | 7 => 12012
  | 8 => 11040
  | 9 => 12078
  | 10 => 11032
  | _ => 11158
set_option maxRecDepth 100000 in
theorem ev_lay0 : (ev_lp 0).map ev_w = (u_ws (ev_C 0).1 (ev_C 0).2.1 (ev_C 0).2.2).map some ∧ ev_w (ev_ip 0) = some (.instantiable (ev_C 0).1 (ev_C 0).2.2) ∧ (ev_C 0).1 = ev_own 0 ∧ Cond.initialized (ev_C 0).1 ∈ tables_1_1.take 31 := by decide +kernel
set_option maxRecDepth 100000 in
theorem ev_lay1 : (ev_lp 1).map ev_w = (u_ws (ev_C 1).1 (ev_C 1).2.1 (ev_C 1).2.2).map some ∧ ev_w (ev_ip 1) = some (.instantiable (ev_C 1).1 (ev_C 1).2.2) ∧ (ev_C 1).1 = ev_own 1 ∧ Cond.initialized (ev_C 1).1 ∈ tables_1_1.take 31 := by decide +kernel
set_option maxRecDepth 100000 in
theorem ev_lay2 : (ev_lp 2).map ev_w = (u_ws (ev_C 2).1 (ev_C 2).2.1 (ev_C 2).2.2).map some ∧ ev_w (ev_ip 2) = some (.instantiable (ev_C 2).1 (ev_C 2).2.2) ∧ (ev_C 2).1 = ev_own 2 ∧ Cond.initialized (ev_C 2).1 ∈ tables_1_1.take 31 := by decide +kernel
set_option maxRecDepth 100000 in
theorem ev_lay3 : (ev_lp 3).map ev_w = (u_ws (ev_C 3).1 (ev_C 3).2.1 (ev_C 3).2.2).map some ∧ ev_w (ev_ip 3) = some (.instantiable (ev_C 3).1 (ev_C 3).2.2) ∧ (ev_C 3).1 = ev_own 3 ∧ Cond.initialized (ev_C 3).1 ∈ tables_1_1.take 31 := by decide +kernel
set_option maxRecDepth 100000 in
theorem ev_lay4 : (ev_lp 4).map ev_w = (u_ws (ev_C 4).1 (ev_C 4).2.1 (ev_C 4).2.2).map some ∧ ev_w (ev_ip 4) = some (.instantiable (ev_C 4).1 (ev_C 4).2.2) ∧ (ev_C 4).1 = ev_own 4 ∧ Cond.initialized (ev_C 4).1 ∈ tables_1_1.take 31 := by decide +kernel
set_option maxRecDepth 100000 in
theorem ev_lay5 : (ev_lp 5).map ev_w = (u_ws (ev_C 5).1 (ev_C 5).2.1 (ev_C 5).2.2).map some ∧ ev_w (ev_ip 5) = some (.instantiable (ev_C 5).1 (ev_C 5).2.2) ∧ (ev_C 5).1 = ev_own 5 ∧ Cond.initialized (ev_C 5).1 ∈ tables_1_1.take 31 := by decide +kernel
set_option maxRecDepth 100000 in
theorem ev_lay6 : (ev_lp 6).map ev_w = (u_ws (ev_C 6).1 (ev_C 6).2.1 (ev_C 6).2.2).map some ∧ ev_w (ev_ip 6) = some (.instantiable (ev_C 6).1 (ev_C 6).2.2) ∧ (ev_C 6).1 = ev_own 6 ∧ Cond.initialized (ev_C 6).1 ∈ tables_1_1.take 31 := by decide +kernel
set_option maxRecDepth 100000 in
theorem ev_lay7 : (ev_lp 7).map ev_w = (u_ws (ev_C 7).1 (ev_C 7).2.1 (ev_C 7).2.2).map some ∧ ev_w (ev_ip 7) = some (.instantiable (ev_C 7).1 (ev_C 7).2.2) ∧ (ev_C 7).1 = ev_own 7 ∧ Cond.initialized (ev_C 7).1 ∈ tables_1_1.take 31 := by decide +kernel
set_option maxRecDepth 100000 in
theorem ev_lay8 : (ev_lp 8).map ev_w = (u_ws (ev_C 8).1 (ev_C 8).2.1 (ev_C 8).2.2).map some ∧ ev_w (ev_ip 8) = some (.instantiable (ev_C 8).1 (ev_C 8).2.2) ∧ (ev_C 8).1 = ev_own 8 ∧ Cond.initialized (ev_C 8).1 ∈ tables_1_1.take 31 := by decide +kernel
set_option maxRecDepth 100000 in
theorem ev_lay9 : (ev_lp 9).map ev_w = (u_ws (ev_C 9).1 (ev_C 9).2.1 (ev_C 9).2.2).map some ∧ ev_w (ev_ip 9) = some (.instantiable (ev_C 9).1 (ev_C 9).2.2) ∧ (ev_C 9).1 = ev_own 9 ∧ Cond.initialized (ev_C 9).1 ∈ tables_1_1.take 31 := by decide +kernel
set_option maxRecDepth 100000 in
theorem ev_lay10 : (ev_lp 10).map ev_w = (u_ws (ev_C 10).1 (ev_C 10).2.1 (ev_C 10).2.2).map some ∧ ev_w (ev_ip 10) = some (.instantiable (ev_C 10).1 (ev_C 10).2.2) ∧ (ev_C 10).1 = ev_own 10 ∧ Cond.initialized (ev_C 10).1 ∈ tables_1_1.take 31 := by decide +kernel
set_option maxRecDepth 100000 in
theorem ev_lay11 : (ev_lp 11).map ev_w = (u_ws (ev_C 11).1 (ev_C 11).2.1 (ev_C 11).2.2).map some ∧ ev_w (ev_ip 11) = some (.instantiable (ev_C 11).1 (ev_C 11).2.2) ∧ (ev_C 11).1 = ev_own 11 ∧ Cond.initialized (ev_C 11).1 ∈ tables_1_1.take 31 := by decide +kernel
theorem ev_lay : ∀ c, c < 12 → (ev_lp c).map ev_w = (u_ws (ev_C c).1 (ev_C c).2.1 (ev_C c).2.2).map some ∧ ev_w (ev_ip c) = some (.instantiable (ev_C c).1 (ev_C c).2.2) ∧ (ev_C c).1 = ev_own c ∧ Cond.initialized (ev_C c).1 ∈ tables_1_1.take 31 := by
  intro c h
  match c, h with
  | 0, _ => exact ev_lay0
  | 1, _ => exact ev_lay1
  | 2, _ => exact ev_lay2
  | 3, _ => exact ev_lay3
  | 4, _ => exact ev_lay4
  | 5, _ => exact ev_lay5
  | 6, _ => exact ev_lay6
  | 7, _ => exact ev_lay7
  | 8, _ => exact ev_lay8
  | 9, _ => exact ev_lay9
  | 10, _ => exact ev_lay10
  | 11, _ => exact ev_lay11
theorem ev_wsin {c : Nat} (h : c < 12) : ∀ w ∈ u_ws (ev_C c).1 (ev_C c).2.1 (ev_C c).2.2, w ∈ lw_tbl := by
  intro w hw
  have h1 := (ev_lay c h).1
  have h2 : some w ∈ (ev_lp c).map ev_w := by rw [h1]; exact List.mem_map.mpr ⟨w, hw, rfl⟩
  obtain ⟨p, -, hp⟩ := List.mem_map.mp h2
  exact ev_mem hp
theorem ev_init {w : Cond} (h : w ∈ tables_1_1.take 31) : w ∈ lw_tbl := List.mem_append_right _ (List.mem_append_left _ (List.mem_of_mem_take h))
end
section
/-! A pure evaluator of the bytecode: addresses are numbers in the order of making (below ev_S: what is there from the start and never written), memory is a function. Its soundness over the machine is part 04. -/
abbrev ev_E : Type := (Nat × List Value) ⊕ ((Nat × Nat × (Nat → Int32)) ⊕ ((Nat × (Nat → Int64)) ⊕ (Nat × (Nat → Option Nat))))
abbrev ev_H : Type := Nat × (Nat → Option ev_E)
abbrev ev_L : Type := List (Option Value)
/-- what a step comes to: the next place (with the cells and slots that it makes); an answer; a call; a throw -/
abbrev ev_A : Type := (Nat × Nat × Nat × ev_L × List Value × ev_H) ⊕ (Option Value ⊕ ((Nat × List Value × List Value) ⊕ Nat))
abbrev ev_O (k : List Value) : ev_E := .inl (0, k)
/-- an object's cell, an array of ints (0: int, 1: byte), of longs, of references -/
abbrev ev_ob (c : Nat) (fs : List Value) : ev_E := .inl (c, fs)
abbrev ev_ia (t n : Nat) (f : Nat → Int32) : ev_E := .inr (.inl (t, n, f))
abbrev ev_la (n : Nat) (f : Nat → Int64) : ev_E := .inr (.inr (.inl (n, f)))
abbrev ev_ra (n : Nat) (f : Nat → Option Nat) : ev_E := .inr (.inr (.inr (n, f)))
def ev_up (f : Nat → Option ev_E) (a : Nat) (e : ev_E) : Nat → Option ev_E := fun j => if j = a then some e else f j
/-- an int array that can be read at i -/
def ev_in (i : Int32) (n : Nat) : Bool := decide (¬ (i < 0 ∨ n ≤ i.toNatClampNeg))
def ev_f (M pc : Nat) : Option (Instr × Nat) := match decode (ev_cd M) pc with
  | .ok r => some r
  | .error _ => none
def ev_kl (x : Option Value) : Option Value := match x with
  | some v => if v.category = 2 then none else some v
  | none => none
/-- a value of one slot is stored -/
def ev_s1 : ev_L → Nat → Value → ev_L
  | [], _, _ => []
  | _ :: l, 0, v => some v :: l
  | x :: l, i + 1, v => (if i = 0 then ev_kl x else x) :: ev_s1 l i v
def ev_un : ev_L → Nat → ev_L
  | [], _ => []
  | _ :: l, 0 => none :: l
  | x :: l, i + 1 => (if i = 0 then ev_kl x else x) :: ev_un l i
/-- a value of two slots is stored -/
def ev_s2 : ev_L → Nat → Value → ev_L
  | [], _, _ => []
  | _ :: [], 0, v => [some v]
  | _ :: _ :: l, 0, v => some v :: none :: l
  | x :: l, i + 1, v => (if i = 0 then ev_kl x else x) :: ev_s2 l i v
/-- a method's locals at its entry -/
def ev_ar : List Value → ev_L
  | [] => []
  | v :: r => if v.category = 2 then some v :: none :: ev_ar r else some v :: ev_ar r
def ev_en (M : Nat) (av : List Value) : ev_L := ev_ar av ++ List.replicate (ev_ml M - (ev_ar av).length) none
def ev_tg (pc : Nat) (off : Int) : Option Nat := if 0 ≤ (pc : Int) + off then some ((pc : Int) + off).toNat else none
/-- what needs the stack alone -/
def ev_pu (i : Instr) (n : Nat) (st : List Value) : Option (List Value) :=
  match i, n, st with
  | .iconst k, 1, st => some (.int (Int32.ofInt k) :: st)
  | .bipush k, 2, st => some (.int (Int8.ofInt k).toInt32 :: st)
  | .sipush k, 3, st => some (.int (Int16.ofInt k).toInt32 :: st)
  | .lconst k, 1, st => some (.long (Int64.ofNat (k : Nat)) :: st)
  | .fconst 0, 1, st => some (.float FP.fconst0 :: st)
  | .dconst 0, 1, st => some (.double FP.dconst0 :: st)
  | .fconst 1, 1, st => some (.float FP.fconst1 :: st)
  | .dconst 1, 1, st => some (.double FP.dconst1 :: st)
  | .iadd, 1, .int y :: .int x :: st => some (.int (x + y) :: st)
  | .isub, 1, .int y :: .int x :: st => some (.int (x - y) :: st)
  | .imul, 1, .int y :: .int x :: st => some (.int (x * y) :: st)
  | .idiv, 1, .int y :: .int x :: st => if y = 0 then none else some (.int (x / y) :: st)
  | .irem, 1, .int y :: .int x :: st => if y = 0 then none else some (.int (x - x / y * y) :: st)
  | .ineg, 1, .int x :: st => some (.int (-x) :: st)
  | .iand, 1, .int y :: .int x :: st => some (.int (x &&& y) :: st)
  | .ior, 1, .int y :: .int x :: st => some (.int (x ||| y) :: st)
  | .ishl, 1, .int y :: .int x :: st => some (.int (x <<< (y &&& 31)) :: st)
  | .ishr, 1, .int y :: .int x :: st => some (.int (x >>> (y &&& 31)) :: st)
  | .iushr, 1, .int y :: .int x :: st => some (.int (x.toUInt32 >>> (y.toUInt32 &&& Int32.toUInt32 31)).toInt32 :: st)
  | .i2l, 1, .int x :: st => some (.long x.toInt64 :: st)
  | .i2b, 1, .int x :: st => some (.int x.toInt8.toInt32 :: st)
  | .i2c, 1, .int x :: st => some (.int (x.toUInt32 % 65536).toInt32 :: st)
  | .i2f, 1, .int x :: st => some (.float (FP.i2f x) :: st)
  | .i2d, 1, .int x :: st => some (.double (FP.i2d x) :: st)
  | .f2d, 1, .float x :: st => if (FP.f2d x) &&& 0x7fffffffffffffff ≤ 0x7ff0000000000000 then some (.double (FP.f2d x) :: st) else none
  | .fdiv, 1, .float y :: .float x :: st => if (FP.fdiv x y) &&& 0x7fffffff ≤ 0x7f800000 then some (.float (FP.fdiv x y) :: st) else none
  | .ddiv, 1, .double y :: .double x :: st => if (FP.ddiv x y) &&& 0x7fffffffffffffff ≤ 0x7ff0000000000000 then some (.double (FP.ddiv x y) :: st) else none
  | .dcmp op, 1, .double y :: .double x :: st => some (.int (Op.cmpValue (FP.dcmp x y) op) :: st)
  | .lcmp, 1, .long y :: .long x :: st => some (.int (lg_cmp x y) :: st)
  | .fcmp op, 1, .float y :: .float x :: st => some (.int (Op.cmpValue (FP.fcmp x y) op) :: st)
  | .dup2, 1, v :: w :: st => if v.category = 1 ∧ w.category = 1 then some (v :: w :: v :: w :: st) else none
  | .dup, 1, v :: st => if v.category = 1 then some (v :: v :: st) else none
  | .pop, 1, v :: st => if v.category = 1 then some st else none
  | _, _, _ => none
def ev_c1 (c : ClassFile.Cond) (x : Int32) : Bool := match c with
  | .eq => decide (x = 0)
  | .ne => decide (¬ x = 0)
  | .lt => decide (x < 0)
  | .ge => decide (0 ≤ x)
  | .gt => decide (0 < x)
  | .le => decide (x ≤ 0)
def ev_c2 (c : ClassFile.Cond) (x y : Int32) : Bool := match c with
  | .eq => decide (x = y)
  | .ne => decide (¬ x = y)
  | .lt => decide (x < y)
  | .ge => decide (y ≤ x)
  | .gt => decide (y < x)
  | .le => decide (x ≤ y)
/-- jumps: the next place, the stack -/
def ev_br (i : Instr) (n pc : Nat) (st : List Value) : Option (Nat × List Value) :=
  match i, n, st with
  | .ifCond c off, 3, .int x :: st => match ev_tg pc off with
    | none => none
    | some t => if ev_c1 c x = true then some (t, st) else some (pc + 3, st)
  | .if_icmp c off, 3, .int y :: .int x :: st => match ev_tg pc off with
    | none => none
    | some t => if ev_c2 c x y = true then some (t, st) else some (pc + 3, st)
  | .goto off, 3, st => (ev_tg pc off).map (fun t => (t, st))
  | .ifnull off, 3, .ref _ :: st => some (pc + 3, st)
  | .ifnull off, 3, .null :: st => (ev_tg pc off).map (fun t => (t, st))
  | .tableswitch d lo hi offs, _, .int x :: st =>
    if x.toInt < lo ∨ hi < x.toInt then (ev_tg pc d).map (fun t => (t, st))
    else match offs[(x.toInt - lo).toNat]? with
      | some off => (ev_tg pc off).map (fun t => (t, st))
      | none => none
  | .lookupswitch d ps, _, .int x :: st =>
    if (ps.toList.zip (ps.toList.drop 1)).all (fun (a, next) => a.1 < next.1) = true then (ev_tg pc (Op.lookupswitch.offset ps.toList d x.toInt)).map (fun t => (t, st)) else none
  | _, _, _ => none
/-- loads: what is pushed -/
def ev_ld (i : Instr) (n : Nat) (lo : ev_L) : Option Value :=
  let g (k : Nat) : Option Value := (lo[k]?).join
  match i, n with
  | .iload k, 2 => match g k with | some (.int x) => some (.int x) | _ => none
  | .iload_n k, 1 => match g k with | some (.int x) => some (.int x) | _ => none
  | .aload k, 2 => match g k with | some (.ref x) => some (.ref x) | _ => none
  | .aload_n k, 1 => match g k with | some (.ref x) => some (.ref x) | _ => none
  | .lload k, 2 => match g k with | some (.long x) => some (.long x) | _ => none
  | .lload_n k, 1 => match g k with | some (.long x) => some (.long x) | _ => none
  | .dload k, 2 => match g k with | some (.double x) => some (.double x) | _ => none
  | .dload_n k, 1 => match g k with | some (.double x) => some (.double x) | _ => none
  | _, _ => none
/-- stores: the locals, the stack -/
def ev_so (i : Instr) (n : Nat) (lo : ev_L) (st : List Value) : Option (ev_L × List Value) :=
  match i, n, st with
  | .istore k, 2, .int x :: st => if k < lo.length then some (ev_s1 lo k (.int x), st) else none
  | .istore_n k, 1, .int x :: st => if (k : Nat) < lo.length then some (ev_s1 lo k (.int x), st) else none
  | .astore k, 2, .ref x :: st => if k < lo.length then some (ev_s1 lo k (.ref x), st) else none
  | .astore_n k, 1, .ref x :: st => if (k : Nat) < lo.length then some (ev_s1 lo k (.ref x), st) else none
  | .dstore k, 2, .double x :: st => if k + 1 < lo.length then some (ev_s2 lo k (.double x), st) else none
  | .iinc k d, 3, st => match (lo[k]?).join with
    | some (.int x) => some (ev_s1 lo k (.int (x + Int32.ofInt d)), st)
    | _ => none
  | _, _, _ => none
def ev_fl (c idx : Nat) : Option (Nat × Nat × Nat × Nat) := (ev_ft.find? (fun e => e.1 == c && e.2.1 == idx)).map (fun e => e.2.2)
def ev_cl2 (c idx : Nat) : Option (Nat × Nat) := (ev_ct.find? (fun e => e.1 == c && e.2.1 == idx)).map (fun e => e.2.2)
def ev_ks (c idx : Nat) : Option (Value × Nat) := (ev_kt.find? (fun e => e.1 == c && e.2.1 == idx)).map (fun e => e.2.2)
def ev_tx (c idx : Nat) : Option (String × Nat × Nat) := (ev_sr.find? (fun e => e.1 == c && e.2.1 == idx)).map (fun e => e.2.2)
def ev_nw (c idx : Nat) : Option (Nat × Nat) := (ev_nt.find? (fun e => e.1 == c && e.2.1 == idx)).map (fun e => e.2.2)
def ev_fit (k : Nat) (v : Value) : Bool := match k, v with
  | 0, .int _ => true
  | 1, .int x => decide (x = 0 ∨ x = 1)
  | 2, .ref _ => true
  | _, _ => false
/-- memory: reads, writes, what is new -/
def ev_me (c kd : Nat) (i : Instr) (n : Nat) (st : List Value) (μ : ev_H) : Option (Nat × Nat × List Value × ev_H) :=
  match i, n, st with
  | .getfield idx, 3, .ref a :: st => match ev_fl c idx, μ.2 a with
    | some (ci, k, _, _), some (.inl (c2, fs)) => if c2 = ci ∧ ev_S ≤ a then match fs[k]? with
      | some v => some (0, 0, v :: st, μ)
      | none => none
      else none
    | _, _ => none
  | .putfield idx, 3, v :: .ref a :: st => match ev_fl c idx, μ.2 a with
    | some (ci, k, t, _), some (.inl (c2, fs)) => if c2 = ci ∧ ev_S ≤ a ∧ k < fs.length ∧ ev_fit t v = true ∧ (((ev_C ci).2.1 k).2.2.2 = false ∨ (kd = 2 ∧ c = ci)) then some (0, 0, st, (μ.1, ev_up μ.2 a (ev_ob ci (fs.set k v)))) else none
    | _, _ => none
  | .getstatic idx, 3, st => if c = 1 ∧ idx = 34 then some (0, 0, .ref 0 :: st, μ) else none
  | .iaload, 1, .int i :: .ref a :: st => match μ.2 a with
    | some (.inr (.inl (t, m, f))) => if t = 0 ∧ ev_in i m = true then some (0, 0, .int (f i.toNatClampNeg) :: st, μ) else none
    | _ => none
  | .baload, 1, .int i :: .ref a :: st => match μ.2 a with
    | some (.inr (.inl (t, m, f))) => if t = 1 ∧ ev_in i m = true ∧ ev_S ≤ a then some (0, 0, .int (f i.toNatClampNeg) :: st, μ) else none
    | _ => none
  | .aaload, 1, .int i :: .ref a :: st => match μ.2 a with
    | some (.inr (.inr (.inr (m, f)))) => if ev_in i m = true ∧ ev_S ≤ a then some (0, 0, va_rf (f i.toNatClampNeg) :: st, μ) else none
    | _ => none
  | .iastore, 1, .int x :: .int i :: .ref a :: st => match μ.2 a with
    | some (.inr (.inl (t, m, f))) => if t = 0 ∧ ev_in i m = true ∧ ev_S ≤ a then some (0, 0, st, (μ.1, ev_up μ.2 a (ev_ia 0 m (upd f i.toNatClampNeg x)))) else none
    | _ => none
  | .bastore, 1, .int x :: .int i :: .ref a :: st => match μ.2 a with
    | some (.inr (.inl (t, m, f))) => if t = 1 ∧ ev_in i m = true ∧ ev_S ≤ a then some (0, 0, st, (μ.1, ev_up μ.2 a (ev_ia 1 m (upd f i.toNatClampNeg x.toInt8.toInt32)))) else none
    | _ => none
  | .aastore, 1, .ref v :: .int i :: .ref a :: st => match μ.2 a, μ.2 v with
    | some (.inr (.inr (.inr (m, f)))), some (.inl (c2, _)) => if c2 = 3 ∧ ev_in i m = true ∧ ev_S ≤ a ∧ ev_S ≤ v then some (0, 0, st, (μ.1, ev_up μ.2 a (ev_ra m (va_up f i.toNatClampNeg (some v))))) else none
    | _, _ => none
  | .arraylength, 1, .ref a :: st => match μ.2 a with
    | some (.inr (.inl (t, m, _))) => if t ≤ 1 then some (0, 0, .int (Int32.ofNat m) :: st, μ) else none
    | _ => none
  | .newarray .int, 2, .int k :: st => if k < 0 ∨ 5000 < k.toNatClampNeg then none else some (1, k.toNatClampNeg, .ref μ.1 :: st, (μ.1 + 1, ev_up μ.2 μ.1 (ev_ia 0 k.toNatClampNeg (fun _ => 0))))
  | .newarray .byte, 2, .int k :: st => if k < 0 ∨ 5000 < k.toNatClampNeg then none else some (1, k.toNatClampNeg, .ref μ.1 :: st, (μ.1 + 1, ev_up μ.2 μ.1 (ev_ia 1 k.toNatClampNeg (fun _ => 0))))
  | .anewarray idx, 3, .int k :: st => if c = 4 ∧ idx = 9 ∧ ¬ (k < 0 ∨ 5000 < k.toNatClampNeg) then some (1, k.toNatClampNeg, .ref μ.1 :: st, (μ.1 + 1, ev_up μ.2 μ.1 (ev_ra k.toNatClampNeg (fun _ => none)))) else none
  | .new idx, 3, st => match ev_nw c idx with
    | some (ci, _) => some (1, (ev_C ci).2.2, .ref μ.1 :: st, (μ.1 + 1, ev_up μ.2 μ.1 (ev_ob ci (ev_new ci))))
    | none => none
  | .ldc idx, 2, st => match ev_ks c idx, ev_tx c idx with
    | some (.int v, _), _ => some (0, 0, .int v :: st, μ)
    | none, some (_, a, _) => some (0, 0, .ref a :: st, μ)
    | _, _ => none
  | .ldc_w idx, 3, st => match ev_ks c idx, ev_tx c idx with
    | some (.int v, _), _ => some (0, 0, .int v :: st, μ)
    | none, some (_, a, _) => some (0, 0, .ref a :: st, μ)
    | _, _ => none
  | .ldc2_w idx, 3, st => match ev_ks c idx with
    | some (.long v, _) => some (0, 0, .long v :: st, μ)
    | _ => none
  | _, _, _ => none
/-- the JDK's own methods that are taken as one step -/
def ev_jd (t : Nat) (st : List Value) (μ : ev_H) : Option (List Value × ev_H) :=
  match t, st with
  | 1000, .int n :: .int dp :: .ref b :: .int sp :: .ref a :: st => match μ.2 a, μ.2 b with
    | some (.inr (.inl (t0, m0, f))), some (.inr (.inl (t1, m1, g))) =>
      if t0 = 0 ∧ t1 = 0 ∧ ¬ sp < 0 ∧ ¬ dp < 0 ∧ ¬ n < 0 ∧ sp.toNatClampNeg + n.toNatClampNeg ≤ m0 ∧ dp.toNatClampNeg + n.toNatClampNeg ≤ m1 ∧ ev_S ≤ a ∧ ev_S ≤ b then
        some (st, (μ.1, ev_up μ.2 b (ev_ia 0 m1 (va_cpy f g sp.toNatClampNeg dp.toNatClampNeg n.toNatClampNeg))))
      else none
    | _, _ => none
  | 1001, .int x :: st => some (.int (if 0 ≤ x then x else 0 - x) :: st, μ)
  | 1002, .int y :: .int x :: st => some (.int (if x < y then y else x) :: st, μ)
  | 1003, .int y :: .int x :: st => some (.int (if y < x then y else x) :: st, μ)
  | 1004, .ref a :: st => match μ.2 a with
    | some (.inr (.inl (9, m, _))) => some (.int (Int32.ofNat m) :: st, μ)
    | _ => none
  | 1005, .int i :: .ref a :: st => match μ.2 a with
    | some (.inr (.inl (9, m, f))) => if ev_in i m = true then some (.int (f i.toNatClampNeg) :: st, μ) else none
    | _ => none
  | 1006, .ref a :: st => some (st, μ)
  | _, _ => none
def ev_jk (t : Nat) : Nat := if t ≤ 1003 then 0 else if t ≤ 1005 then 1 else 2
def ev_jf (t : Nat) : Nat := if t = 1004 then 2 else if t = 1005 then 4 else 1
def ev_jl (t : Nat) : Nat := if t = 1004 then 40 else if t = 1005 then 85 else 30
/-- how many values a method takes -/
def ev_na (M : Nat) : Nat := (((parseMethodDescriptor (ev_y M).desc).map (fun d => d.parameters.length)).getD 0) + (if ev_kd M = 0 then 0 else 1)
def ev_iv (M : Nat) (i : Instr) (n : Nat) : Option (Nat × Nat) := match i, n with
  | .invokestatic idx, 3 => (ev_cl2 (ev_ci M) idx).map (fun e => (e.1, 0))
  | .invokevirtual idx, 3 => (ev_cl2 (ev_ci M) idx).map (fun e => (e.1, 1))
  | .invokespecial idx, 3 => (ev_cl2 (ev_ci M) idx).map (fun e => (e.1, 2))
  | _, _ => none
/-- the receiver is of the method's class -/
def ev_rc (M2 k : Nat) (av : List Value) (μ : ev_H) : Bool := match k, av with
  | 0, _ => true
  | _, .ref a :: _ => match μ.2 a with
    | some (.inl (c, _)) => decide (c = ev_ci M2 ∧ ev_S ≤ a)
    | _ => false
  | _, _ => false
def ev_th2 (M pc : Nat) : Option Nat := (ev_th.find? (fun e => e.1 == M && e.2.1 == pc)).map (fun e => e.2.2.1)
def ev_rv (rt : Option FieldType) (i : Instr) (n : Nat) (st : List Value) : Option (Option Value) := match i, n, st with
  | .return_, 1, [] => if rt = none then some none else none
  | .ireturn, 1, [.int x] => match rt with
    | some ty => if narrow ty (.int x) = .int x then some (some (.int x)) else none
    | none => none
  | .areturn, 1, [.ref x] => match rt with
    | some (.object _) => some (some (.ref x))
    | _ => none
  | .freturn, 1, [.float x] => if rt = some .float then some (some (.float x)) else none
  | .dreturn, 1, [.double x] => if rt = some .double then some (some (.double x)) else none
  | _, _, _ => none
def ev_x (M pc : Nat) (lo : ev_L) (st : List Value) (μ : ev_H) : Option ev_A :=
  match ev_f M pc with
  | none => none
  | some (i, n) =>
    match ev_th2 M pc with
    | some e => if st.isEmpty = true ∧ 8 ≤ ev_dp M ∧ 130 ≤ ev_lc M then some (.inr (.inr (.inr e))) else none
    | none =>
    match ev_pu i n st with
    | some st' => some (.inl (0, 0, pc + n, lo, st', μ))
    | none =>
    match ev_br i n pc st with
    | some (pc', st') => some (.inl (0, 0, pc', lo, st', μ))
    | none =>
    match ev_ld i n lo with
    | some v => some (.inl (0, 0, pc + n, lo, v :: st, μ))
    | none =>
    match ev_so i n lo st with
    | some (lo', st') => some (.inl (0, 0, pc + n, lo', st', μ))
    | none =>
    match ev_me (ev_ci M) (ev_kd M) i n st μ with
    | some (c, s, st', μ') => some (.inl (c, s, pc + n, lo, st', μ'))
    | none =>
    match ev_iv M i n with
    | some (t, k) =>
      if 1000 ≤ t then (if ev_jk t = k ∧ (st.map Value.category).sum ≤ 9 ∧ ev_jf t ≤ ev_dp M ∧ ev_jl t ≤ ev_lc M then (ev_jd t st μ).map (fun r => .inl (0, 0, pc + n, lo, r.1, r.2)) else none)
      else if ev_kd t = k ∧ ev_na t ≤ st.length ∧ ((st.drop (ev_na t)).map Value.category).sum ≤ 8 ∧ ev_dp t + 1 ≤ ev_dp M ∧ 8 + (ev_ml t + 11) + ev_lc t ≤ ev_lc M ∧ (ev_ar (st.take (ev_na t)).reverse).length ≤ ev_ml t ∧ ev_rc t k (st.take (ev_na t)).reverse μ = true then
        some (.inr (.inr (.inl (t, (st.take (ev_na t)).reverse, st.drop (ev_na t)))))
      else none
    | none => (ev_rv (ev_rt M) i n st).map (fun v => .inr (.inl v))
/-- where a throw is caught: behind the handler's store -/
def ev_hd (M pc e : Nat) : Option (Nat × Nat) := ((ev_eh M).find? (fun x => decide (x.1 ≤ pc ∧ pc < x.2.1) && x.2.2.1 == e)).map (fun x => (x.2.2.2.1, x.2.2.2.2))
abbrev ev_Q : Type := Option ((Option Value ⊕ Nat) × ev_H)
def ev_run : Nat → Nat → Nat → Nat → Nat → ev_L → List Value → ev_H → ev_Q
  | 0, _, _, _, _, _, _, _ => none
  | n + 1, b, z, M, pc, lo, st, μ => match ev_x M pc lo st μ with
    | none => none
    | some (.inl (c, s, pc', lo', st', μ')) => if c ≤ b ∧ s ≤ z then ev_run n (b - c) (z - s) M pc' lo' st' μ' else none
    | some (.inr (.inl v)) => some (.inl v, μ)
    | some (.inr (.inr (.inl (t, av, st')))) =>
      if ev_k1 t ≤ b ∧ ev_k2 t ≤ z then match ev_run n (ev_k1 t) (ev_k2 t) t 0 (ev_en t av) [] μ with
        | some (.inl v, μ') => ev_run n (b - ev_k1 t) (z - ev_k2 t) M (pc + 3) lo (v.toList ++ st') μ'
        | some (.inr e, μ') => if ev_kd t = 2 then none else match ev_hd M pc e with
          | some (pc', i) => ev_run n (b - ev_k1 t) (z - ev_k2 t) M pc' (ev_un lo i) [] μ'
          | none => if (ev_eh M).isEmpty = true then some (.inr e, μ') else none
        | none => none
      else none
    | some (.inr (.inr (.inr e))) => if 1 ≤ b ∧ 6 ≤ z then some (.inr e, μ) else none
theorem ev_mono : ∀ (n b z M pc : Nat) (lo : ev_L) (st : List Value) (μ : ev_H) (r : (Option Value ⊕ Nat) × ev_H), ev_run n b z M pc lo st μ = some r → ev_run (n + 1) b z M pc lo st μ = some r := by
  intro n
  induction n with
  | zero => intro b z M pc lo st μ r h; simp [ev_run] at h
  | succ n ih =>
    intro b z M pc lo st μ r h
    rw [ev_run] at h
    rw [ev_run]
    split at h
    · cases h
    · rename_i h0
      split at h
      · rename_i h1
        simp only [h0, h1]
        simp only [if_true, and_self]
        exact ih _ _ _ _ _ _ _ _ h
      · cases h
    · rename_i h0
      (try rw [h0]); (try dsimp only); exact h
    · rename_i t av st' h0
      split at h
      · rename_i h1
        simp only [h0, h1, and_self, if_true]
        split at h
        · rename_i v μ' h2
          rw [ih _ _ _ _ _ _ _ _ h2]
          exact ih _ _ _ _ _ _ _ _ h
        · rename_i e μ' h2
          rw [ih _ _ _ _ _ _ _ _ h2]
          dsimp only
          by_cases hk2 : ev_kd t = 2
          · rw [if_pos hk2] at h; cases h
          rw [if_neg hk2] at h ⊢
          split at h
          · rename_i h3
            (try rw [h3]); (try dsimp only); exact ih _ _ _ _ _ _ _ _ h
          · rename_i h3
            (try rw [h3]); (try dsimp only); exact h
        · cases h
      · cases h
    · rename_i h0
      (try rw [h0]); (try dsimp only); exact h
theorem ev_mono2 {n k b z M pc : Nat} {lo : ev_L} {st : List Value} {μ : ev_H} {r : (Option Value ⊕ Nat) × ev_H} (h : ev_run n b z M pc lo st μ = some r) (hk : n ≤ k) : ev_run k b z M pc lo st μ = some r := by
  obtain ⟨d, rfl⟩ := Nat.exists_eq_add_of_le hk
  clear hk
  induction d with
  | zero => exact h
  | succ d ih => exact ev_mono _ _ _ _ _ _ _ _ _ ih
/-- what a method comes to from here, if it comes to an end -/
noncomputable def ev_dn (b z M pc : Nat) (lo : ev_L) (st : List Value) (μ : ev_H) : ev_Q :=
  @dite ev_Q (∃ n r, ev_run n b z M pc lo st μ = some r) (Classical.propDecidable _) (fun h => some h.choose_spec.choose) (fun _ => none)
theorem ev_dn_some {b z M pc : Nat} {lo : ev_L} {st : List Value} {μ : ev_H} {r : (Option Value ⊕ Nat) × ev_H} : ev_dn b z M pc lo st μ = some r ↔ ∃ n, ev_run n b z M pc lo st μ = some r := by
  constructor
  · intro h
    by_cases h1 : ∃ n r, ev_run n b z M pc lo st μ = some r
    · have h2 : ev_dn b z M pc lo st μ = some h1.choose_spec.choose := dif_pos h1
      exact ⟨h1.choose, by rw [h1.choose_spec.choose_spec, ← h, h2]⟩
    · have h2 : ev_dn b z M pc lo st μ = none := dif_neg h1
      rw [h2] at h; cases h
  · intro ⟨n, hn⟩
    have h1 : ∃ n r, ev_run n b z M pc lo st μ = some r := ⟨n, r, hn⟩
    have h3 : ev_dn b z M pc lo st μ = some h1.choose_spec.choose := dif_pos h1
    rw [h3]
    have h2 := h1.choose_spec.choose_spec
    have a := ev_mono2 h2 (Nat.le_max_left h1.choose n)
    have c := ev_mono2 hn (Nat.le_max_right h1.choose n)
    rw [a] at c
    exact c
theorem ev_ext {a b : ev_Q} (h : ∀ r, a = some r ↔ b = some r) : a = b := by
  cases a with
  | none => cases b with
    | none => rfl
    | some r => exact absurd ((h r).mpr rfl) (by simp)
  | some r => exact ((h r).mp rfl).symm
section STEP
variable {b z M pc : Nat} {lo : ev_L} {st : List Value} {μ : ev_H}
theorem ev_next {c s pc' : Nat} {lo' : ev_L} {st' : List Value} {μ' : ev_H} (h : ev_x M pc lo st μ = some (.inl (c, s, pc', lo', st', μ'))) (hb : c ≤ b ∧ s ≤ z) : ev_dn b z M pc lo st μ = ev_dn (b - c) (z - s) M pc' lo' st' μ' := by
  refine ev_ext fun r => ?_
  rw [ev_dn_some, ev_dn_some]
  constructor
  · intro ⟨n, hn⟩
    cases n with
    | zero => simp [ev_run] at hn
    | succ n => rw [ev_run, h] at hn; simp only [hb, and_self, if_true] at hn; exact ⟨n, hn⟩
  · intro ⟨n, hn⟩
    exact ⟨n + 1, by rw [ev_run, h]; simp only [hb, and_self, if_true]; exact hn⟩
theorem ev_next0 {pc' : Nat} {lo' : ev_L} {st' : List Value} {μ' : ev_H} (h : ev_x M pc lo st μ = some (.inl (0, 0, pc', lo', st', μ'))) : ev_dn b z M pc lo st μ = ev_dn b z M pc' lo' st' μ' := ev_next h ⟨Nat.zero_le _, Nat.zero_le _⟩
theorem ev_ret {v : Option Value} (h : ev_x M pc lo st μ = some (.inr (.inl v))) : ev_dn b z M pc lo st μ = some (.inl v, μ) := ev_dn_some.mpr ⟨1, by rw [ev_run, h]⟩
theorem ev_thr {e : Nat} (h : ev_x M pc lo st μ = some (.inr (.inr (.inr e)))) (hb : 1 ≤ b ∧ 6 ≤ z) : ev_dn b z M pc lo st μ = some (.inr e, μ) := ev_dn_some.mpr ⟨1, by rw [ev_run, h]; simp only [hb, and_self, if_true]⟩
/-- behind a call -/
noncomputable def ev_bh (k b z M pc : Nat) (lo : ev_L) (st : List Value) (q : ev_Q) : ev_Q := match q with
  | some (.inl v, μ') => ev_dn b z M (pc + 3) lo (v.toList ++ st) μ'
  | some (.inr e, μ') => if k = 2 then none else match ev_hd M pc e with
    | some (pc', i) => ev_dn b z M pc' (ev_un lo i) [] μ'
    | none => if (ev_eh M).isEmpty = true then some (.inr e, μ') else none
  | none => none
theorem ev_cal {t : Nat} {av st' : List Value} (h : ev_x M pc lo st μ = some (.inr (.inr (.inl (t, av, st'))))) (hb : ev_k1 t ≤ b ∧ ev_k2 t ≤ z) : ev_dn b z M pc lo st μ = ev_bh (ev_kd t) (b - ev_k1 t) (z - ev_k2 t) M pc lo st' (ev_dn (ev_k1 t) (ev_k2 t) t 0 (ev_en t av) [] μ) := by
  refine ev_ext fun r => ?_
  rw [ev_dn_some]
  constructor
  · intro ⟨n, hn⟩
    cases n with
    | zero => simp [ev_run] at hn
    | succ n =>
      rw [ev_run, h] at hn
      simp only [hb, and_self, if_true] at hn
      split at hn
      · rename_i v μ' h2
        rw [ev_dn_some.mpr ⟨n, h2⟩]
        exact ev_dn_some.mpr ⟨n, hn⟩
      · rename_i e μ' h2
        rw [ev_dn_some.mpr ⟨n, h2⟩]
        unfold ev_bh
        dsimp only
        by_cases hk2 : ev_kd t = 2
        · rw [if_pos hk2] at hn; cases hn
        rw [if_neg hk2] at hn ⊢
        split at hn
        · rename_i h3
          (try rw [h3]); (try dsimp only); exact ev_dn_some.mpr ⟨n, hn⟩
        · rename_i h3
          (try rw [h3]); (try dsimp only); exact hn
      · cases hn
  · intro hr
    cases h2 : ev_dn (ev_k1 t) (ev_k2 t) t 0 (ev_en t av) [] μ with
    | none => rw [h2] at hr; cases hr
    | some q =>
      obtain ⟨o, μ'⟩ := q
      obtain ⟨n1, h3⟩ := ev_dn_some.mp h2
      rw [h2] at hr
      unfold ev_bh at hr
      cases o with
      | inl v =>
        obtain ⟨n2, h4⟩ := ev_dn_some.mp hr
        refine ⟨max n1 n2 + 1, ?_⟩
        rw [ev_run, h]
        simp only [hb, and_self, if_true]
        rw [ev_mono2 h3 (Nat.le_max_left n1 n2)]
        exact ev_mono2 h4 (Nat.le_max_right n1 n2)
      | inr e =>
        dsimp only at hr
        by_cases hk2 : ev_kd t = 2
        · rw [if_pos hk2] at hr; cases hr
        rw [if_neg hk2] at hr
        cases h5 : ev_hd M pc e with
        | none =>
          rw [h5] at hr
          refine ⟨n1 + 1, ?_⟩
          rw [ev_run, h]
          simp only [hb, and_self, if_true]
          rw [h3]
          simp only [if_neg hk2, h5]
          exact hr
        | some x =>
          obtain ⟨pc', i⟩ := x
          rw [h5] at hr
          obtain ⟨n2, h4⟩ := ev_dn_some.mp hr
          refine ⟨max n1 n2 + 1, ?_⟩
          rw [ev_run, h]
          simp only [hb, and_self, if_true]
          rw [ev_mono2 h3 (Nat.le_max_left n1 n2)]
          simp only [if_neg hk2, h5]
          exact ev_mono2 h4 (Nat.le_max_right n1 n2)
end STEP
end
section
/-! The evaluator's numbers beside the machine's: values, locals, worlds. -/
def ev_v (ad : Nat → Nat) (v : Value) : Value := match v with
  | .ref a => .ref (ad a)
  | v => v
theorem ev_v_cat (ad : Nat → Nat) (v : Value) : (ev_v ad v).category = v.category := by cases v <;> rfl
theorem ev_v_rf (ad : Nat → Nat) (r : Option Nat) : ev_v ad (va_rf r) = va_rf (r.map ad) := by cases r <;> rfl
def ev_vl (n : Nat) (v : Value) : Prop := ∀ a, v = .ref a → a < n
theorem ev_v_up {ad : Nat → Nat} {n q : Nat} {v : Value} (h : ev_vl n v) : ev_v (va_up ad n q) v = ev_v ad v := by
  cases v with
  | ref a => show Value.ref (va_up ad n q a) = .ref (ad a); unfold va_up; rw [if_neg (Nat.ne_of_lt (h a rfl))]
  | _ => rfl
/-- the locals that are known, by their places -/
def ev_al (ad : Nat → Nat) : Nat → ev_L → List (Nat × Value)
  | _, [] => []
  | i, none :: l => ev_al ad (i + 1) l
  | i, some v :: l => (i, ev_v ad v) :: ev_al ad (i + 1) l
theorem ev_al_mem {ad : Nat → Nat} {q : Nat × Value} : ∀ {l : ev_L} {k : Nat}, q ∈ ev_al ad k l ↔ ∃ j w, q.1 = k + j ∧ l[j]? = some (some w) ∧ q.2 = ev_v ad w := by
  intro l
  induction l with
  | nil => intro k; simp [ev_al]
  | cons x l ih =>
    intro k
    cases x with
    | none =>
      rw [ev_al, ih]
      constructor
      · rintro ⟨j, w, h1, h2, h3⟩
        exact ⟨j + 1, w, by omega, by simpa using h2, h3⟩
      · rintro ⟨j, w, h1, h2, h3⟩
        cases j with
        | zero => simp at h2
        | succ j => exact ⟨j, w, by omega, by simpa using h2, h3⟩
    | some v =>
      rw [ev_al, List.mem_cons, ih]
      constructor
      · rintro (h | ⟨j, w, h1, h2, h3⟩)
        · exact ⟨0, v, by rw [h]; rfl, rfl, by rw [h]⟩
        · exact ⟨j + 1, w, by omega, by simpa using h2, h3⟩
      · rintro ⟨j, w, h1, h2, h3⟩
        cases j with
        | zero =>
          left
          simp only [List.getElem?_cons_zero, Option.some.injEq] at h2
          subst h2
          exact Prod.ext h1 h3
        | succ j => right; exact ⟨j, w, by omega, by simpa using h2, h3⟩
def ev_lr (ad : Nat → Nat) (ls : Array Slot) (lo : ev_L) : Prop := lv_has ls lo.length (ev_al ad 0 lo)
theorem ev_lr_get {ad : Nat → Nat} {ls : Array Slot} {lo : ev_L} {k : Nat} {w : Value} (h : ev_lr ad ls lo) (hk : (lo[k]?).join = some w) : ls[k]? = some (.val (ev_v ad w)) := by
  have h1 : lo[k]? = some (some w) := by
    cases hx : lo[k]? with
    | none => rw [hx] at hk; simp at hk
    | some y => rw [hx] at hk; simp at hk; rw [hk]
  exact h.2.2 (k, ev_v ad w) (ev_al_mem.mpr ⟨k, w, by simp, h1, rfl⟩)
theorem ev_join {lo : ev_L} {k : Nat} {w : Value} (hk : (lo[k]?).join = some w) : lo[k]? = some (some w) := by
  cases hx : lo[k]? with
  | none => rw [hx] at hk; simp at hk
  | some y => rw [hx] at hk; simp at hk; rw [hk]
theorem ev_kl_some {x : Option Value} {w : Value} (h : ev_kl x = some w) : x = some w ∧ w.category ≠ 2 := by
  cases x with
  | none => simp [ev_kl] at h
  | some v =>
    simp only [ev_kl] at h
    split at h
    · cases h
    · cases h; exact ⟨rfl, by assumption⟩
theorem ev_s1_len : ∀ (lo : ev_L) (k : Nat) (v : Value), (ev_s1 lo k v).length = lo.length := by
  intro lo
  induction lo with
  | nil => intro k v; simp [ev_s1]
  | cons x l ih => intro k v; cases k <;> simp [ev_s1, ih]
theorem ev_un_len : ∀ (lo : ev_L) (k : Nat), (ev_un lo k).length = lo.length := by
  intro lo
  induction lo with
  | nil => intro k; simp [ev_un]
  | cons x l ih => intro k; cases k <;> simp [ev_un, ih]
theorem ev_s2_len : ∀ (lo : ev_L) (k : Nat) (v : Value), (ev_s2 lo k v).length = lo.length := by
  intro lo
  induction lo with
  | nil => intro k v; simp [ev_s2]
  | cons x l ih =>
    intro k v
    cases k with
    | zero => cases l <;> simp [ev_s2]
    | succ k => simp [ev_s2, ih]
/-- what a store leaves of the others -/
theorem ev_s1_get : ∀ (lo : ev_L) (k : Nat) (v : Value) (j : Nat) (w : Value), (ev_s1 lo k v)[j]? = some (some w) → (j = k ∧ w = v) ∨ (j ≠ k ∧ lo[j]? = some (some w) ∧ ¬ (j + 1 = k ∧ w.category = 2)) := by
  intro lo
  induction lo with
  | nil => intro k v j w h; simp [ev_s1] at h
  | cons x l ih =>
    intro k v j w h
    cases k with
    | zero =>
      cases j with
      | zero => simp [ev_s1] at h; exact Or.inl ⟨rfl, h.symm⟩
      | succ j => simp [ev_s1] at h; exact Or.inr ⟨by omega, by simpa using h, by omega⟩
    | succ k =>
      cases j with
      | zero =>
        simp only [ev_s1, List.getElem?_cons_zero, Option.some.injEq] at h
        refine Or.inr ⟨by omega, ?_, ?_⟩
        · split at h
          · rw [(ev_kl_some h).1]; rfl
          · rw [h]; rfl
        · intro ⟨h1, h2⟩
          rw [if_pos (by omega)] at h
          exact (ev_kl_some h).2 h2
      | succ j =>
        simp only [ev_s1, List.getElem?_cons_succ] at h
        rcases ih k v j w h with ⟨h1, h2⟩ | ⟨h1, h2, h3⟩
        · exact Or.inl ⟨by omega, h2⟩
        · exact Or.inr ⟨by omega, by simpa using h2, fun ⟨a, b⟩ => h3 ⟨by omega, b⟩⟩
theorem ev_un_get : ∀ (lo : ev_L) (k : Nat) (j : Nat) (w : Value), (ev_un lo k)[j]? = some (some w) → j ≠ k ∧ lo[j]? = some (some w) ∧ ¬ (j + 1 = k ∧ w.category = 2) := by
  intro lo
  induction lo with
  | nil => intro k j w h; simp [ev_un] at h
  | cons x l ih =>
    intro k j w h
    cases k with
    | zero =>
      cases j with
      | zero => simp [ev_un] at h
      | succ j => simp [ev_un] at h; exact ⟨by omega, by simpa using h, by omega⟩
    | succ k =>
      cases j with
      | zero =>
        simp only [ev_un, List.getElem?_cons_zero, Option.some.injEq] at h
        refine ⟨by omega, ?_, ?_⟩
        · split at h
          · rw [(ev_kl_some h).1]; rfl
          · rw [h]; rfl
        · intro ⟨h1, h2⟩
          rw [if_pos (by omega)] at h
          exact (ev_kl_some h).2 h2
      | succ j =>
        simp only [ev_un, List.getElem?_cons_succ] at h
        obtain ⟨h1, h2, h3⟩ := ih k j w h
        exact ⟨by omega, by simpa using h2, fun ⟨a, b⟩ => h3 ⟨by omega, b⟩⟩
theorem ev_s2_get : ∀ (lo : ev_L) (k : Nat) (v : Value) (j : Nat) (w : Value), (ev_s2 lo k v)[j]? = some (some w) → (j = k ∧ w = v) ∨ (j ≠ k ∧ j ≠ k + 1 ∧ lo[j]? = some (some w) ∧ ¬ (j + 1 = k ∧ w.category = 2)) := by
  intro lo
  induction lo with
  | nil => intro k v j w h; simp [ev_s2] at h
  | cons x l ih =>
    intro k v j w h
    cases k with
    | zero =>
      cases l with
      | nil =>
        cases j with
        | zero => simp [ev_s2] at h; exact Or.inl ⟨rfl, h.symm⟩
        | succ j => simp [ev_s2] at h
      | cons y l =>
        match j with
        | 0 => simp [ev_s2] at h; exact Or.inl ⟨rfl, h.symm⟩
        | 1 => simp [ev_s2] at h
        | j + 2 => simp [ev_s2] at h; exact Or.inr ⟨by omega, by omega, by simpa using h, by omega⟩
    | succ k =>
      cases j with
      | zero =>
        simp only [ev_s2, List.getElem?_cons_zero, Option.some.injEq] at h
        refine Or.inr ⟨by omega, by omega, ?_, ?_⟩
        · split at h
          · rw [(ev_kl_some h).1]; rfl
          · rw [h]; rfl
        · intro ⟨h1, h2⟩
          rw [if_pos (by omega)] at h
          exact (ev_kl_some h).2 h2
      | succ j =>
        simp only [ev_s2, List.getElem?_cons_succ] at h
        rcases ih k v j w h with ⟨h1, h2⟩ | ⟨h1, h1', h2, h3⟩
        · exact Or.inl ⟨by omega, h2⟩
        · exact Or.inr ⟨by omega, by omega, by simpa using h2, fun ⟨a, b⟩ => h3 ⟨by omega, b⟩⟩
theorem ev_lr_s1 {ad : Nat → Nat} {ls : Array Slot} {lo : ev_L} {k : Nat} {v : Value} (h : lv_has ls lo.length ((k, ev_v ad v) :: (ev_al ad 0 lo).filter (fun q => !(q.1 == k) && !(q.1 + 1 == k && q.2.category == 2)))) : ev_lr ad ls (ev_s1 lo k v) := by
  refine ⟨by rw [ev_s1_len]; exact h.1, h.2.1, fun q hq => h.2.2 q ?_⟩
  obtain ⟨j, w, h1, h2, h3⟩ := ev_al_mem.mp hq
  rcases ev_s1_get lo k v j w h2 with ⟨a, b⟩ | ⟨a, b, c⟩
  · refine List.mem_cons.mpr (Or.inl (Prod.ext (by simp only; omega) (by rw [h3, b])))
  · refine List.mem_cons_of_mem _ (List.mem_filter.mpr ⟨ev_al_mem.mpr ⟨j, w, h1, b, h3⟩, ?_⟩)
    rw [h3, ev_v_cat]
    have e1 : ¬ q.1 = k := by omega
    have e2 : ¬ (q.1 + 1 = k ∧ w.category = 2) := by rw [h1]; intro ⟨x, y⟩; exact c ⟨by omega, y⟩
    simp [e1]
    exact Decidable.not_and_iff_or_not.mp e2
theorem ev_lr_un {ad : Nat → Nat} {ls : Array Slot} {lo : ev_L} {k : Nat} {v : Value} (h : lv_has ls lo.length ((k, v) :: (ev_al ad 0 lo).filter (fun q => !(q.1 == k) && !(q.1 + 1 == k && q.2.category == 2)))) : ev_lr ad ls (ev_un lo k) := by
  refine ⟨by rw [ev_un_len]; exact h.1, h.2.1, fun q hq => h.2.2 q ?_⟩
  obtain ⟨j, w, h1, h2, h3⟩ := ev_al_mem.mp hq
  obtain ⟨a, b, c⟩ := ev_un_get lo k j w h2
  refine List.mem_cons_of_mem _ (List.mem_filter.mpr ⟨ev_al_mem.mpr ⟨j, w, h1, b, h3⟩, ?_⟩)
  rw [h3, ev_v_cat]
  have e1 : ¬ q.1 = k := by omega
  have e2 : ¬ (q.1 + 1 = k ∧ w.category = 2) := by rw [h1]; intro ⟨x, y⟩; exact c ⟨by omega, y⟩
  simp [e1]
  exact Decidable.not_and_iff_or_not.mp e2
theorem ev_lr_s2 {ad : Nat → Nat} {ls : Array Slot} {lo : ev_L} {k : Nat} {v : Value} (h : lv_has ls lo.length ((k, ev_v ad v) :: (ev_al ad 0 lo).filter (fun q => !(q.1 == k) && (!(q.1 == k + 1) && !(q.1 + 1 == k && q.2.category == 2))))) : ev_lr ad ls (ev_s2 lo k v) := by
  refine ⟨by rw [ev_s2_len]; exact h.1, h.2.1, fun q hq => h.2.2 q ?_⟩
  obtain ⟨j, w, h1, h2, h3⟩ := ev_al_mem.mp hq
  rcases ev_s2_get lo k v j w h2 with ⟨a, b⟩ | ⟨a, a', b, c⟩
  · refine List.mem_cons.mpr (Or.inl (Prod.ext (by simp only; omega) (by rw [h3, b])))
  · refine List.mem_cons_of_mem _ (List.mem_filter.mpr ⟨ev_al_mem.mpr ⟨j, w, h1, b, h3⟩, ?_⟩)
    rw [h3, ev_v_cat]
    have e1 : ¬ q.1 = k := by omega
    have e3 : ¬ q.1 = k + 1 := by omega
    have e2 : ¬ (q.1 + 1 = k ∧ w.category = 2) := by rw [h1]; intro ⟨x, y⟩; exact c ⟨by omega, y⟩
    simp [e1, e3]
    exact Decidable.not_and_iff_or_not.mp e2
/-- locals stay known when something new gets an address -/
def ev_ll (n : Nat) (lo : ev_L) : Prop := ∀ (j : Nat) (w : Value), lo[j]? = some (some w) → ev_vl n w
def ev_sl (n : Nat) (st : List Value) : Prop := ∀ v ∈ st, ev_vl n v
theorem ev_lr_up {ad : Nat → Nat} {ls : Array Slot} {lo : ev_L} {n q : Nat} (h : ev_lr ad ls lo) (hl : ev_ll n lo) : ev_lr (va_up ad n q) ls lo := by
  refine ⟨h.1, h.2.1, fun x hx => h.2.2 x ?_⟩
  obtain ⟨j, w, h1, h2, h3⟩ := ev_al_mem.mp hx
  exact ev_al_mem.mpr ⟨j, w, h1, h2, by rw [h3, ev_v_up (hl j w h2)]⟩
theorem ev_st_up {ad : Nat → Nat} {st : List Value} {n q : Nat} (h : ev_sl n st) : st.map (ev_v (va_up ad n q)) = st.map (ev_v ad) := List.map_congr_left fun v hv => ev_v_up (h v hv)
theorem ev_vl_mono {n k : Nat} {v : Value} (h : ev_vl n v) (hk : n ≤ k) : ev_vl k v := fun a ha => Nat.lt_of_lt_of_le (h a ha) hk
/-- worlds -/
def ev_tys (cA : Nat → ClassId) : List (ClassId × FieldType) := [(cA 0, .int), (cA 1, .byte), (cA 2, .int), (cA 3, .object "LanternChess$Game")]
def ev_ce (ad : Nat → Nat) (cA : Nat → ClassId) (e : ev_E) : va_E := match e with
  | .inl (c, fs) => .inr (c, fs.map (ev_v ad))
  | .inr (.inl (t, n, f)) => .inl (cA t, n, .inl f)
  | .inr (.inr (.inl (n, f))) => .inl (cA 2, n, .inr (.inl f))
  | .inr (.inr (.inr (n, f))) => .inl (cA 3, n, .inr (.inr (.inr (.inr (fun i => (f i).map ad)))))
def ev_cw (ad : Nat → Nat) (cA : Nat → ClassId) (f : Nat → Option ev_E) (k : Nat) : Nat × va_E := (ad (k + ev_S), ((f (k + ev_S)).map (ev_ce ad cA)).getD (.inr (0, [])))
def ev_ws (ad : Nat → Nat) (cA : Nat → ClassId) (μ : ev_H) : va_W := (List.range (μ.1 - ev_S)).map (ev_cw ad cA μ.2)
def ev_el (n : Nat) (e : ev_E) : Prop := match e with
  | .inl (c, fs) => c < 12 ∧ fs.length = (ev_C c).2.2 ∧ ∀ v ∈ fs, ev_vl n v
  | .inr (.inl (t, _, _)) => t ≤ 1
  | .inr (.inr (.inl _)) => True
  | .inr (.inr (.inr (_, f))) => ∀ i b, f i = some b → b < n
def ev_mw (μ : ev_H) : Prop := ev_S ≤ μ.1 ∧ (∀ a e, ev_S ≤ a → μ.2 a = some e → a < μ.1 ∧ ev_el μ.1 e) ∧ ∀ a, ev_S ≤ a → a < μ.1 → (μ.2 a).isSome = true
theorem ev_ws_get {ad : Nat → Nat} {cA : Nat → ClassId} {μ : ev_H} {a : Nat} {e : ev_E} (hw : ev_mw μ) (h1 : ev_S ≤ a) (h2 : μ.2 a = some e) : (ev_ws ad cA μ)[a - ev_S]? = some (ad a, ev_ce ad cA e) := by
  have h3 := (hw.2.1 a e h1 h2).1
  unfold ev_ws
  rw [List.getElem?_map, List.getElem?_range (by omega)]
  simp only [Option.map_some, ev_cw, Nat.sub_add_cancel h1, h2, Option.getD_some]
theorem ev_ws_set {ad : Nat → Nat} {cA : Nat → ClassId} {μ : ev_H} {a : Nat} {e : ev_E} (h1 : ev_S ≤ a) (h2 : a < μ.1) : (ev_ws ad cA μ).set (a - ev_S) (ad a, ev_ce ad cA e) = ev_ws ad cA (μ.1, ev_up μ.2 a e) := by
  refine List.ext_getElem? fun i => ?_
  unfold ev_ws
  by_cases hi : i < μ.1 - ev_S
  · by_cases hia : i = a - ev_S
    · subst hia
      rw [List.getElem?_set_self (by simp; omega), List.getElem?_map, List.getElem?_range hi]
      simp [ev_cw, Nat.sub_add_cancel h1, ev_up]
    · rw [List.getElem?_set_ne (fun z => hia z.symm), List.getElem?_map, List.getElem?_map, List.getElem?_range hi]
      have h3 : ¬ i + ev_S = a := by omega
      simp [ev_cw, ev_up, h3]
  · rw [List.getElem?_eq_none (by simp; omega), List.getElem?_eq_none (by simp; omega)]
theorem ev_ce_up {ad : Nat → Nat} {cA : Nat → ClassId} {n q : Nat} {e : ev_E} (h : ev_el n e) : ev_ce (va_up ad n q) cA e = ev_ce ad cA e := by
  match e, h with
  | .inl (c, fs), h =>
    show (Sum.inr (c, fs.map (ev_v (va_up ad n q))) : va_E) = Sum.inr (c, fs.map (ev_v ad))
    rw [List.map_congr_left (fun v hv => ev_v_up (h.2.2 v hv))]
  | .inr (.inl (t, m, f)), h => rfl
  | .inr (.inr (.inl (m, f))), h => rfl
  | .inr (.inr (.inr (m, f))), h =>
    have h2 : (fun i => (f i).map (va_up ad n q)) = fun i => (f i).map ad := by
      funext i
      cases hf : f i with
      | none => rfl
      | some b => simp [va_up, Nat.ne_of_lt (h i b hf)]
    show (Sum.inl (cA 3, m, .inr (.inr (.inr (.inr (fun i => (f i).map (va_up ad n q)))))) : va_E) = _
    rw [h2]
    rfl
theorem ev_ws_push {ad : Nat → Nat} {cA : Nat → ClassId} {μ : ev_H} {q : Nat} {e : ev_E} (hw : ev_mw μ) (he : ev_el μ.1 e) : ev_ws ad cA μ ++ [(q, ev_ce ad cA e)] = ev_ws (va_up ad μ.1 q) cA (μ.1 + 1, ev_up μ.2 μ.1 e) := by
  have h1 : ev_S ≤ μ.1 := hw.1
  unfold ev_ws
  have h2 : (μ.1 + 1) - ev_S = (μ.1 - ev_S) + 1 := by omega
  show _ = (List.range ((μ.1 + 1) - ev_S)).map (ev_cw (va_up ad μ.1 q) cA (ev_up μ.2 μ.1 e))
  rw [h2, List.range_succ, List.map_append]
  congr 1
  · refine List.map_congr_left fun k hk => ?_
    rw [List.mem_range] at hk
    have h3 : ¬ k + ev_S = μ.1 := by omega
    unfold ev_cw
    have h4 : ev_up μ.2 μ.1 e (k + ev_S) = μ.2 (k + ev_S) := by unfold ev_up; rw [if_neg h3]
    have h5 : va_up ad μ.1 q (k + ev_S) = ad (k + ev_S) := by unfold va_up; rw [if_neg h3]
    rw [h4, h5]
    cases h6 : μ.2 (k + ev_S) with
    | none => rfl
    | some e0 =>
      have h7 := (hw.2.1 _ _ (Nat.le_add_left _ _) h6).2
      simp only [Option.map_some, Option.getD_some]
      rw [ev_ce_up h7]
  · have h3 : μ.1 - ev_S + ev_S = μ.1 := by omega
    simp only [List.map_cons, List.map_nil, ev_cw, h3, ev_up, va_up, if_true, Option.map_some, Option.getD_some]
    have h4 := ev_ce_up (ad := ad) (cA := cA) (q := q) he
    rw [h4]
theorem ev_el_mono {n k : Nat} {e : ev_E} (h : ev_el n e) (hk : n ≤ k) : ev_el k e := by
  match e, h with
  | .inl (c, fs), h => exact ⟨h.1, h.2.1, fun v hv => ev_vl_mono (h.2.2 v hv) hk⟩
  | .inr (.inl (t, m, f)), h => exact h
  | .inr (.inr (.inl (m, f))), h => trivial
  | .inr (.inr (.inr (m, f))), h => exact fun i b hb => Nat.lt_of_lt_of_le (h i b hb) hk
theorem ev_mw_set {μ : ev_H} {a : Nat} {e : ev_E} (hw : ev_mw μ) (h1 : ev_S ≤ a) (h2 : a < μ.1) (he : ev_el μ.1 e) : ev_mw (μ.1, ev_up μ.2 a e) := by
  refine ⟨hw.1, fun b e' hb h => ?_, fun b hb hl => ?_⟩
  · by_cases hba : b = a
    · subst hba
      simp only [ev_up, if_true, Option.some.injEq] at h
      subst h
      exact ⟨h2, he⟩
    · simp only [ev_up, hba, if_false] at h
      exact hw.2.1 b e' hb h
  · by_cases hba : b = a
    · simp [ev_up, hba]
    · simp only [ev_up, hba, if_false]
      exact hw.2.2 b hb hl
theorem ev_mw_push {μ : ev_H} {e : ev_E} (hw : ev_mw μ) (he : ev_el μ.1 e) : ev_mw (μ.1 + 1, ev_up μ.2 μ.1 e) := by
  refine ⟨Nat.le_succ_of_le hw.1, fun b e' hb h => ?_, fun b hb hl => ?_⟩
  · by_cases hba : b = μ.1
    · subst hba
      simp only [ev_up, if_true, Option.some.injEq] at h
      subst h
      exact ⟨Nat.lt_succ_self _, ev_el_mono he (Nat.le_succ _)⟩
    · simp only [ev_up, hba, if_false] at h
      have h3 := hw.2.1 b e' hb h
      exact ⟨Nat.lt_succ_of_lt h3.1, ev_el_mono h3.2 (Nat.le_succ _)⟩
  · by_cases hba : b = μ.1
    · simp [ev_up, hba]
    · simp only [ev_up, hba, if_false]
      exact hw.2.2 b hb (by have : b < μ.1 + 1 := hl; omega)
end
section
/-! Soundness of the evaluator's steps that need stack and locals alone. -/
section EVP
variable {p : Program} {l : Launch} {e : Env} {R : Room} {s : State} {m : MethodId} {args : Array Value} {below : List Frame} {meth : Method} {c : Code} {H : Heap} {locs : List Loc} {cells slots : Nat} {Q : State → Prop}
variable {pc : Nat} {ls : Array Slot} {cc : ByteArray} {ad : Nat → Nat}
set_option maxHeartbeats 4000000 in
theorem ev_pu_ok (hx : p.tables.exec = Jvm.exec) (hb : c.code = cc) {i : Instr} {n : Nat} {st st' : List Value} (h : ev_pu i n st = some st') (hdg : decode cc pc = .ok (i, n))
    (k : W p l e R s m args below meth c H locs cells slots Q (F0 m (pc + n) ls (st'.map (ev_v ad)))) : W p l e R s m args below meth c H locs cells slots Q (F0 m pc ls (st.map (ev_v ad))) := by
  unfold ev_pu at h
  split at h
  · cases h; exact lv_iconst hx hb hdg rfl k
  · cases h; exact lv_bipush hx hb hdg rfl k
  · cases h; exact lv_sipush hx hb hdg rfl k
  · cases h; exact lv_lconst hx hb hdg rfl k
  · cases h; exact lv_fconst0 hx hb hdg k
  · cases h; exact lv_dconst0 hx hb hdg k
  · cases h; exact lv_fconst1 hx hb hdg k
  · cases h; exact lv_dconst1 hx hb hdg k
  · cases h; exact lv_iadd hx hb hdg k
  · cases h; exact lv_isub hx hb hdg k
  · cases h; exact lv_imul hx hb hdg k
  · split at h
    · cases h
    · rename_i hy; cases h; exact lv_idiv hx hb hdg hy k
  · split at h
    · cases h
    · rename_i hy; cases h; exact lv_irem hx hb hdg hy k
  · cases h; exact lv_ineg hx hb hdg k
  · cases h; exact lv_iand hx hb hdg k
  · cases h; exact lv_ior hx hb hdg k
  · cases h; exact lv_ishl hx hb hdg k
  · cases h; exact lv_ishr hx hb hdg k
  · cases h; exact lv_iushr hx hb hdg rfl k
  · cases h; exact lv_i2l hx hb hdg rfl k
  · cases h; exact lv_i2b hx hb hdg rfl k
  · cases h; exact lv_i2c hx hb hdg rfl k
  · cases h; exact lv_i2f hx hb hdg k
  · cases h; exact lv_i2d hx hb hdg k
  · split at h
    · rename_i hy; cases h; exact lv_f2d hx hb hdg hy k
    · cases h
  · split at h
    · rename_i hy; cases h; exact lv_fdiv hx hb hdg hy k
    · cases h
  · split at h
    · rename_i hy; cases h; exact lv_ddiv hx hb hdg hy k
    · cases h
  · cases h; exact lv_dcmp hx hb hdg k
  · cases h; exact W.lcmp hx hb hdg k
  · cases h; exact lv_fcmp hx hb hdg k
  · split at h
    · rename_i hy; cases h; exact lv_dup2_11 hx hb hdg ((ev_v_cat _ _).trans hy.1) ((ev_v_cat _ _).trans hy.2) k
    · cases h
  · split at h
    · rename_i hy; cases h; exact lv_dup hx hb hdg ((ev_v_cat _ _).trans hy) k
    · cases h
  · split at h
    · rename_i hy; cases h; exact lv_pop hx hb hdg ((ev_v_cat _ _).trans hy) k
    · cases h
  · cases h
set_option maxHeartbeats 4000000 in
theorem ev_pu_lt {i : Instr} {n N : Nat} {st st' : List Value} (h : ev_pu i n st = some st') (hs : ev_sl N st) : ev_sl N st' := by
  have hi : ∀ {v : Value} {t : List Value}, (∀ a, v ≠ .ref a) → ev_sl N t → ev_sl N (v :: t) := fun hv ht w hw => by
    rcases List.mem_cons.mp hw with rfl | hw
    · exact fun a ha => absurd ha (hv a)
    · exact ht w hw
  have t1 : ∀ {v : Value} {t : List Value}, ev_sl N (v :: t) → ev_sl N t := fun ht w hw => ht w (List.mem_cons_of_mem _ hw)
  have d1 : ∀ {v : Value} {t : List Value}, ev_sl N (v :: t) → ev_sl N (v :: v :: t) := fun ht w hw => by
    rcases List.mem_cons.mp hw with rfl | hw
    · exact ht _ List.mem_cons_self
    · exact ht _ hw
  have d2 : ∀ {v u : Value} {t : List Value}, ev_sl N (v :: u :: t) → ev_sl N (v :: u :: v :: u :: t) := fun ht w hw => by
    rcases List.mem_cons.mp hw with rfl | hw
    · exact ht _ List.mem_cons_self
    · rcases List.mem_cons.mp hw with rfl | hw
      · exact ht _ (List.mem_cons_of_mem _ List.mem_cons_self)
      · exact ht _ hw
  unfold ev_pu at h
  split at h
  all_goals first
    | (cases h; exact hi (fun a ha => by cases ha) hs)
    | (cases h; exact hi (fun a ha => by cases ha) (t1 hs))
    | (cases h; exact hi (fun a ha => by cases ha) (t1 (t1 hs)))
    | (split at h
       · first
         | (cases h; done)
         | (cases h; exact hi (fun a ha => by cases ha) (t1 hs))
         | (cases h; exact hi (fun a ha => by cases ha) (t1 (t1 hs)))
         | (cases h; exact d1 hs)
         | (cases h; exact d2 hs)
         | (cases h; exact t1 hs)
       · first
         | (cases h; done)
         | (cases h; exact hi (fun a ha => by cases ha) (t1 (t1 hs))))
    | (cases h; done)
theorem ev_tg_ok {off : Int} {t : Nat} (h : ev_tg pc off = some t) : (pc : Int) + off = (t : Int) := by
  unfold ev_tg at h
  split at h
  · rename_i h1; cases h; omega
  · cases h
theorem ev_mp {o : Option Nat} {t st' : List Value} {pc' : Nat} (h : o.map (fun x => (x, t)) = some (pc', st')) : o = some pc' ∧ t = st' := by
  cases o with
  | none => cases h
  | some x => cases h; exact ⟨rfl, rfl⟩
set_option maxHeartbeats 4000000 in
theorem ev_br_ok (hx : p.tables.exec = Jvm.exec) (hb : c.code = cc) {i : Instr} {n pc' : Nat} {st st' : List Value} (h : ev_br i n pc st = some (pc', st')) (hdg : decode cc pc = .ok (i, n))
    (k : W p l e R s m args below meth c H locs cells slots Q (F0 m pc' ls (st'.map (ev_v ad)))) : W p l e R s m args below meth c H locs cells slots Q (F0 m pc ls (st.map (ev_v ad))) := by
  unfold ev_br at h
  split at h
  · rename_i cd off x st
    split at h
    · cases h
    · rename_i t ht
      have ht := ev_tg_ok ht
      cases cd
      all_goals
        simp only [ev_c1, decide_eq_true_eq] at h
        split at h
        · rename_i hc
          cases h
          first
          | exact lv_if_eq hx hb hdg ht (fun _ => k) (fun z => absurd hc z)
          | exact lv_if_ne hx hb hdg ht (fun _ => k) (fun z => absurd z hc)
          | exact lv_if_lt hx hb hdg ht (fun _ => k) (fun z => absurd hc z)
          | exact lv_if_ge hx hb hdg ht (fun _ => k) (fun z => absurd hc z)
          | exact lv_if_gt hx hb hdg ht (fun _ => k) (fun z => absurd hc z)
          | exact lv_if_le hx hb hdg ht (fun _ => k) (fun z => absurd hc z)
        · rename_i hc
          cases h
          first
          | exact lv_if_eq hx hb hdg ht (fun z => absurd z hc) (fun _ => k)
          | exact lv_if_ne hx hb hdg ht (fun z => absurd z hc) (fun _ => k)
          | exact lv_if_lt hx hb hdg ht (fun z => absurd z hc) (fun _ => k)
          | exact lv_if_ge hx hb hdg ht (fun z => absurd z hc) (fun _ => k)
          | exact lv_if_gt hx hb hdg ht (fun z => absurd z hc) (fun _ => k)
          | exact lv_if_le hx hb hdg ht (fun z => absurd z hc) (fun _ => k)
  · rename_i cd off y x st
    split at h
    · cases h
    · rename_i t ht
      have ht := ev_tg_ok ht
      cases cd
      all_goals
        simp only [ev_c2, decide_eq_true_eq] at h
        split at h
        · rename_i hc
          cases h
          first
          | exact lv_icmp_eq hx hb hdg ht (fun _ => k) (fun z => absurd hc z)
          | exact lv_icmp_ne hx hb hdg ht (fun _ => k) (fun z => absurd z hc)
          | exact lv_icmp_lt hx hb hdg ht (fun _ => k) (fun z => absurd hc z)
          | exact lv_icmp_ge hx hb hdg ht (fun _ => k) (fun z => absurd hc z)
          | exact lv_icmp_gt hx hb hdg ht (fun _ => k) (fun z => absurd hc z)
          | exact lv_icmp_le hx hb hdg ht (fun _ => k) (fun z => absurd hc z)
        · rename_i hc
          cases h
          first
          | exact lv_icmp_eq hx hb hdg ht (fun z => absurd z hc) (fun _ => k)
          | exact lv_icmp_ne hx hb hdg ht (fun z => absurd z hc) (fun _ => k)
          | exact lv_icmp_lt hx hb hdg ht (fun z => absurd z hc) (fun _ => k)
          | exact lv_icmp_ge hx hb hdg ht (fun z => absurd z hc) (fun _ => k)
          | exact lv_icmp_gt hx hb hdg ht (fun z => absurd z hc) (fun _ => k)
          | exact lv_icmp_le hx hb hdg ht (fun z => absurd z hc) (fun _ => k)
  · obtain ⟨ht, rfl⟩ := ev_mp h; exact lv_goto hx hb hdg (ev_tg_ok ht) k
  · cases h; exact lv_ifnull hx hb hdg k
  · obtain ⟨ht, rfl⟩ := ev_mp h; exact lv_ifnullN hx hb hdg (ev_tg_ok ht) k
  · split at h
    · rename_i hc
      obtain ⟨ht, rfl⟩ := ev_mp h; exact lv_tableOut hx hb hdg hc (ev_tg_ok ht) k
    · rename_i hc
      split at h
      · rename_i ho
        obtain ⟨ht, rfl⟩ := ev_mp h; exact lv_tableIn hx hb hdg (fun z => hc (Or.inl z)) (fun z => hc (Or.inr z)) ho (ev_tg_ok ht) k
      · cases h
  · split at h
    · rename_i hc
      obtain ⟨ht, rfl⟩ := ev_mp h; exact lv_lookup hx hb hdg hc rfl (ev_tg_ok ht) k
    · cases h
  · cases h
theorem ev_br_lt {i : Instr} {n N pc' : Nat} {st st' : List Value} (h : ev_br i n pc st = some (pc', st')) (hs : ev_sl N st) : ev_sl N st' := by
  have t1 : ∀ {v : Value} {t : List Value}, ev_sl N (v :: t) → ev_sl N t := fun ht w hw => ht w (List.mem_cons_of_mem _ hw)
  have mp : ∀ {o : Option Nat} {t : List Value}, o.map (fun x => (x, t)) = some (pc', st') → t = st' := fun {o t} h => by
    cases o with
    | none => cases h
    | some x => cases h; rfl
  unfold ev_br at h
  split at h
  · split at h
    · cases h
    · split at h <;> (cases h; exact t1 hs)
  · split at h
    · cases h
    · split at h <;> (cases h; exact t1 (t1 hs))
  · rw [← mp h]; exact hs
  · cases h; exact t1 hs
  · rw [← mp h]; exact t1 hs
  · split at h
    · rw [← mp h]; exact t1 hs
    · split at h
      · rw [← mp h]; exact t1 hs
      · cases h
  · split at h
    · rw [← mp h]; exact t1 hs
    · cases h
  · cases h
set_option maxHeartbeats 4000000 in
theorem ev_ld_ok (hx : p.tables.exec = Jvm.exec) (hb : c.code = cc) {i : Instr} {n : Nat} {lo : ev_L} {v : Value} {rest : List Value} (h : ev_ld i n lo = some v) (hl : ev_lr ad ls lo) (hdg : decode cc pc = .ok (i, n))
    (k : W p l e R s m args below meth c H locs cells slots Q (F0 m (pc + n) ls (ev_v ad v :: rest))) : W p l e R s m args below meth c H locs cells slots Q (F0 m pc ls rest) := by
  unfold ev_ld at h
  dsimp only at h
  split at h
  all_goals first
    | (split at h
       · rename_i x hg
         cases h
         have hq := ev_lr_get hl hg
         first
         | exact lv_iload hx hb hdg hq k
         | exact lv_iload_n hx hb hdg rfl hq k
         | exact lv_aload hx hb hdg hq k
         | exact lv_aload_n hx hb hdg rfl hq k
         | exact lv_lload hx hb hdg hq k
         | exact lv_lload_n hx hb hdg rfl hq k
         | exact lv_dload hx hb hdg hq k
         | exact lv_dload_n hx hb hdg rfl hq k
       · cases h)
    | cases h
theorem ev_ld_lt {i : Instr} {n N : Nat} {lo : ev_L} {v : Value} (h : ev_ld i n lo = some v) (hl : ev_ll N lo) : ev_vl N v := by
  unfold ev_ld at h
  dsimp only at h
  split at h
  all_goals first
    | (split at h
       · rename_i x hg
         cases h
         exact hl _ _ (ev_join hg)
       · cases h)
    | cases h
theorem ev_ll_s1 {N k : Nat} {lo : ev_L} {v : Value} (hl : ev_ll N lo) (hv : ev_vl N v) : ev_ll N (ev_s1 lo k v) := by
  intro j w h
  rcases ev_s1_get lo k v j w h with ⟨-, rfl⟩ | ⟨-, h2, -⟩
  · exact hv
  · exact hl j w h2
theorem ev_ll_s2 {N k : Nat} {lo : ev_L} {v : Value} (hl : ev_ll N lo) (hv : ev_vl N v) : ev_ll N (ev_s2 lo k v) := by
  intro j w h
  rcases ev_s2_get lo k v j w h with ⟨-, rfl⟩ | ⟨-, -, h2, -⟩
  · exact hv
  · exact hl j w h2
theorem ev_ll_un {N k : Nat} {lo : ev_L} (hl : ev_ll N lo) : ev_ll N (ev_un lo k) := fun j w h => hl j w (ev_un_get lo k j w h).2.1
set_option maxHeartbeats 4000000 in
theorem ev_so_ok (hx : p.tables.exec = Jvm.exec) (hb : c.code = cc) {i : Instr} {n : Nat} {lo lo' : ev_L} {st st' : List Value} (h : ev_so i n lo st = some (lo', st')) (hl : ev_lr ad ls lo) (hdg : decode cc pc = .ok (i, n))
    (k : ∀ ls', ev_lr ad ls' lo' → W p l e R s m args below meth c H locs cells slots Q (F0 m (pc + n) ls' (st'.map (ev_v ad)))) : W p l e R s m args below meth c H locs cells slots Q (F0 m pc ls (st.map (ev_v ad))) := by
  unfold ev_so at h
  split at h
  · split at h
    · rename_i hk; cases h; exact lv_istore hx hb hdg hl hk rfl (fun ls' hl' => k ls' (ev_lr_s1 (v := .int _) hl'))
    · cases h
  · split at h
    · rename_i hk; cases h; exact lv_istore_n hx hb hdg rfl hl hk rfl (fun ls' hl' => k ls' (ev_lr_s1 (v := .int _) hl'))
    · cases h
  · split at h
    · rename_i hk; cases h; exact lv_astore hx hb hdg hl hk rfl (fun ls' hl' => k ls' (ev_lr_s1 (v := .ref _) hl'))
    · cases h
  · split at h
    · rename_i hk; cases h; exact lv_astore_n hx hb hdg rfl hl hk rfl (fun ls' hl' => k ls' (ev_lr_s1 (v := .ref _) hl'))
    · cases h
  · split at h
    · rename_i hk; cases h; exact lv_dstore hx hb hdg hl hk rfl (fun ls' hl' => k ls' (ev_lr_s2 (v := .double _) hl'))
    · cases h
  · rename_i st kk d
    split at h
    · rename_i x hg
      cases h
      have hq := ev_join hg
      have hm : (kk, ev_v ad (.int x)) ∈ ev_al ad 0 lo := ev_al_mem.mpr ⟨kk, .int x, by simp, hq, rfl⟩
      obtain ⟨j, hj⟩ := List.getElem?_of_mem hm
      exact lv_iinc hx hb hdg hl hj rfl (List.getElem?_eq_some_iff.mp hq).1 rfl (fun ls' hl' => k ls' (ev_lr_s1 (v := .int _) hl'))
    · cases h
  · cases h
theorem ev_so_lt {i : Instr} {n N : Nat} {lo lo' : ev_L} {st st' : List Value} (h : ev_so i n lo st = some (lo', st')) (hl : ev_ll N lo) (hs : ev_sl N st) : ev_ll N lo' ∧ ev_sl N st' ∧ lo'.length = lo.length := by
  have t1 : ∀ {v : Value} {t : List Value}, ev_sl N (v :: t) → ev_sl N t := fun ht w hw => ht w (List.mem_cons_of_mem _ hw)
  unfold ev_so at h
  split at h
  all_goals first
    | (split at h
       · first
         | (cases h; exact ⟨ev_ll_s1 hl (hs _ List.mem_cons_self), t1 hs, ev_s1_len _ _ _⟩)
         | (cases h; exact ⟨ev_ll_s2 hl (hs _ List.mem_cons_self), t1 hs, ev_s2_len _ _ _⟩)
         | (cases h; exact ⟨ev_ll_s1 hl (fun a ha => by cases ha), hs, ev_s1_len _ _ _⟩)
       · cases h)
    | cases h
end EVP
end
section
/-! What is there from the start; soundness of the evaluator's steps over memory. -/
/-- the words that a callee keeps -/
def ev_gw : List Cond := lw_tbl.filter goodWord
theorem ev_gm {w : Cond} {p : Nat} (h : ev_w p = some w) (hg : goodWord w = true) : w ∈ ev_gw := List.mem_filter.mpr ⟨ev_mem h, hg⟩
theorem ev_ginit {w : Cond} (h : w ∈ tables_1_1.take 31) (hg : goodWord w = true) : w ∈ ev_gw := List.mem_filter.mpr ⟨ev_init h, hg⟩
theorem ev_gws {c : Nat} (h : c < 12) : ∀ w ∈ u_ws (ev_C c).1 (ev_C c).2.1 (ev_C c).2.2, w ∈ ev_gw := fun w hw => List.mem_filter.mpr ⟨ev_wsin h w hw, by
  obtain ⟨k, -, rfl⟩ := List.mem_map.mp hw
  unfold u_lay
  split <;> rfl⟩
def ev_sf (L : Nat) (xs : Nat → Int32) (a : Nat) : Option ev_E :=
  if a = 0 then some (ev_ia 0 6 (fun j => ([100, 9, 5, 3, 3, 1] : List Int32).getD j 0))
  else if a = 1 then some (ev_ia 0 6 (fun j => ([100, 9, 5, 3, 3, 1] : List Int32).getD j 0))
  else if a = 2 then some (ev_ia 0 L xs)
  else if a < ev_S then some (ev_ia 9 (ev_tb (a - 3)).length (fun j => (ev_tb (a - 3)).getD j 0))
  else none
/-- a text: its object, its bytes -/
def ev_St (k a : Nat) (A : Nat → Prop) (U : State) (H : Heap) : Prop := ∃ v : Nat, va_O "java/lang/String" a A U H ∧ va_OF "java/lang/String" "coder" "B" (.int 0) a A U H ∧ va_OF "java/lang/String" "value" "[B" (.ref v) a A U H ∧ va_T .byte v (ev_tb k).length (fun j => .int ((ev_tb k).getD j 0)) A U H
def ev_SH (L : Nat) (xs : Nat → Int32) (ad : Nat → Nat) (A : Nat → Prop) (U : State) (H : Heap) : Prop :=
  (∀ a N f, a < 3 → ev_sf L xs a = some (ev_ia 0 N f) → va_T .int (ad a) N (fun j => .int (f j)) A U H) ∧
  va_Z "LanternChess$Field" "VALUES" "[I" (.ref (ad 0)) A U H ∧ va_Z "LanternChess$Field" "VALUES" "[I" (.ref (ad 1)) A U H ∧
  (∀ k, k < 17 → ev_St k (ad (3 + k)) A U H) ∧
  va_Z "java/lang/String" "COMPACT_STRINGS" "Z" (.int 1) A U H ∧ va_Zq "jdk/internal/util/Preconditions" "SIOOBE_FORMATTER" "Ljava/util/function/BiFunction;" A U H
def ev_SU (ad : Nat → Nat) (U : State) : Prop :=
  (∀ e ∈ ev_sr, vk_R (ev_own e.1) e.2.1 e.2.2.1 (ad e.2.2.2.1) U) ∧ va_AO "LanternChess$Game" U
theorem ev_SH.moved {L : Nat} {xs : Nat → Int32} {ad : Nat → Nat} {A : Nat → Prop} {u U : State} {H : Heap} (hvm : u.vm.Alike U.vm) (h : ev_SH L xs ad A u H) : ev_SH L xs ad A U H := by
  obtain ⟨h1, h2, h3, h4, h5, h6⟩ := h
  exact ⟨fun a N f ha hf => (h1 a N f ha hf).moved hvm, h2.moved hvm, h3.moved hvm, fun k hk => by
    obtain ⟨v, q1, q2, q3, q4⟩ := h4 k hk
    exact ⟨v, q1.moved hvm, q2.moved hvm, q3.moved hvm, q4.moved hvm⟩, h5.moved hvm, h6.moved hvm⟩
theorem ev_SH.kept {L : Nat} {xs : Nat → Int32} {ad : Nat → Nat} {A : Nat → Prop} {U : State} {H H1 : Heap} (h : ev_SH L xs ad A U H) (hq : ∀ a : Nat, a < H.size → ¬ A a → H1[a]? = H[a]?) : ev_SH L xs ad A U H1 := by
  obtain ⟨h1, h2, h3, h4, h5, h6⟩ := h
  exact ⟨fun a N f ha hf => (h1 a N f ha hf).kept hq, h2.kept hq, h3.kept hq, fun k hk => by
    obtain ⟨v, q1, q2, q3, q4⟩ := h4 k hk
    exact ⟨v, q1.kept hq, q2.kept hq, q3.kept hq, q4.kept hq⟩, h5.kept hq, h6.kept hq⟩
theorem ev_SH.narrow {L : Nat} {xs : Nat → Int32} {ad : Nat → Nat} {A B : Nat → Prop} {U : State} {H : Heap} (h : ev_SH L xs ad A U H) (hAB : ∀ q, B q → A q) : ev_SH L xs ad B U H := by
  obtain ⟨h1, h2, h3, h4, h5, h6⟩ := h
  exact ⟨fun a N f ha hf => (h1 a N f ha hf).narrow hAB, h2.narrow hAB, h3.narrow hAB, fun k hk => by
    obtain ⟨v, q1, q2, q3, q4⟩ := h4 k hk
    exact ⟨v, q1.narrow hAB, q2.narrow hAB, q3.narrow hAB, q4.narrow hAB⟩, h5.narrow hAB, h6.narrow hAB⟩
theorem ev_SH.ad {L : Nat} {xs : Nat → Int32} {ad ad' : Nat → Nat} {A : Nat → Prop} {U : State} {H : Heap} (h : ev_SH L xs ad A U H) (he : ∀ a, a < ev_S → ad' a = ad a) : ev_SH L xs ad' A U H := by
  obtain ⟨h1, h2, h3, h4, h5⟩ := h
  have hS : ev_S = 20 := rfl
  exact ⟨fun a N f ha hf => by rw [he a (by omega)]; exact h1 a N f ha hf, by rw [he 0 (by omega)]; exact h2, by rw [he 1 (by omega)]; exact h3, fun k hk => by rw [he (3 + k) (by omega)]; exact h4 k hk, h5⟩
theorem ev_SU.warm {ad : Nat → Nat} {s U : State} (hW : s.WarmedH U.vm) (h : ev_SU ad s) : ev_SU ad U :=
  ⟨fun e he => (h.1 e he).warm hW, h.2.moved hW.alike⟩
theorem ev_SU.ad {ad ad' : Nat → Nat} {U : State} (h : ev_SU ad U) (he : ∀ a, a < ev_S → ad' a = ad a) : ev_SU ad' U := by
  have hb : ∀ e ∈ ev_sr, e.2.2.2.1 < ev_S := by decide +kernel
  exact ⟨fun e hm => by rw [he _ (hb e hm)]; exact h.1 e hm, h.2⟩
/-- memory and heap at one place of a walk -/
def ev_I (L : Nat) (xs : Nat → Int32) (D : va_G) (cA : Nat → ClassId) (A : Nat → Prop) (s : State) (ad : Nat → Nat) (μ : ev_H) (H : Heap) (locs : List Loc) : Prop :=
  ev_mw μ ∧ (∀ a, a < ev_S → μ.2 a = ev_sf L xs a) ∧ va_K D ev_cl (ev_tys cA) s ∧ va_P D ev_cl (ev_ws ad cA μ) H ∧ va_D A (ev_ws ad cA μ) ∧ va_S A s.heap H locs ∧ (∀ q, s.heap.size ≤ q → A q) ∧ ev_SH L xs ad A s s.heap ∧ ev_SU ad s
theorem ev_fl_ok {c idx ci k t p : Nat} (h : ev_fl c idx = some (ci, k, t, p)) : (c, idx, ci, k, t, p) ∈ ev_ft := by
  unfold ev_fl at h
  cases hf : ev_ft.find? (fun e => e.1 == c && e.2.1 == idx) with
  | none => rw [hf] at h; cases h
  | some e =>
    rw [hf] at h
    have h1 := List.find?_some hf
    have h2 := List.mem_of_find?_eq_some hf
    obtain ⟨e1, e2, e3⟩ := e
    simp only [Option.map_some, Option.some.injEq] at h
    simp only [Bool.and_eq_true, beq_iff_eq] at h1
    rw [← h1.1, ← h1.2, ← h]
    exact h2
theorem ev_ks_ok {c idx p : Nat} {v : Value} (h : ev_ks c idx = some (v, p)) : (c, idx, v, p) ∈ ev_kt := by
  unfold ev_ks at h
  cases hf : ev_kt.find? (fun e => e.1 == c && e.2.1 == idx) with
  | none => rw [hf] at h; cases h
  | some e =>
    rw [hf] at h
    have h1 := List.find?_some hf
    have h2 := List.mem_of_find?_eq_some hf
    obtain ⟨e1, e2, e3⟩ := e
    simp only [Option.map_some, Option.some.injEq] at h
    simp only [Bool.and_eq_true, beq_iff_eq] at h1
    rw [← h1.1, ← h1.2, ← h]
    exact h2
theorem ev_tx_ok {c idx a p : Nat} {t : String} (h : ev_tx c idx = some (t, a, p)) : (c, idx, t, a, p) ∈ ev_sr := by
  unfold ev_tx at h
  cases hf : ev_sr.find? (fun e => e.1 == c && e.2.1 == idx) with
  | none => rw [hf] at h; cases h
  | some e =>
    rw [hf] at h
    have h1 := List.find?_some hf
    have h2 := List.mem_of_find?_eq_some hf
    obtain ⟨e1, e2, e3⟩ := e
    simp only [Option.map_some, Option.some.injEq] at h
    simp only [Bool.and_eq_true, beq_iff_eq] at h1
    rw [← h1.1, ← h1.2, ← h]
    exact h2
theorem ev_nw_ok {c idx ci p : Nat} (h : ev_nw c idx = some (ci, p)) : (c, idx, ci, p) ∈ ev_nt := by
  unfold ev_nw at h
  cases hf : ev_nt.find? (fun e => e.1 == c && e.2.1 == idx) with
  | none => rw [hf] at h; cases h
  | some e =>
    rw [hf] at h
    have h1 := List.find?_some hf
    have h2 := List.mem_of_find?_eq_some hf
    obtain ⟨e1, e2, e3⟩ := e
    simp only [Option.map_some, Option.some.injEq] at h
    simp only [Bool.and_eq_true, beq_iff_eq] at h1
    rw [← h1.1, ← h1.2, ← h]
    exact h2
theorem ev_clget {c : Nat} (h : c < 12) : ev_cl[c]? = some ((ev_C c).1, (ev_C c).2.1, (ev_C c).2.2) := by
  have h1 : ∀ c, c < 12 → ev_cl[c]? = some (ev_C c) := fun c h => by
    unfold ev_C
    rw [List.getD_eq_getElem?_getD, List.getElem?_eq_getElem (show c < ev_cl.length from h)]
    rfl
  exact h1 c h
theorem ev_in_ok {i : Int32} {n : Nat} (h : ev_in i n = true) : vp_in i n := by unfold ev_in at h; unfold vp_in; exact of_decide_eq_true h
theorem ev_vl_nil {n : Nat} {v : Value} (h : ∀ a, v ≠ .ref a) : ev_vl n v := fun a ha => absurd ha (h a)
theorem ev_sl_cons {n : Nat} {v : Value} {st : List Value} (hv : ev_vl n v) (hs : ev_sl n st) : ev_sl n (v :: st) := fun w hw => by
  rcases List.mem_cons.mp hw with rfl | hw
  · exact hv
  · exact hs w hw
theorem ev_sl_tail {n : Nat} {v : Value} {st : List Value} (hs : ev_sl n (v :: st)) : ev_sl n st := fun w hw => hs w (List.mem_cons_of_mem _ hw)
theorem ev_sl_mono {n k : Nat} {st : List Value} (hs : ev_sl n st) (hk : n ≤ k) : ev_sl k st := fun w hw => ev_vl_mono (hs w hw) hk
theorem ev_ll_mono {n k : Nat} {lo : ev_L} (hs : ev_ll n lo) (hk : n ≤ k) : ev_ll k lo := fun j w hw => ev_vl_mono (hs j w hw) hk
/-- one cell is set: what stands then -/
theorem ev_I.set {L : Nat} {xs : Nat → Int32} {D : va_G} {cA : Nat → ClassId} {A : Nat → Prop} {s : State} {ad : Nat → Nat} {μ : ev_H} {H H1 : Heap} {locs locs1 : List Loc} {a : Nat} {e : ev_E} (h : ev_I L xs D cA A s ad μ H locs) (h1 : ev_S ≤ a) (h2 : a < μ.1) (he : ev_el μ.1 e)
    (hP : va_P D ev_cl ((ev_ws ad cA μ).set (a - ev_S) (ad a, ev_ce ad cA e)) H1) (hD : va_D A ((ev_ws ad cA μ).set (a - ev_S) (ad a, ev_ce ad cA e))) (hS : va_S A s.heap H1 locs1) : ev_I L xs D cA A s ad (μ.1, ev_up μ.2 a e) H1 locs1 := by
  rw [ev_ws_set h1 h2] at hP hD
  obtain ⟨q1, q2, q3, q4, q5, q6, q7, q8, q9⟩ := h
  exact ⟨ev_mw_set q1 h1 h2 he, fun b hb => by
    have : ¬ b = a := by omega
    simp only [ev_up, this, if_false]
    exact q2 b hb, q3, hP, hD, hS, q7, q8, q9⟩
/-- something is made: what stands then -/
theorem ev_I.push {L : Nat} {xs : Nat → Int32} {D : va_G} {cA : Nat → ClassId} {A : Nat → Prop} {s : State} {ad : Nat → Nat} {μ : ev_H} {H H1 : Heap} {locs locs1 : List Loc} {q : Nat} {e : ev_E} (h : ev_I L xs D cA A s ad μ H locs) (he : ev_el μ.1 e)
    (hP : va_P D ev_cl (ev_ws ad cA μ ++ [(q, ev_ce ad cA e)]) H1) (hD : va_D A (ev_ws ad cA μ ++ [(q, ev_ce ad cA e)])) (hS : va_S A s.heap H1 locs1) : ev_I L xs D cA A s (va_up ad μ.1 q) (μ.1 + 1, ev_up μ.2 μ.1 e) H1 locs1 := by
  obtain ⟨q1, q2, q3, q4, q5, q6, q7, q8, q9⟩ := h
  rw [ev_ws_push q1 he] at hP hD
  have h0 := q1.1
  have hag : ∀ a, a < ev_S → va_up ad μ.1 q a = ad a := fun a ha => by unfold va_up; rw [if_neg (by omega)]
  exact ⟨ev_mw_push q1 he, fun b hb => by
    have : ¬ b = μ.1 := by omega
    simp only [ev_up, this, if_false]
    exact q2 b hb, q3, hP, hD, hS, q7, q8.ad hag, q9.ad hag⟩
theorem ev_lr_ag {ad ad' : Nat → Nat} {ls : Array Slot} {lo : ev_L} {n : Nat} (h : ev_lr ad ls lo) (hl : ev_ll n lo) (hag : ∀ a, a < n → ad' a = ad a) : ev_lr ad' ls lo := by
  have hv : ∀ v, ev_vl n v → ev_v ad' v = ev_v ad v := fun v hv => by
    cases v with
    | ref a => show Value.ref (ad' a) = .ref (ad a); rw [hag a (hv a rfl)]
    | _ => rfl
  refine ⟨h.1, h.2.1, fun x hx => h.2.2 x ?_⟩
  obtain ⟨j, w, h1, h2, h3⟩ := ev_al_mem.mp hx
  exact ev_al_mem.mpr ⟨j, w, h1, h2, by rw [h3, hv w (hl j w h2)]⟩
theorem ev_st_ag {ad ad' : Nat → Nat} {st : List Value} {n : Nat} (h : ev_sl n st) (hag : ∀ a, a < n → ad' a = ad a) : st.map (ev_v ad') = st.map (ev_v ad) := List.map_congr_left fun v hv => by
  have h1 := h v hv
  cases v with
  | ref a => show Value.ref (ad' a) = .ref (ad a); rw [hag a (h1 a rfl)]
  | _ => rfl
theorem ev_new_lt : ∀ c, c < 12 → (ev_new c).length = (ev_C c).2.2 ∧ ∀ v ∈ ev_new c, (match v with | .ref _ => false | _ => true) = true := by decide +kernel
theorem ev_arrK {D : va_G} {cA : Nat → ClassId} {s : State} {t : Nat} {c1 : ClassId} {ty : FieldType} (h0 : va_K D ev_cl (ev_tys cA) s) (ht : (ev_tys cA)[t]? = some (cA t, ty)) (h1 : va_K D ev_cl (ev_tys cA ++ [(c1, ty)]) s) : c1 = cA t := by
  have a := (h0.2 t _ ht).2
  have b := (h1.2 4 (c1, ty) (by simp [ev_tys])).2
  cases ty with
  | object C =>
    obtain ⟨-, -, -, -, -, a4⟩ := a
    obtain ⟨-, -, -, -, -, b4⟩ := b
    exact Option.some.inj (b4.symm.trans a4)
  | _ => exact Option.some.inj (Eq.trans (Eq.symm b) a)
end
section
/-! Soundness of the evaluator's steps over memory. -/
def ev_tag (x : Option ev_E) : Nat := match x with
  | some (.inr (.inl (t, _, _))) => t
  | _ => 77
theorem ev_sf3 {L : Nat} {xs : Nat → Int32} {a t N : Nat} {f : Nat → Int32} (h : ev_sf L xs a = some (ev_ia t N f)) (ht : t ≤ 1) : a < 3 ∧ t = 0 := by
  have h1 : ev_tag (ev_sf L xs a) = t := by rw [h]; rfl
  unfold ev_sf at h1
  by_cases h0 : a = 0
  · rw [if_pos h0] at h1; exact ⟨by omega, h1.symm⟩
  · rw [if_neg h0] at h1
    by_cases h2 : a = 1
    · rw [if_pos h2] at h1; exact ⟨by omega, h1.symm⟩
    · rw [if_neg h2] at h1
      by_cases h3 : a = 2
      · rw [if_pos h3] at h1; exact ⟨by omega, h1.symm⟩
      · rw [if_neg h3] at h1
        by_cases h4 : a < ev_S
        · rw [if_pos h4] at h1
          have : 9 = t := h1
          omega
        · rw [if_neg h4] at h1
          have : 77 = t := h1
          omega
section EVM
variable {p : Program} {l : Launch} {e : Env} {R : Room} {s : State} {m : MethodId} {args : Array Value} {below : List Frame} {meth : Method} {c : Code} {H : Heap} {locs : List Loc} {cells slots : Nat} {Q : State → Prop}
variable {pc : Nat} {ls : Array Slot} {cc : ByteArray} {ad : Nat → Nat} {L : Nat} {xs : Nat → Int32} {D : va_G} {cA : Nat → ClassId} {A : Nat → Prop}
/-- the step's continuation -/
def ev_K (p : Program) (l : Launch) (e : Env) (R : Room) (s : State) (m : MethodId) (args : Array Value) (below : List Frame) (meth : Method) (c : Code) (cells slots : Nat) (Q : State → Prop) (L : Nat) (xs : Nat → Int32) (D : va_G) (cA : Nat → ClassId) (A : Nat → Prop) (ad : Nat → Nat) (n0 : Nat) (pc : Nat) (ls : Array Slot) (st : List Value) (μ : ev_H) : Prop :=
  ∀ (ad' : Nat → Nat) (H' : Heap) (locs' : List Loc), (∀ a, a < n0 → ad' a = ad a) → n0 ≤ μ.1 → ev_I L xs D cA A s ad' μ H' locs' → ev_sl μ.1 st → W p l e R s m args below meth c H' locs' cells slots Q (F0 m pc ls (st.map (ev_v ad')))
set_option maxHeartbeats 8000000 in
theorem ev_me_ok {M : Nat} (hx : p.tables.exec = Jvm.exec) (hb : c.code = cc) (hown : s.vm.findClass (ev_own (ev_ci M)) = some m.cls) (hts : ∀ w ∈ ev_gw, w.before args s = true) (hin2 : ev_kd M = 2 → meth.name = "<init>")
    {i : Instr} {n c0 s0 : Nat} {st st' : List Value} {μ μ' : ev_H} (h : ev_me (ev_ci M) (ev_kd M) i n st μ = some (c0, s0, st', μ')) (hI : ev_I L xs D cA A s ad μ H locs) (hs : ev_sl μ.1 st) (hR : cells + c0 ≤ R.cells ∧ slots + s0 ≤ R.slots) (hdg : decode cc pc = .ok (i, n))
    (k : ev_K p l e R s m args below meth c (cells + c0) (slots + s0) Q L xs D cA A ad μ.1 (pc + n) ls st' μ') : W p l e R s m args below meth c H locs cells slots Q (F0 m pc ls (st.map (ev_v ad))) := by
  have hI0 := hI
  obtain ⟨i1, i2, hK, hP, hD, hS, hA, i8, i9⟩ := hI
  have k0 : ∀ st1 : List Value, st1 = st' → μ = μ' → c0 = 0 → s0 = 0 → ev_sl μ.1 st1 → W p l e R s m args below meth c H locs cells slots Q (F0 m (pc + n) ls (st1.map (ev_v ad))) := by
    intro st1 e1 e2 e3 e4 h5
    subst e1; subst e2; subst e3; subst e4
    exact k ad H locs (fun _ _ => rfl) (Nat.le_refl _) hI0 h5
  have kS : ∀ {a : Nat} {e1 : ev_E} {st1 : List Value} {H1 : Heap} {locs1 : List Loc}, st1 = st' → (μ.1, ev_up μ.2 a e1) = μ' → c0 = 0 → s0 = 0 → ev_sl μ.1 st1 → ev_S ≤ a → a < μ.1 → ev_el μ.1 e1 → va_P D ev_cl ((ev_ws ad cA μ).set (a - ev_S) (ad a, ev_ce ad cA e1)) H1 → va_D A ((ev_ws ad cA μ).set (a - ev_S) (ad a, ev_ce ad cA e1)) → va_S A s.heap H1 locs1 → W p l e R s m args below meth c H1 locs1 cells slots Q (F0 m (pc + n) ls (st1.map (ev_v ad))) := by
    intro a e1 st1 H1 locs1 f1 f2 f3 f4 f5 f6 f7 f8 hP1 hD1 hS1
    subst f1; subst f2; subst f3; subst f4
    exact k ad H1 locs1 (fun _ _ => rfl) (Nat.le_refl _) (hI0.set f6 f7 f8 hP1 hD1 hS1) f5
  have kP : ∀ {e1 : ev_E} {st1 : List Value} {H1 : Heap} {q k1 k2 : Nat}, .ref μ.1 :: st1 = st' → (μ.1 + 1, ev_up μ.2 μ.1 e1) = μ' → k1 = c0 → k2 = s0 → ev_sl μ.1 st1 → ev_el μ.1 e1 → va_P D ev_cl (ev_ws ad cA μ ++ [(q, ev_ce ad cA e1)]) H1 → va_D A (ev_ws ad cA μ ++ [(q, ev_ce ad cA e1)]) → va_S A s.heap H1 locs → W p l e R s m args below meth c H1 locs (cells + k1) (slots + k2) Q (F0 m (pc + n) ls (.ref q :: st1.map (ev_v ad))) := by
    intro e1 st1 H1 q k1 k2 f1 f2 f3 f4 f5 f8 hP1 hD1 hS1
    subst f1; subst f2; subst f3; subst f4
    have hag : ∀ a, a < μ.1 → va_up ad μ.1 q a = ad a := fun a ha => by unfold va_up; rw [if_neg (by omega)]
    have h9 := k (va_up ad μ.1 q) H1 locs hag (Nat.le_succ _) (hI0.push f8 hP1 hD1 hS1) (ev_sl_cons (fun a ha => by cases ha; exact Nat.lt_succ_self _) (ev_sl_mono f5 (Nat.le_succ _)))
    rw [List.map_cons, ev_st_ag f5 hag] at h9
    have h10 : ev_v (va_up ad μ.1 q) (.ref μ.1) = .ref q := by show Value.ref (va_up ad μ.1 q μ.1) = .ref q; unfold va_up; rw [if_pos rfl]
    rw [h10] at h9
    exact h9
  have hws : ∀ {a : Nat} {e1 : ev_E}, ev_S ≤ a → μ.2 a = some e1 → (ev_ws ad cA μ)[a - ev_S]? = some (ad a, ev_ce ad cA e1) := fun h1 h2 => ev_ws_get i1 h1 h2
  have hlt : ∀ {a : Nat} {e1 : ev_E}, ev_S ≤ a → μ.2 a = some e1 → a < μ.1 ∧ ev_el μ.1 e1 := fun h1 h2 => i1.2.1 _ _ h1 h2
  unfold ev_me at h
  split at h
  · -- getfield
    rename_i idx a st
    split at h
    · rename_i ci kk t pp c2 fs hf hm
      split at h
      · rename_i hc
        obtain ⟨rfl, ha⟩ := hc
        split at h
        · rename_i v hv
          cases h
          obtain ⟨hw, hci, hk⟩ := ev_ft_ok _ (ev_fl_ok hf)
          have he := (hlt ha hm).2
          exact va_get (D := D) (own := ev_own (ev_ci M)) hx hb hts (ev_gws hci) hown hK hP (a - ev_S) (hws ha hm) (ev_clget hci) kk hk (hts _ (ev_gm hw rfl)) (fun _ h9 => h9) (v := ev_v ad v) (by rw [List.getElem?_map, hv]; rfl) hdg (k0 (v :: st) rfl rfl rfl rfl (ev_sl_cons (he.2.2 v (List.mem_of_getElem? hv)) (ev_sl_tail hs)))
        · cases h
      · cases h
    · cases h
  · -- putfield
    rename_i idx v a st
    split at h
    · rename_i ci kk t pp c2 fs hf hm
      split at h
      · rename_i hc
        obtain ⟨rfl, ha, hkl, hfit, hfin⟩ := hc
        cases h
        obtain ⟨hw, hci, hk⟩ := ev_ft_ok _ (ev_fl_ok hf)
        obtain ⟨ft0, ft1, ft2⟩ := ev_fty _ (ev_fl_ok hf)
        obtain ⟨hal, he⟩ := hlt ha hm
        have hty := ev_tyok c2 hci kk hk
        have hv : ev_vl μ.1 v := hs v List.mem_cons_self
        have hel : ev_el μ.1 (ev_ob c2 (fs.set kk v)) := ⟨hci, by rw [List.length_set]; exact he.2.1, fun w hw => by
          rcases List.mem_or_eq_of_mem_set hw with q | q
          · exact he.2.2 w q
          · rw [q]; exact hv⟩
        have hset : (fs.map (ev_v ad)).set kk (ev_v ad v) = (fs.set kk v).map (ev_v ad) := (List.map_set ..).symm
        have hnf : narrow (ev_ty c2 kk) (ev_v ad v) = ev_v ad v ∧ fits (ev_ty c2 kk) (ev_v ad v) = true := by
          unfold ev_fit at hfit
          dsimp only at ft0 ft1 ft2
          split at hfit
          · rw [ft0 rfl]; exact ⟨rfl, rfl⟩
          · rename_i x
            rw [ft1 rfl]
            rcases of_decide_eq_true hfit with q | q <;> (rw [q]; exact ⟨(by decide : narrow .boolean (.int _) = .int _), (by decide : fits .boolean (.int _) = true)⟩)
          · have h7 := ft2 rfl
            revert h7
            cases ev_ty c2 kk <;> intro h7 <;> first | exact ⟨rfl, rfl⟩ | (exact absurd h7 (by decide))
          · cases hfit
        rcases hfin with hfin | ⟨hfin, hfc⟩
        · by_cases hff : ((ev_C c2).2.1 kk).2.2.2 = false
          · exact va_put (D := D) (own := ev_own (ev_ci M)) hx hb hts (ev_gws hci) (ev_ty c2) (ev_tyok c2 hci) (ev_nmok c2 hci) hown hK hP hD hS (a - ev_S) (hws ha hm) (ev_clget hci) kk hk (hts _ (ev_gm hw rfl)) (fun _ h9 => h9) hff hty hnf.1 hnf.2 (by rw [List.length_map]; exact hkl) hdg (fun H1 locs1 hP1 hD1 hS1 => by
              rw [hset] at hP1 hD1
              exact kS rfl rfl rfl rfl (ev_sl_tail (ev_sl_tail hs)) ha hal hel hP1 hD1 hS1)
          · exact absurd hfin hff
        · by_cases hff : ((ev_C c2).2.1 kk).2.2.2 = false
          · exact va_put (D := D) (own := ev_own (ev_ci M)) hx hb hts (ev_gws hci) (ev_ty c2) (ev_tyok c2 hci) (ev_nmok c2 hci) hown hK hP hD hS (a - ev_S) (hws ha hm) (ev_clget hci) kk hk (hts _ (ev_gm hw rfl)) (fun _ h9 => h9) hff hty hnf.1 hnf.2 (by rw [List.length_map]; exact hkl) hdg (fun H1 locs1 hP1 hD1 hS1 => by
              rw [hset] at hP1 hD1
              exact kS rfl rfl rfl rfl (ev_sl_tail (ev_sl_tail hs)) ha hal hel hP1 hD1 hS1)
          · have hdc : ∀ c, c < 12 → ∀ k, k < (ev_C c).2.2 → ((ev_C c).2.1 k).1 = ev_own c := by decide +kernel
            exact va_putF (D := D) (own := ev_own (ev_ci M)) hx hb hts (ev_gws hci) (ev_ty c2) (ev_tyok c2 hci) (ev_nmok c2 hci) hown hK hP hD hS (a - ev_S) (hws ha hm) (ev_clget hci) kk hk (hts _ (ev_gm hw rfl)) (fun _ h9 => h9) (by simpa using hff) (hin2 hfin) (by rw [hfc]; exact hdc c2 hci kk hk) hty hnf.1 hnf.2 (by rw [List.length_map]; exact hkl) hdg (fun H1 locs1 hP1 hD1 hS1 => by
              rw [hset] at hP1 hD1
              exact kS rfl rfl rfl rfl (ev_sl_tail (ev_sl_tail hs)) ha hal hel hP1 hD1 hS1)
      · cases h
    · cases h
  · -- getstatic
    rename_i st idx
    split at h
    · rename_i hc
      cases h
      have hw := hts _ (ev_gm ev_pV_ok.1 rfl)
      rw [← hc.1, ← hc.2] at hw
      exact va_gets hx hb i8.2.1 hS hown hw (fun _ h9 => h9) hdg (k0 _ rfl rfl rfl rfl (ev_sl_cons (fun a ha => by cases ha; exact Nat.lt_of_lt_of_le (by decide) i1.1) hs))
    · cases h
  · -- iaload
    rename_i x a st
    split at h
    · rename_i t mm f hm
      split at h
      · rename_i hc
        obtain ⟨rfl, hin⟩ := hc
        cases h
        have hs2 := ev_sl_tail (ev_sl_tail hs)
        by_cases ha : ev_S ≤ a
        · exact va_iald hx hb hK hP (a - ev_S) 0 (hws ha hm) rfl (ev_in_ok hin) hdg (k0 (.int (f x.toNatClampNeg) :: st) rfl rfl rfl rfl (ev_sl_cons (ev_vl_nil (fun a ha => by cases ha)) hs2))
        · have hsa : ev_sf L xs a = some (ev_ia 0 mm f) := by rw [← i2 a (by omega)]; exact hm
          have ha3 : a < 3 := by
            refine Nat.lt_of_not_le fun h3 => ?_
            unfold ev_sf at hsa
            rw [if_neg (by omega), if_neg (by omega), if_neg (by omega), if_pos (by omega)] at hsa
            cases hsa
          exact va_ti hx hb (i8.1 a mm f ha3 hsa) hS (ev_in_ok hin) rfl hdg (k0 (.int (f x.toNatClampNeg) :: st) rfl rfl rfl rfl (ev_sl_cons (ev_vl_nil (fun a ha => by cases ha)) hs2))
      · cases h
    · cases h
  · -- baload
    rename_i x a st
    split at h
    · rename_i t mm f hm
      split at h
      · rename_i hc
        obtain ⟨rfl, hin, ha⟩ := hc
        cases h
        exact va_bald hx hb hK hP (a - ev_S) 1 (hws ha hm) rfl (ev_in_ok hin) hdg (k0 (.int (f x.toNatClampNeg) :: st) rfl rfl rfl rfl (ev_sl_cons (ev_vl_nil (fun a ha => by cases ha)) (ev_sl_tail (ev_sl_tail hs))))
      · cases h
    · cases h
  · -- aaload
    rename_i x a st
    split at h
    · rename_i mm f hm
      split at h
      · rename_i hc
        obtain ⟨hin, ha⟩ := hc
        cases h
        have hel := (hlt ha hm).2
        have h9 := k0 (va_rf (f x.toNatClampNeg) :: st) rfl rfl rfl rfl (ev_sl_cons (fun b hb9 => by
          cases hf : f x.toNatClampNeg with
          | none => rw [hf] at hb9; cases hb9
          | some d => rw [hf] at hb9; cases hb9; exact hel _ _ hf) (ev_sl_tail (ev_sl_tail hs)))
        rw [List.map_cons, ev_v_rf] at h9
        exact va_aldq hx hb hK hP (a - ev_S) 3 (hws ha hm) rfl (ev_in_ok hin) hdg h9
      · cases h
    · cases h
  · -- iastore
    rename_i v x a st
    split at h
    · rename_i t mm f hm
      split at h
      · rename_i hc
        obtain ⟨rfl, hin, ha⟩ := hc
        cases h
        exact va_iast hx hb hK hP hD hS (a - ev_S) 0 (hws ha hm) rfl (ev_in_ok hin) hdg (fun H1 locs1 hP1 hD1 hS1 => kS (e1 := ev_ia 0 mm (upd f x.toNatClampNeg v)) rfl rfl rfl rfl (ev_sl_tail (ev_sl_tail (ev_sl_tail hs))) ha (hlt ha hm).1 (Nat.zero_le _) hP1 hD1 hS1)
      · cases h
    · cases h
  · -- bastore
    rename_i v x a st
    split at h
    · rename_i t mm f hm
      split at h
      · rename_i hc
        obtain ⟨rfl, hin, ha⟩ := hc
        cases h
        exact va_bast hx hb hK hP hD hS (a - ev_S) 1 (hws ha hm) rfl (ev_in_ok hin) hdg (fun H1 locs1 hP1 hD1 hS1 => kS (e1 := ev_ia 1 mm (upd f x.toNatClampNeg v.toInt8.toInt32)) rfl rfl rfl rfl (ev_sl_tail (ev_sl_tail (ev_sl_tail hs))) ha (hlt ha hm).1 (Nat.le_refl _) hP1 hD1 hS1)
      · cases h
    · cases h
  · -- aastore
    rename_i v x a st
    split at h
    · rename_i mm f c2 fs hm hm2
      split at h
      · rename_i hc
        obtain ⟨rfl, hin, ha, hv⟩ := hc
        cases h
        have hup : (fun i => (va_up f x.toNatClampNeg (some v) i).map ad) = va_up (fun i => (f i).map ad) x.toNatClampNeg (some (ad v)) := by
          funext i
          unfold va_up
          split <;> rfl
        exact va_astq hx hb hK hP hD hS (a - ev_S) 3 (v - ev_S) 3 (r := ((ev_C 3).1, (ev_C 3).2.1, (ev_C 3).2.2)) (hws ha hm) rfl (hws hv hm2) (ev_clget (by decide)) (ev_in_ok hin) hdg (fun H1 locs1 hP1 hD1 hS1 => kS (e1 := ev_ra mm (va_up f x.toNatClampNeg (some v))) rfl rfl rfl rfl (ev_sl_tail (ev_sl_tail (ev_sl_tail hs))) ha (hlt ha hm).1 (fun i b hb9 => by
          unfold va_up at hb9
          split at hb9
          · cases hb9; exact (hlt hv hm2).1
          · exact (hlt ha hm).2 i b hb9) (by show va_P D ev_cl ((ev_ws ad cA μ).set (a - ev_S) (ad a, .inl (cA 3, mm, .inr (.inr (.inr (.inr (fun i => (va_up f x.toNatClampNeg (some v) i).map ad))))))) H1; rw [hup]; exact hP1) (by show va_D A ((ev_ws ad cA μ).set (a - ev_S) (ad a, .inl (cA 3, mm, .inr (.inr (.inr (.inr (fun i => (va_up f x.toNatClampNeg (some v) i).map ad))))))); rw [hup]; exact hD1) hS1)
      · cases h
    · cases h
  · -- arraylength
    rename_i a st
    split at h
    · rename_i t mm f hm
      split at h
      · rename_i hc
        cases h
        have h9 := k0 (.int (Int32.ofNat mm) :: st) rfl rfl rfl rfl (ev_sl_cons (ev_vl_nil (fun a ha => by cases ha)) (ev_sl_tail hs))
        by_cases ha : ev_S ≤ a
        · have ht : t = 0 ∨ t = 1 := by omega
          rcases ht with rfl | rfl
          · exact va_alen hx hb hK hP (a - ev_S) 0 (hws ha hm) (ty := .int) rfl rfl hdg h9
          · exact va_alen hx hb hK hP (a - ev_S) 1 (hws ha hm) (ty := .byte) rfl rfl hdg h9
        · have hsa : ev_sf L xs a = some (ev_ia t mm f) := by rw [← i2 a (by omega)]; exact hm
          have ha3 : a < 3 ∧ t = 0 := ev_sf3 hsa hc
          obtain ⟨ha3, rfl⟩ := ha3
          exact va_tlen hx hb (i8.1 a mm f ha3 hsa) hS rfl hdg h9
      · cases h
    · cases h
  · -- newarray int
    rename_i kk st
    split at h
    · cases h
    · rename_i hc
      cases h
      exact va_newa (ty := .int) hx hb (hts _ (ev_gm ev_pA_ok.1 rfl)) rfl hK hP hD hS hA (a0 := (kk.toNatClampNeg, .inl (fun _ => 0))) (N' := kk.toNatClampNeg) (fun _ => rfl) (fun z => hc (Or.inl z)) rfl (by rw [show componentBytes .int = 4 from rfl]; omega) hR.1 hR.2 hdg (fun q c1 H1 hK1 hP1 hD1 hS1 => by
        have e1 := ev_arrK hK (t := 0) rfl hK1
        subst e1
        exact kP (e1 := ev_ia 0 kk.toNatClampNeg (fun _ => 0)) rfl rfl rfl rfl (ev_sl_tail hs) (Nat.zero_le _) hP1 hD1 hS1)
  · rename_i kk st
    split at h
    · cases h
    · rename_i hc
      cases h
      exact va_newa (ty := .byte) hx hb (hts _ (ev_gm ev_pA_ok.2.1 rfl)) rfl hK hP hD hS hA (a0 := (kk.toNatClampNeg, .inl (fun _ => 0))) (N' := kk.toNatClampNeg) (fun _ => rfl) (fun z => hc (Or.inl z)) rfl (by rw [show componentBytes .byte = 1 from rfl]; omega) hR.1 hR.2 hdg (fun q c1 H1 hK1 hP1 hD1 hS1 => by
        have e1 := ev_arrK hK (t := 1) rfl hK1
        subst e1
        exact kP (e1 := ev_ia 1 kk.toNatClampNeg (fun _ => 0)) rfl rfl rfl rfl (ev_sl_tail hs) (Nat.le_refl _) hP1 hD1 hS1)
  · -- anewarray
    rename_i idx kk st
    split at h
    · rename_i hc
      obtain ⟨hc1, hc2, hc⟩ := hc
      cases h
      have hw := hts _ (ev_gm ev_pO_ok.2 rfl)
      rw [← hc1, ← hc2] at hw
      exact va_newq hx hb hown hw (i9.2) hK hP hD hS hA (N' := kk.toNatClampNeg) (fun z => hc (Or.inl z)) rfl (by omega) hR.1 hR.2 hdg (fun q c1 H1 hK1 hP1 hD1 hS1 => by
        have e1 := ev_arrK hK (t := 3) rfl hK1
        subst e1
        exact kP (e1 := ev_ra kk.toNatClampNeg (fun _ => none)) rfl rfl rfl rfl (ev_sl_tail hs) (fun i b hb9 => by cases hb9) hP1 hD1 hS1)
    · cases h
  · -- new
    rename_i st idx
    split at h
    · rename_i ci pp hn
      cases h
      obtain ⟨hw, hci⟩ := ev_nt_ok _ (ev_nw_ok hn)
      obtain ⟨l1, l2, l3, l4⟩ := ev_lay ci hci
      obtain ⟨n1, n2⟩ := ev_new_lt ci hci
      have hn0 : ∀ v ∈ ev_new ci, (∀ a, v ≠ .ref a) := fun v hv a ha => by
        have := n2 v hv
        rw [ha] at this
        cases this
      have hmap : (ev_new ci).map (ev_v ad) = ev_new ci := by
        have h1 : ∀ v ∈ ev_new ci, ev_v ad v = v := fun v hv => by
          have := hn0 v hv
          cases v with
          | ref a => exact absurd rfl (this a)
          | _ => rfl
        rw [List.map_congr_left h1, List.map_id']
      exact va_new (D := D) (ci := ci) (own := ev_own (ev_ci M)) (fs := ev_new ci) hx hb hts (ev_gws hci) (ev_ty ci) (ev_tyok ci hci) hown (by rw [l3]; exact hts _ (ev_gm hw rfl)) (hts _ (ev_gm l2 rfl)) (hts _ (ev_ginit l4 rfl)) hK hP hD hS hA (ev_clget hci) (ev_newok ci hci) hR.1 hR.2 hdg (fun q H1 hP1 hD1 hS1 => by
        have e2 : ev_ce ad cA (ev_ob ci (ev_new ci)) = .inr (ci, ev_new ci) := by show (Sum.inr (ci, (ev_new ci).map (ev_v ad)) : va_E) = _; rw [hmap]
        refine kP (e1 := ev_ob ci (ev_new ci)) rfl rfl rfl rfl hs ⟨hci, n1, fun v hv => ev_vl_nil (hn0 v hv)⟩ ?_ ?_ hS1
        · rw [e2]; exact hP1
        · rw [e2]; exact hD1)
    · cases h
  · -- ldc
    rename_i st idx
    split at h
    · rename_i v pp hk9
      cases h
      have h1 := ev_kt_ok _ (ev_ks_ok ‹_›)
      exact lv_ldc hx hb hown (hts _ (ev_gm (of_decide_eq_true h1) rfl)) hdg (k0 _ rfl rfl rfl rfl (ev_sl_cons (ev_vl_nil (fun a ha => by cases ha)) hs))
    · rename_i tx a pp hn ht
      cases h
      have h1 := i9.1 _ (ev_tx_ok ht)
      have hb9 : ∀ e ∈ ev_sr, e.2.2.2.1 < ev_S := by decide +kernel
      exact va_ldcS hx hb hown h1 hdg (k0 _ rfl rfl rfl rfl (ev_sl_cons (fun b hb8 => by cases hb8; exact Nat.lt_of_lt_of_le (hb9 _ (ev_tx_ok ht)) i1.1) hs))
    · cases h
  · -- ldc_w
    rename_i st idx
    split at h
    · rename_i v pp hk9
      cases h
      have h1 := ev_kt_ok _ (ev_ks_ok ‹_›)
      exact lv_ldcw hx hb hown (hts _ (ev_gm (of_decide_eq_true h1) rfl)) hdg (k0 _ rfl rfl rfl rfl (ev_sl_cons (ev_vl_nil (fun a ha => by cases ha)) hs))
    · rename_i tx a pp hn ht
      cases h
      have h1 := i9.1 _ (ev_tx_ok ht)
      have hb9 : ∀ e ∈ ev_sr, e.2.2.2.1 < ev_S := by decide +kernel
      have h9 := k0 _ rfl rfl rfl rfl (ev_sl_cons (fun b hb8 => by cases hb8; exact Nat.lt_of_lt_of_le (hb9 _ (ev_tx_ok ht)) i1.1) hs)
      intro T hT X
      obtain ⟨t, a1, b1⟩ := h9 T hT X
      exact ⟨t, X.ldcStringW hx hown h1.1 h1.2 (g := F0 m pc ls _) rfl (by rw [hb]; exact hdg) t a1, b1⟩
    · cases h
  · -- ldc2_w
    rename_i st idx
    split at h
    · rename_i v pp hk9
      cases h
      have h1 := ev_kt_ok _ (ev_ks_ok ‹_›)
      exact lv_ldc2 hx hb hown (hts _ (ev_gm (of_decide_eq_true h1) rfl)) hdg (k0 _ rfl rfl rfl rfl (ev_sl_cons (ev_vl_nil (fun a ha => by cases ha)) hs))
    · cases h
  · cases h
end EVM
end
section
/-! The texts' own methods: length, charAt, over a text that nobody writes. -/
def ev_Js (N : Nat) (fx : Nat → Int32) (a v : Nat) (U : State) (H : Heap) : Prop := va_O "java/lang/String" a (fun _ => False) U H ∧ va_OF "java/lang/String" "coder" "B" (.int 0) a (fun _ => False) U H ∧ va_OF "java/lang/String" "value" "[B" (.ref v) a (fun _ => False) U H ∧ va_T .byte v N (fun j => .int (fx j)) (fun _ => False) U H ∧ va_Z "java/lang/String" "COMPACT_STRINGS" "Z" (.int 1) (fun _ => False) U H ∧ va_Zq "jdk/internal/util/Preconditions" "SIOOBE_FORMATTER" "Ljava/util/function/BiFunction;" (fun _ => False) U H
theorem ev_Js.moved {N : Nat} {fx : Nat → Int32} {a v : Nat} {u U : State} {H : Heap} (hvm : u.vm.Alike U.vm) (h : ev_Js N fx a v u H) : ev_Js N fx a v U H := ⟨h.1.moved hvm, h.2.1.moved hvm, h.2.2.1.moved hvm, h.2.2.2.1.moved hvm, h.2.2.2.2.1.moved hvm, h.2.2.2.2.2.moved hvm⟩
theorem ev_Js.kept {N : Nat} {fx : Nat → Int32} {a v : Nat} {U : State} {H H1 : Heap} (h : ev_Js N fx a v U H) (hq : ∀ a : Nat, a < H.size → ¬ False → H1[a]? = H[a]?) : ev_Js N fx a v U H1 := ⟨h.1.kept hq, h.2.1.kept hq, h.2.2.1.kept hq, h.2.2.2.1.kept hq, h.2.2.2.2.1.kept hq, h.2.2.2.2.2.kept hq⟩
def ev_jP (args : List Value) (F : State → Heap → Prop) : Array Value → State → Prop := va_Pc args (fun U => F U U.heap)
def ev_jQ (v : Int32) : Array Value → State → Outcome → State → Prop := va_Qi (fun (r : Int32) (_ : Unit) => r = v) (fun _ _ => True) (fun _ => False)
def ev_jV : Array Value → State → Outcome → State → Prop := va_Qv (fun (_ : Unit) => True) (fun _ _ => True) (fun _ => False)
theorem ev_gi {a b : List Cond} {w : Cond} (ha : ∀ x ∈ a, x ∈ w :: ev_gw ∧ goodWord x = true) (hb : ∀ x ∈ b, x ∈ ev_gw) : GoodIn (w :: ev_gw) (a ++ b) := fun x hx => by
  rcases List.mem_append.mp hx with h | h
  · exact ⟨(ha x h).1, good_of_word (ha x h).2⟩
  · exact ⟨List.mem_cons_of_mem _ (hb x h), good_of_word (List.mem_filter.mp (hb x h)).2⟩
theorem ev_gwg {x : Cond} (h : x ∈ ev_gw) : (x.onTables && x.keeps) = true ∨ ∃ ty, x = .arrayClass ty := good_of_word (List.mem_filter.mp h).2
/-- a callee's words out of a caller's -/
theorem ev_gV {w0 : Cond} {own C : String} {idx : Nat} {y : MethodName} {cc : ByteArray} {mx : Nat} {rt : Option FieldType} (h1 : Cond.methodLink own idx y ∈ ev_gw) (h2 : Cond.instanceMethod y ∈ ev_gw) (h3 : Cond.selects C y y ∈ ev_gw) (h4 : Cond.initialized C ∈ ev_gw) (h5 : Cond.code y cc mx rt ∈ ev_gw) : GoodIn ev_gw (wsV own idx C y (Cond.code y cc mx rt :: ev_gw)) := by
  intro x hx
  unfold wsV at hx
  simp only [List.cons_append, List.nil_append, List.mem_cons] at hx
  rcases hx with rfl | rfl | rfl | rfl | rfl | hx
  · exact ⟨h1, ev_gwg h1⟩
  · exact ⟨h2, ev_gwg h2⟩
  · exact ⟨h3, ev_gwg h3⟩
  · exact ⟨h4, ev_gwg h4⟩
  · exact ⟨h5, ev_gwg h5⟩
  · exact ⟨hx, ev_gwg hx⟩
theorem ev_gS {own : String} {idx : Nat} {y : MethodName} {cc : ByteArray} {mx : Nat} {rt : Option FieldType} (h1 : Cond.methodLink own idx y ∈ ev_gw) (h2 : Cond.static y ∈ ev_gw) (h4 : Cond.initialized y.cls ∈ ev_gw) (h5 : Cond.code y cc mx rt ∈ ev_gw) : GoodIn ev_gw (va_wsS own idx y (Cond.code y cc mx rt :: ev_gw)) := by
  intro x hx
  unfold va_wsS at hx
  simp only [List.cons_append, List.nil_append, List.mem_cons] at hx
  rcases hx with rfl | rfl | rfl | rfl | hx
  · exact ⟨h1, ev_gwg h1⟩
  · exact ⟨h2, ev_gwg h2⟩
  · exact ⟨h4, ev_gwg h4⟩
  · exact ⟨h5, ev_gwg h5⟩
  · exact ⟨hx, ev_gwg hx⟩
abbrev yj_isLatin1 : MethodName := ⟨"java/lang/String", "isLatin1", "()Z"⟩
set_option maxHeartbeats 4000000 in
set_option maxRecDepth 100000 in
theorem ej_isLatin1 (l : Launch) (N : Nat) (fx : Nat → Int32) (a v : Nat) : Met l yj_isLatin1 (Cond.code yj_isLatin1 prog_28_method_154_code 1 (some .boolean) :: ev_gw) ({ frames := 0, cells := 0, slots := 0, locals := 0 }) (ev_jP [.ref a] (fun U H => ev_Js N fx a v U H)) (ev_jQ 1) 0 0 (fun _ => False) := by
  refine Met.ofW (cc := prog_28_method_154_code) (maxL := 1) (ret := (some .boolean)) (by decide) rfl ?_
  intro p e s m args below meth c s₁ B hml hv
  obtain ⟨rfl, hpre⟩ := hv
  have hx := B.exec
  have hb := B.bytes
  have hr := B.returns
  have hts0 := atoms_spec (ws := Cond.code yj_isLatin1 prog_28_method_154_code 1 (some .boolean) :: ev_gw) B.pre
  have hts : ∀ w ∈ ev_gw, w.before _ s = true := fun w hw => hts0 w (List.mem_cons_of_mem _ hw)
  have hown : s.vm.findClass "java/lang/String" = some m.cls := findClass_of_methodNamed B.named
  have hlocks := B.notSynchronized
  have hS : va_S (fun _ => False) s.heap s.heap [] := va_S.rf
  have hl := lv_entry ([.ref a]) (n := 1) (Nat.le_of_ble_eq_true rfl)
  rw [lg_entry_eq]
  generalize (lg_sl ([.ref a]) ++ List.replicate (1 - (lg_sl ([.ref a])).length) Slot.unset).toArray = ls at hl ⊢
  have hl : lv_has ls 1 [(0, .ref a)] := hl
  have d0 : decode prog_28_method_154_code 0 = .ok (.getstatic 38, 3) := by decide +kernel
  have d3 : decode prog_28_method_154_code 3 = .ok (.ifCond .eq (14), 3) := by decide +kernel
  have d6 : decode prog_28_method_154_code 6 = .ok (.aload_n 0, 1) := by decide +kernel
  have d7 : decode prog_28_method_154_code 7 = .ok (.getfield 15, 3) := by decide +kernel
  have d10 : decode prog_28_method_154_code 10 = .ok (.ifCond .ne (7), 3) := by decide +kernel
  have d13 : decode prog_28_method_154_code 13 = .ok (.iconst 1, 1) := by decide +kernel
  have d14 : decode prog_28_method_154_code 14 = .ok (.goto (4), 3) := by decide +kernel
  have d17 : decode prog_28_method_154_code 17 = .ok (.iconst 0, 1) := by decide +kernel
  have d18 : decode prog_28_method_154_code 18 = .ok (.ireturn, 1) := by decide +kernel
  refine va_gets hx hb hpre.2.2.2.2.1 hS hown (hts _ (ev_gm (p := 13215) (by decide +kernel) rfl)) (fun _ h9 => h9) d0 ?_
  refine lv_if_eq (tgt := 17) hx hb d3 (by decide) (fun z => absurd z (by decide)) (fun _ => ?_)
  refine lv_aload_n hx hb d6 rfl (lv_at hl 0 rfl) ?_
  refine vk_getf hx hb hpre.2.1 hS hown (hts _ (ev_gm (p := 15137) (by decide +kernel) rfl)) (fun _ h9 => h9) d7 ?_
  refine lv_if_ne (tgt := 17) hx hb d10 (by decide) (fun z => absurd rfl z) (fun _ => ?_)
  refine lv_iconst (v := 1) hx hb d13 (by decide) ?_
  refine lv_goto (tgt := 18) hx hb d14 (by decide) ?_
  exact W.zret hx hb hr (by first | rfl | decide) (fun t ht hW => ⟨⟨_, (), rfl, rfl, trivial⟩, hS.F ht⟩) hS.2.2 d18
abbrev yj_coder : MethodName := ⟨"java/lang/String", "coder", "()B"⟩
set_option maxHeartbeats 4000000 in
set_option maxRecDepth 100000 in
theorem ej_coder (l : Launch) (N : Nat) (fx : Nat → Int32) (a v : Nat) : Met l yj_coder (Cond.code yj_coder prog_28_method_152_code 1 (some .byte) :: ev_gw) ({ frames := 0, cells := 0, slots := 0, locals := 0 }) (ev_jP [.ref a] (fun U H => ev_Js N fx a v U H)) (ev_jQ 0) 0 0 (fun _ => False) := by
  refine Met.ofW (cc := prog_28_method_152_code) (maxL := 1) (ret := (some .byte)) (by decide) rfl ?_
  intro p e s m args below meth c s₁ B hml hv
  obtain ⟨rfl, hpre⟩ := hv
  have hx := B.exec
  have hb := B.bytes
  have hr := B.returns
  have hts0 := atoms_spec (ws := Cond.code yj_coder prog_28_method_152_code 1 (some .byte) :: ev_gw) B.pre
  have hts : ∀ w ∈ ev_gw, w.before _ s = true := fun w hw => hts0 w (List.mem_cons_of_mem _ hw)
  have hown : s.vm.findClass "java/lang/String" = some m.cls := findClass_of_methodNamed B.named
  have hlocks := B.notSynchronized
  have hS : va_S (fun _ => False) s.heap s.heap [] := va_S.rf
  have hl := lv_entry ([.ref a]) (n := 1) (Nat.le_of_ble_eq_true rfl)
  rw [lg_entry_eq]
  generalize (lg_sl ([.ref a]) ++ List.replicate (1 - (lg_sl ([.ref a])).length) Slot.unset).toArray = ls at hl ⊢
  have hl : lv_has ls 1 [(0, .ref a)] := hl
  have d0 : decode prog_28_method_152_code 0 = .ok (.getstatic 38, 3) := by decide +kernel
  have d3 : decode prog_28_method_152_code 3 = .ok (.ifCond .eq (10), 3) := by decide +kernel
  have d6 : decode prog_28_method_152_code 6 = .ok (.aload_n 0, 1) := by decide +kernel
  have d7 : decode prog_28_method_152_code 7 = .ok (.getfield 15, 3) := by decide +kernel
  have d10 : decode prog_28_method_152_code 10 = .ok (.goto (4), 3) := by decide +kernel
  have d13 : decode prog_28_method_152_code 13 = .ok (.iconst 1, 1) := by decide +kernel
  have d14 : decode prog_28_method_152_code 14 = .ok (.ireturn, 1) := by decide +kernel
  refine va_gets hx hb hpre.2.2.2.2.1 hS hown (hts _ (ev_gm (p := 13215) (by decide +kernel) rfl)) (fun _ h9 => h9) d0 ?_
  refine lv_if_eq (tgt := 13) hx hb d3 (by decide) (fun z => absurd z (by decide)) (fun _ => ?_)
  refine lv_aload_n hx hb d6 rfl (lv_at hl 0 rfl) ?_
  refine vk_getf hx hb hpre.2.1 hS hown (hts _ (ev_gm (p := 15137) (by decide +kernel) rfl)) (fun _ h9 => h9) d7 ?_
  refine lv_goto (tgt := 14) hx hb d10 (by decide) ?_
  exact W.zret hx hb hr (by first | rfl | decide) (fun t ht hW => ⟨⟨_, (), rfl, rfl, trivial⟩, hS.F ht⟩) hS.2.2 d14
abbrev yj_length : MethodName := ⟨"java/lang/String", "length", "()I"⟩
set_option maxHeartbeats 4000000 in
set_option maxRecDepth 100000 in
theorem ej_length (l : Launch) (N : Nat) (fx : Nat → Int32) (a v : Nat) : Met l yj_length (Cond.code yj_length prog_28_method_54_code 1 (some .int) :: ev_gw) ({ frames := 1, cells := 0, slots := 0, locals := 20 }) (ev_jP [.ref a] (fun U H => ev_Js N fx a v U H ∧ N < 2 ^ 31)) (ev_jQ (Int32.ofNat N)) 0 0 (fun _ => False) := by
  refine Met.ofW (cc := prog_28_method_54_code) (maxL := 1) (ret := (some .int)) (by decide) rfl ?_
  intro p e s m args below meth c s₁ B hml hv
  obtain ⟨rfl, hpre⟩ := hv
  have hx := B.exec
  have hb := B.bytes
  have hr := B.returns
  have hts0 := atoms_spec (ws := Cond.code yj_length prog_28_method_54_code 1 (some .int) :: ev_gw) B.pre
  have hts : ∀ w ∈ ev_gw, w.before _ s = true := fun w hw => hts0 w (List.mem_cons_of_mem _ hw)
  have hown : s.vm.findClass "java/lang/String" = some m.cls := findClass_of_methodNamed B.named
  have hlocks := B.notSynchronized
  have hS : va_S (fun _ => False) s.heap s.heap [] := va_S.rf
  have hl := lv_entry ([.ref a]) (n := 1) (Nat.le_of_ble_eq_true rfl)
  rw [lg_entry_eq]
  generalize (lg_sl ([.ref a]) ++ List.replicate (1 - (lg_sl ([.ref a])).length) Slot.unset).toArray = ls at hl ⊢
  have hl : lv_has ls 1 [(0, .ref a)] := hl
  have d0 : decode prog_28_method_54_code 0 = .ok (.aload_n 0, 1) := by decide +kernel
  have d1 : decode prog_28_method_54_code 1 = .ok (.getfield 9, 3) := by decide +kernel
  have d4 : decode prog_28_method_54_code 4 = .ok (.arraylength, 1) := by decide +kernel
  have d5 : decode prog_28_method_54_code 5 = .ok (.aload_n 0, 1) := by decide +kernel
  have d6 : decode prog_28_method_54_code 6 = .ok (.invokevirtual 335, 3) := by decide +kernel
  have d9 : decode prog_28_method_54_code 9 = .ok (.ishr, 1) := by decide +kernel
  have d10 : decode prog_28_method_54_code 10 = .ok (.ireturn, 1) := by decide +kernel
  obtain ⟨hpre, hlen⟩ := hpre
  refine lv_aload_n hx hb d0 rfl (lv_at hl 0 rfl) ?_
  refine vk_getf hx hb hpre.2.2.1 hS hown (hts _ (ev_gm (p := 15136) (by decide +kernel) rfl)) (fun _ h9 => h9) d1 ?_
  refine va_tlen hx hb hpre.2.2.2.1 hS rfl d4 ?_
  refine lv_aload_n hx hb d5 rfl (lv_at hl 0 rfl) ?_
  refine va_calli (va_runV (As := []) (rest := [.int (Int32.ofNat N)]) ⟨hx, hb, hml, hown, hts⟩ (ej_coder l N fx a v) (cwV 0 hts (ev_gV (w0 := .tt) (ev_gm (p := 13211) (by decide +kernel) rfl) (ev_gm (p := 13212) (by decide +kernel) rfl) (ev_gm (p := 13213) (by decide +kernel) rfl) (ev_ginit (by decide +kernel) rfl) (ev_gm (p := 13214) (by decide +kernel) rfl)) rfl rfl rfl (by decide +kernel) ⟨Nat.le_of_ble_eq_true rfl, Nat.le_of_ble_eq_true rfl⟩) ⟨fun a U g mk q => ⟨q.1, ev_Js.moved (Vm.Alike.refl U.vm) q.2⟩, va_Orecv hpre.1 hS, fun U hU hW => ⟨rfl, by show ev_Js N fx a v U U.heap; rw [hU]; exact (hpre).moved hW.alike⟩⟩ rfl rfl hl.1 rfl (lv_room (Nat.le_of_ble_eq_true rfl)) d6 ⟨Nat.le_refl _, Nat.le_refl _⟩) hS (fun q _ h => h) (fun q h => h) (fun r u t H1 locs1 ht hvm hw hB hz1 hk1 hS => ?_)
  have hw : r = 0 := hw
  subst hw
  refine lv_ishr hx hb d9 ?_
  have hz : Int32.ofNat N >>> ((0 : Int32) &&& 31) = Int32.ofNat N := sb_shr0 _
  rw [hz]
  exact W.iret hx hb hr (fun t ht hW => ⟨⟨_, (), rfl, rfl, trivial⟩, hS.F ht⟩) hS.2.2 d10
abbrev yj_pcheckN : MethodName := ⟨"jdk/internal/util/Preconditions", "checkIndex", "(IILjava/util/function/BiFunction;)I"⟩
set_option maxHeartbeats 4000000 in
set_option maxRecDepth 100000 in
theorem ej_pcheckN (l : Launch) (i n : Int32) (h0 : ¬ i < 0) (h1 : i < n) : Met l yj_pcheckN (Cond.code yj_pcheckN prog_39_method_11_code 3 (some .int) :: ev_gw) ({ frames := 0, cells := 0, slots := 0, locals := 0 }) (ev_jP [.int i, .int n, .null] (fun U H => True)) (ev_jQ i) 0 0 (fun _ => False) := by
  refine Met.ofW (cc := prog_39_method_11_code) (maxL := 3) (ret := (some .int)) (by decide) rfl ?_
  intro p e s m args below meth c s₁ B hml hv
  obtain ⟨rfl, hpre⟩ := hv
  have hx := B.exec
  have hb := B.bytes
  have hr := B.returns
  have hts0 := atoms_spec (ws := Cond.code yj_pcheckN prog_39_method_11_code 3 (some .int) :: ev_gw) B.pre
  have hts : ∀ w ∈ ev_gw, w.before _ s = true := fun w hw => hts0 w (List.mem_cons_of_mem _ hw)
  have hown : s.vm.findClass "jdk/internal/util/Preconditions" = some m.cls := findClass_of_methodNamed B.named
  have hlocks := B.notSynchronized
  have hS : va_S (fun _ => False) s.heap s.heap [] := va_S.rf
  have hl := lv_entry ([.int i, .int n, .null]) (n := 3) (Nat.le_of_ble_eq_true rfl)
  rw [lg_entry_eq]
  generalize (lg_sl ([.int i, .int n, .null]) ++ List.replicate (3 - (lg_sl ([.int i, .int n, .null])).length) Slot.unset).toArray = ls at hl ⊢
  have hl : lv_has ls 3 [(0, .int i), (1, .int n), (2, .null)] := hl
  have d0 : decode prog_39_method_11_code 0 = .ok (.iload_n 0, 1) := by decide +kernel
  have d1 : decode prog_39_method_11_code 1 = .ok (.ifCond .lt (8), 3) := by decide +kernel
  have d4 : decode prog_39_method_11_code 4 = .ok (.iload_n 0, 1) := by decide +kernel
  have d5 : decode prog_39_method_11_code 5 = .ok (.iload_n 1, 1) := by decide +kernel
  have d6 : decode prog_39_method_11_code 6 = .ok (.if_icmp .lt (10), 3) := by decide +kernel
  have d9 : decode prog_39_method_11_code 9 = .ok (.aload_n 2, 1) := by decide +kernel
  have d10 : decode prog_39_method_11_code 10 = .ok (.iload_n 0, 1) := by decide +kernel
  have d11 : decode prog_39_method_11_code 11 = .ok (.iload_n 1, 1) := by decide +kernel
  have d12 : decode prog_39_method_11_code 12 = .ok (.invokestatic 95, 3) := by decide +kernel
  have d15 : decode prog_39_method_11_code 15 = .ok (.athrow, 1) := by decide +kernel
  have d16 : decode prog_39_method_11_code 16 = .ok (.iload_n 0, 1) := by decide +kernel
  have d17 : decode prog_39_method_11_code 17 = .ok (.ireturn, 1) := by decide +kernel
  refine lv_iload_n hx hb d0 rfl (lv_at hl 0 rfl) ?_
  refine lv_if_lt (tgt := 9) hx hb d1 (by decide) (fun z => absurd z h0) (fun _ => ?_)
  refine lv_iload_n hx hb d4 rfl (lv_at hl 0 rfl) ?_
  refine lv_iload_n hx hb d5 rfl (lv_at hl 1 rfl) ?_
  refine lv_icmp_lt (tgt := 16) hx hb d6 (by decide) (fun _ => ?_) (fun z => absurd h1 z)
  refine lv_iload_n hx hb d16 rfl (lv_at hl 0 rfl) ?_
  exact W.iret hx hb hr (fun t ht hW => ⟨⟨_, (), rfl, rfl, trivial⟩, hS.F ht⟩) hS.2.2 d17
abbrev yj_pcheckR : MethodName := ⟨"jdk/internal/util/Preconditions", "checkIndex", "(IILjava/util/function/BiFunction;)I"⟩
set_option maxHeartbeats 4000000 in
set_option maxRecDepth 100000 in
theorem ej_pcheckR (l : Launch) (i n : Int32) (f : Nat) (h0 : ¬ i < 0) (h1 : i < n) : Met l yj_pcheckR (Cond.code yj_pcheckR prog_39_method_11_code 3 (some .int) :: ev_gw) ({ frames := 0, cells := 0, slots := 0, locals := 0 }) (ev_jP [.int i, .int n, .ref f] (fun U H => True)) (ev_jQ i) 0 0 (fun _ => False) := by
  refine Met.ofW (cc := prog_39_method_11_code) (maxL := 3) (ret := (some .int)) (by decide) rfl ?_
  intro p e s m args below meth c s₁ B hml hv
  obtain ⟨rfl, hpre⟩ := hv
  have hx := B.exec
  have hb := B.bytes
  have hr := B.returns
  have hts0 := atoms_spec (ws := Cond.code yj_pcheckR prog_39_method_11_code 3 (some .int) :: ev_gw) B.pre
  have hts : ∀ w ∈ ev_gw, w.before _ s = true := fun w hw => hts0 w (List.mem_cons_of_mem _ hw)
  have hown : s.vm.findClass "jdk/internal/util/Preconditions" = some m.cls := findClass_of_methodNamed B.named
  have hlocks := B.notSynchronized
  have hS : va_S (fun _ => False) s.heap s.heap [] := va_S.rf
  have hl := lv_entry ([.int i, .int n, .ref f]) (n := 3) (Nat.le_of_ble_eq_true rfl)
  rw [lg_entry_eq]
  generalize (lg_sl ([.int i, .int n, .ref f]) ++ List.replicate (3 - (lg_sl ([.int i, .int n, .ref f])).length) Slot.unset).toArray = ls at hl ⊢
  have hl : lv_has ls 3 [(0, .int i), (1, .int n), (2, .ref f)] := hl
  have d0 : decode prog_39_method_11_code 0 = .ok (.iload_n 0, 1) := by decide +kernel
  have d1 : decode prog_39_method_11_code 1 = .ok (.ifCond .lt (8), 3) := by decide +kernel
  have d4 : decode prog_39_method_11_code 4 = .ok (.iload_n 0, 1) := by decide +kernel
  have d5 : decode prog_39_method_11_code 5 = .ok (.iload_n 1, 1) := by decide +kernel
  have d6 : decode prog_39_method_11_code 6 = .ok (.if_icmp .lt (10), 3) := by decide +kernel
  have d9 : decode prog_39_method_11_code 9 = .ok (.aload_n 2, 1) := by decide +kernel
  have d10 : decode prog_39_method_11_code 10 = .ok (.iload_n 0, 1) := by decide +kernel
  have d11 : decode prog_39_method_11_code 11 = .ok (.iload_n 1, 1) := by decide +kernel
  have d12 : decode prog_39_method_11_code 12 = .ok (.invokestatic 95, 3) := by decide +kernel
  have d15 : decode prog_39_method_11_code 15 = .ok (.athrow, 1) := by decide +kernel
  have d16 : decode prog_39_method_11_code 16 = .ok (.iload_n 0, 1) := by decide +kernel
  have d17 : decode prog_39_method_11_code 17 = .ok (.ireturn, 1) := by decide +kernel
  refine lv_iload_n hx hb d0 rfl (lv_at hl 0 rfl) ?_
  refine lv_if_lt (tgt := 9) hx hb d1 (by decide) (fun z => absurd z h0) (fun _ => ?_)
  refine lv_iload_n hx hb d4 rfl (lv_at hl 0 rfl) ?_
  refine lv_iload_n hx hb d5 rfl (lv_at hl 1 rfl) ?_
  refine lv_icmp_lt (tgt := 16) hx hb d6 (by decide) (fun _ => ?_) (fun z => absurd h1 z)
  refine lv_iload_n hx hb d16 rfl (lv_at hl 0 rfl) ?_
  exact W.iret hx hb hr (fun t ht hW => ⟨⟨_, (), rfl, rfl, trivial⟩, hS.F ht⟩) hS.2.2 d17
abbrev yj_scheck : MethodName := ⟨"java/lang/String", "checkIndex", "(II)V"⟩
set_option maxHeartbeats 4000000 in
set_option maxRecDepth 100000 in
theorem ej_scheck (l : Launch) (i n : Int32) (h0 : ¬ i < 0) (h1 : i < n) : Met l yj_scheck (Cond.code yj_scheck prog_28_method_155_code 2 none :: ev_gw) ({ frames := 1, cells := 0, slots := 0, locals := 22 }) (ev_jP [.int i, .int n] (fun U H => va_Zq "jdk/internal/util/Preconditions" "SIOOBE_FORMATTER" "Ljava/util/function/BiFunction;" (fun _ => False) U H)) (ev_jV) 0 0 (fun _ => False) := by
  refine Met.ofW (cc := prog_28_method_155_code) (maxL := 2) (ret := none) (by decide) rfl ?_
  intro p e s m args below meth c s₁ B hml hv
  obtain ⟨rfl, hpre⟩ := hv
  have hx := B.exec
  have hb := B.bytes
  have hr := B.returns
  have hts0 := atoms_spec (ws := Cond.code yj_scheck prog_28_method_155_code 2 none :: ev_gw) B.pre
  have hts : ∀ w ∈ ev_gw, w.before _ s = true := fun w hw => hts0 w (List.mem_cons_of_mem _ hw)
  have hown : s.vm.findClass "java/lang/String" = some m.cls := findClass_of_methodNamed B.named
  have hlocks := B.notSynchronized
  have hS : va_S (fun _ => False) s.heap s.heap [] := va_S.rf
  have hl := lv_entry ([.int i, .int n]) (n := 2) (Nat.le_of_ble_eq_true rfl)
  rw [lg_entry_eq]
  generalize (lg_sl ([.int i, .int n]) ++ List.replicate (2 - (lg_sl ([.int i, .int n])).length) Slot.unset).toArray = ls at hl ⊢
  have hl : lv_has ls 2 [(0, .int i), (1, .int n)] := hl
  have d0 : decode prog_28_method_155_code 0 = .ok (.iload_n 0, 1) := by decide +kernel
  have d1 : decode prog_28_method_155_code 1 = .ok (.iload_n 1, 1) := by decide +kernel
  have d2 : decode prog_28_method_155_code 2 = .ok (.getstatic 1053, 3) := by decide +kernel
  have d5 : decode prog_28_method_155_code 5 = .ok (.invokestatic 1059, 3) := by decide +kernel
  have d8 : decode prog_28_method_155_code 8 = .ok (.pop, 1) := by decide +kernel
  have d9 : decode prog_28_method_155_code 9 = .ok (.return_, 1) := by decide +kernel
  refine lv_iload_n hx hb d0 rfl (lv_at hl 0 rfl) ?_
  refine lv_iload_n hx hb d1 rfl (lv_at hl 1 rfl) ?_
  rcases hpre with hpre | ⟨f, hpre⟩
  · refine va_gets hx hb hpre hS hown (hts _ (ev_gm (p := 13231) (by decide +kernel) rfl)) (fun _ h9 => h9) d2 ?_
    refine va_calli (va_runS (As := [.int i, .int n, .null]) (rest := []) ⟨hx, hb, hml, hown, hts⟩ (ej_pcheckN l i n h0 h1) (va_cwS 3 hts (ev_gS (ev_gm (p := 13233) (by decide +kernel) rfl) (ev_gm (p := 13234) (by decide +kernel) rfl) (ev_ginit (by decide +kernel) rfl) (ev_gm (p := 13235) (by decide +kernel) rfl)) rfl rfl rfl (by decide +kernel) ⟨Nat.le_of_ble_eq_true rfl, Nat.le_of_ble_eq_true rfl⟩) ⟨fun a U g mk q => ⟨q.1, trivial⟩, fun U hU hW => ⟨rfl, trivial⟩⟩ rfl rfl hl.1 rfl (lv_room (Nat.le_of_ble_eq_true rfl)) d5 ⟨Nat.le_refl _, Nat.le_refl _⟩) hS (fun q _ h => h) (fun q h => h) (fun r u t H1 locs1 ht hvm hw hB hz1 hk1 hS => ?_)
    refine lv_pop hx hb d8 rfl ?_
    exact W.vret hx hb hr (fun t ht hW => ⟨⟨(), rfl, trivial, trivial⟩, hS.F ht⟩) hS.2.2 d9
  · refine va_gets hx hb hpre hS hown (hts _ (ev_gm (p := 13231) (by decide +kernel) rfl)) (fun _ h9 => h9) d2 ?_
    refine va_calli (va_runS (As := [.int i, .int n, .ref f]) (rest := []) ⟨hx, hb, hml, hown, hts⟩ (ej_pcheckR l i n f h0 h1) (va_cwS 3 hts (ev_gS (ev_gm (p := 13233) (by decide +kernel) rfl) (ev_gm (p := 13234) (by decide +kernel) rfl) (ev_ginit (by decide +kernel) rfl) (ev_gm (p := 13235) (by decide +kernel) rfl)) rfl rfl rfl (by decide +kernel) ⟨Nat.le_of_ble_eq_true rfl, Nat.le_of_ble_eq_true rfl⟩) ⟨fun a U g mk q => ⟨q.1, trivial⟩, fun U hU hW => ⟨rfl, trivial⟩⟩ rfl rfl hl.1 rfl (lv_room (Nat.le_of_ble_eq_true rfl)) d5 ⟨Nat.le_refl _, Nat.le_refl _⟩) hS (fun q _ h => h) (fun q h => h) (fun r u t H1 locs1 ht hvm hw hB hz1 hk1 hS => ?_)
    refine lv_pop hx hb d8 rfl ?_
    exact W.vret hx hb hr (fun t ht hW => ⟨⟨(), rfl, trivial, trivial⟩, hS.F ht⟩) hS.2.2 d9
def ev_tbg (N : Nat) (fx : Nat → Int32) : Prop := N < 2 ^ 31 ∧ ∀ j, j < N → ((fx j &&& 255).toUInt32 % 65536).toInt32 = fx j ∧ narrow .char (.int (fx j)) = .int (fx j)
theorem ev_tbc : ∀ k, k < 17 → ∀ j, j < (ev_tb k).length → (((ev_tb k).getD j 0 &&& 255).toUInt32 % 65536).toInt32 = (ev_tb k).getD j 0 ∧ narrow .char (.int ((ev_tb k).getD j 0)) = .int ((ev_tb k).getD j 0) := by decide +kernel
theorem ev_tbl : ∀ k, (ev_tb k).length < 100 := by
  intro k
  unfold ev_tb
  split <;> decide
theorem ev_tbg_k {k : Nat} (hk : k < 17) : ev_tbg (ev_tb k).length (fun j => (ev_tb k).getD j 0) := ⟨Nat.lt_of_lt_of_le (ev_tbl k) (by decide), ev_tbc k hk⟩
theorem ev_inlt {i : Int32} {n : Nat} (h : vp_in i n) (hn : n < 2 ^ 31) : ¬ i < 0 ∧ i < Int32.ofNat n := by
  obtain ⟨j, hj, rfl⟩ := vp_in_of h hn
  exact ⟨nI_pos (by omega), nI_lt hj hn⟩
abbrev yj_lcharAt : MethodName := ⟨"java/lang/StringLatin1", "charAt", "([BI)C"⟩
set_option maxHeartbeats 4000000 in
set_option maxRecDepth 100000 in
theorem ej_lcharAt (l : Launch) (N : Nat) (fx : Nat → Int32) (v : Nat) (hk : ev_tbg N fx) (i : Int32) (hi : vp_in i N) : Met l yj_lcharAt (Cond.code yj_lcharAt prog_30_method_2_code 2 (some .char) :: ev_gw) ({ frames := 2, cells := 0, slots := 0, locals := 43 }) (ev_jP [.ref v, .int i] (fun U H => va_T .byte v N (fun j => .int (fx j)) (fun _ => False) U H ∧ va_Zq "jdk/internal/util/Preconditions" "SIOOBE_FORMATTER" "Ljava/util/function/BiFunction;" (fun _ => False) U H)) (ev_jQ (fx i.toNatClampNeg)) 0 0 (fun _ => False) := by
  refine Met.ofW (cc := prog_30_method_2_code) (maxL := 2) (ret := (some .char)) (by decide) rfl ?_
  intro p e s m args below meth c s₁ B hml hv
  obtain ⟨rfl, hpre⟩ := hv
  have hx := B.exec
  have hb := B.bytes
  have hr := B.returns
  have hts0 := atoms_spec (ws := Cond.code yj_lcharAt prog_30_method_2_code 2 (some .char) :: ev_gw) B.pre
  have hts : ∀ w ∈ ev_gw, w.before _ s = true := fun w hw => hts0 w (List.mem_cons_of_mem _ hw)
  have hown : s.vm.findClass "java/lang/StringLatin1" = some m.cls := findClass_of_methodNamed B.named
  have hlocks := B.notSynchronized
  have hS : va_S (fun _ => False) s.heap s.heap [] := va_S.rf
  have hl := lv_entry ([.ref v, .int i]) (n := 2) (Nat.le_of_ble_eq_true rfl)
  rw [lg_entry_eq]
  generalize (lg_sl ([.ref v, .int i]) ++ List.replicate (2 - (lg_sl ([.ref v, .int i])).length) Slot.unset).toArray = ls at hl ⊢
  have hl : lv_has ls 2 [(0, .ref v), (1, .int i)] := hl
  have d0 : decode prog_30_method_2_code 0 = .ok (.iload_n 1, 1) := by decide +kernel
  have d1 : decode prog_30_method_2_code 1 = .ok (.aload_n 0, 1) := by decide +kernel
  have d2 : decode prog_30_method_2_code 2 = .ok (.arraylength, 1) := by decide +kernel
  have d3 : decode prog_30_method_2_code 3 = .ok (.invokestatic 9, 3) := by decide +kernel
  have d6 : decode prog_30_method_2_code 6 = .ok (.aload_n 0, 1) := by decide +kernel
  have d7 : decode prog_30_method_2_code 7 = .ok (.iload_n 1, 1) := by decide +kernel
  have d8 : decode prog_30_method_2_code 8 = .ok (.baload, 1) := by decide +kernel
  have d9 : decode prog_30_method_2_code 9 = .ok (.sipush (255), 3) := by decide +kernel
  have d12 : decode prog_30_method_2_code 12 = .ok (.iand, 1) := by decide +kernel
  have d13 : decode prog_30_method_2_code 13 = .ok (.i2c, 1) := by decide +kernel
  have d14 : decode prog_30_method_2_code 14 = .ok (.ireturn, 1) := by decide +kernel
  obtain ⟨hT, hZ⟩ := hpre
  have hlen : N < 2 ^ 31 := hk.1
  obtain ⟨g0, g1⟩ := ev_inlt hi hlen
  have hj : i.toNatClampNeg < N := Nat.lt_of_not_le fun z => hi (Or.inr z)
  obtain ⟨q1, q2⟩ := hk.2 _ hj
  refine lv_iload_n hx hb d0 rfl (lv_at hl 1 rfl) ?_
  refine lv_aload_n hx hb d1 rfl (lv_at hl 0 rfl) ?_
  refine va_tlen hx hb hT hS rfl d2 ?_
  refine va_callv (va_runS (As := [.int i, .int (Int32.ofNat N)]) (rest := []) ⟨hx, hb, hml, hown, hts⟩ (ej_scheck l i _ g0 g1) (va_cwS 2 hts (ev_gS (ev_gm (p := 13228) (by decide +kernel) rfl) (ev_gm (p := 13229) (by decide +kernel) rfl) (ev_ginit (by decide +kernel) rfl) (ev_gm (p := 13230) (by decide +kernel) rfl)) rfl rfl rfl (by decide +kernel) ⟨Nat.le_of_ble_eq_true rfl, Nat.le_of_ble_eq_true rfl⟩) ⟨fun a U g mk q => ⟨q.1, va_Zq.moved (Vm.Alike.refl U.vm) q.2⟩, fun U hU hW => ⟨rfl, by show va_Zq _ _ _ _ U U.heap; rw [hU]; exact hZ.moved hW.alike⟩⟩ rfl rfl hl.1 rfl (lv_room (Nat.le_of_ble_eq_true rfl)) d3 ⟨Nat.le_refl _, Nat.le_refl _⟩) hS (fun q _ h => h) (fun q h => h) (fun u t H1 locs1 ht hvm hw hB hz1 hk1 hS => ?_)
  refine lv_aload_n hx hb d6 rfl (lv_at hl 0 rfl) ?_
  refine lv_iload_n hx hb d7 rfl (lv_at hl 1 rfl) ?_
  refine va_tb hx hb hT hS hi rfl d8 ?_
  refine lv_sipush (v := 255) hx hb d9 (by decide) ?_
  refine lv_iand hx hb d12 ?_
  refine lv_i2c hx hb d13 q1 ?_
  exact W.zret hx hb hr q2 (fun t ht hW => ⟨⟨_, (), rfl, rfl, trivial⟩, hS.F ht⟩) hS.2.2 d14
abbrev yj_charAt : MethodName := ⟨"java/lang/String", "charAt", "(I)C"⟩
set_option maxHeartbeats 4000000 in
set_option maxRecDepth 100000 in
theorem ej_charAt (l : Launch) (N : Nat) (fx : Nat → Int32) (a v : Nat) (hk : ev_tbg N fx) (i : Int32) (hi : vp_in i N) : Met l yj_charAt (Cond.code yj_charAt prog_28_method_56_code 2 (some .char) :: ev_gw) ({ frames := 3, cells := 0, slots := 0, locals := 64 }) (ev_jP [.ref a, .int i] (fun U H => ev_Js N fx a v U H)) (ev_jQ (fx i.toNatClampNeg)) 0 0 (fun _ => False) := by
  refine Met.ofW (cc := prog_28_method_56_code) (maxL := 2) (ret := (some .char)) (by decide) rfl ?_
  intro p e s m args below meth c s₁ B hml hv
  obtain ⟨rfl, hpre⟩ := hv
  have hx := B.exec
  have hb := B.bytes
  have hr := B.returns
  have hts0 := atoms_spec (ws := Cond.code yj_charAt prog_28_method_56_code 2 (some .char) :: ev_gw) B.pre
  have hts : ∀ w ∈ ev_gw, w.before _ s = true := fun w hw => hts0 w (List.mem_cons_of_mem _ hw)
  have hown : s.vm.findClass "java/lang/String" = some m.cls := findClass_of_methodNamed B.named
  have hlocks := B.notSynchronized
  have hS : va_S (fun _ => False) s.heap s.heap [] := va_S.rf
  have hl := lv_entry ([.ref a, .int i]) (n := 2) (Nat.le_of_ble_eq_true rfl)
  rw [lg_entry_eq]
  generalize (lg_sl ([.ref a, .int i]) ++ List.replicate (2 - (lg_sl ([.ref a, .int i])).length) Slot.unset).toArray = ls at hl ⊢
  have hl : lv_has ls 2 [(0, .ref a), (1, .int i)] := hl
  have d0 : decode prog_28_method_56_code 0 = .ok (.aload_n 0, 1) := by decide +kernel
  have d1 : decode prog_28_method_56_code 1 = .ok (.invokevirtual 492, 3) := by decide +kernel
  have d4 : decode prog_28_method_56_code 4 = .ok (.ifCond .eq (12), 3) := by decide +kernel
  have d7 : decode prog_28_method_56_code 7 = .ok (.aload_n 0, 1) := by decide +kernel
  have d8 : decode prog_28_method_56_code 8 = .ok (.getfield 9, 3) := by decide +kernel
  have d11 : decode prog_28_method_56_code 11 = .ok (.iload_n 1, 1) := by decide +kernel
  have d12 : decode prog_28_method_56_code 12 = .ok (.invokestatic 495, 3) := by decide +kernel
  have d15 : decode prog_28_method_56_code 15 = .ok (.ireturn, 1) := by decide +kernel
  have d16 : decode prog_28_method_56_code 16 = .ok (.aload_n 0, 1) := by decide +kernel
  have d17 : decode prog_28_method_56_code 17 = .ok (.getfield 9, 3) := by decide +kernel
  have d20 : decode prog_28_method_56_code 20 = .ok (.iload_n 1, 1) := by decide +kernel
  have d21 : decode prog_28_method_56_code 21 = .ok (.invokestatic 498, 3) := by decide +kernel
  have d24 : decode prog_28_method_56_code 24 = .ok (.ireturn, 1) := by decide +kernel
  have hj : i.toNatClampNeg < N := Nat.lt_of_not_le fun z => hi (Or.inr z)
  obtain ⟨q1, q2⟩ := hk.2 _ hj
  refine lv_aload_n hx hb d0 rfl (lv_at hl 0 rfl) ?_
  refine va_calli (va_runV (As := []) (rest := []) ⟨hx, hb, hml, hown, hts⟩ (ej_isLatin1 l N fx a v) (cwV 0 hts (ev_gV (w0 := .tt) (ev_gm (p := 13221) (by decide +kernel) rfl) (ev_gm (p := 13222) (by decide +kernel) rfl) (ev_gm (p := 13223) (by decide +kernel) rfl) (ev_ginit (by decide +kernel) rfl) (ev_gm (p := 13224) (by decide +kernel) rfl)) rfl rfl rfl (by decide +kernel) ⟨Nat.le_of_ble_eq_true rfl, Nat.le_of_ble_eq_true rfl⟩) ⟨fun a U g mk q => ⟨q.1, ev_Js.moved (Vm.Alike.refl U.vm) q.2⟩, va_Orecv hpre.1 hS, fun U hU hW => ⟨rfl, by show ev_Js N fx a v U U.heap; rw [hU]; exact (hpre).moved hW.alike⟩⟩ rfl rfl hl.1 rfl (lv_room (Nat.le_of_ble_eq_true rfl)) d1 ⟨Nat.le_refl _, Nat.le_refl _⟩) hS (fun q _ h => h) (fun q h => h) (fun r u t H1 locs1 ht hvm hw hB hz1 hk1 hS => ?_)
  have hw : r = 1 := hw
  subst hw
  have hpre1 : ev_Js N fx a v s H1 := hpre.kept hk1
  refine lv_if_eq (tgt := 16) hx hb d4 (by decide) (fun z => absurd z (by decide)) (fun _ => ?_)
  refine lv_aload_n hx hb d7 rfl (lv_at hl 0 rfl) ?_
  refine vk_getf hx hb hpre.2.2.1 hS hown (hts _ (ev_gm (p := 15136) (by decide +kernel) rfl)) (fun _ h9 => h9) d8 ?_
  refine lv_iload_n hx hb d11 rfl (lv_at hl 1 rfl) ?_
  refine va_calli (va_runS (As := [.ref v, .int i]) (rest := []) ⟨hx, hb, hml, hown, hts⟩ (ej_lcharAt l N fx v hk i hi) (va_cwS 2 hts (ev_gS (ev_gm (p := 13225) (by decide +kernel) rfl) (ev_gm (p := 13226) (by decide +kernel) rfl) (ev_ginit (by decide +kernel) rfl) (ev_gm (p := 13227) (by decide +kernel) rfl)) rfl rfl rfl (by decide +kernel) ⟨Nat.le_of_ble_eq_true rfl, Nat.le_of_ble_eq_true rfl⟩) ⟨fun a U g mk q => ⟨q.1, va_T.moved (Vm.Alike.refl U.vm) q.2.1, va_Zq.moved (Vm.Alike.refl U.vm) q.2.2⟩, fun U hU hW => ⟨rfl, by show va_T _ _ _ _ _ U U.heap ∧ va_Zq _ _ _ _ U U.heap; rw [hU]; exact ⟨hpre1.2.2.2.1.moved hW.alike, hpre1.2.2.2.2.2.moved hW.alike⟩⟩⟩ rfl rfl hl.1 rfl (lv_room (Nat.le_of_ble_eq_true rfl)) d12 ⟨Nat.le_refl _, Nat.le_refl _⟩) hS (fun q _ h => h) (fun q h => h) (fun r u t H1 locs1 ht hvm hw hB hz1 hk1 hS => ?_)
  have hw : r = fx i.toNatClampNeg := hw
  subst hw
  exact W.zret hx hb hr q2 (fun t ht hW => ⟨⟨_, (), rfl, rfl, trivial⟩, hS.F ht⟩) hS.2.2 d15
end
section
/-! Soundness of the JDK's own methods taken as one step. -/
def ev_jy (t : Nat) : MethodName := if t = 1000 then arraycopyName else if t = 1001 then Lib.Math.abs.name else if t = 1002 then Lib.Math.max.name else if t = 1003 then Lib.Math.min.name else if t = 1004 then yj_length else if t = 1005 then yj_charAt else Lib.objectInit
set_option maxRecDepth 100000 in
theorem ev_ctj : ∀ e ∈ ev_ct, 1000 ≤ e.2.2.1 → ev_w e.2.2.2 = some (.methodLink (ev_own e.1) e.2.1 (ev_jy e.2.2.1)) := by decide +kernel
theorem ev_cl2_ok {c idx t p : Nat} (h : ev_cl2 c idx = some (t, p)) : (c, idx, t, p) ∈ ev_ct := by
  unfold ev_cl2 at h
  cases hf : ev_ct.find? (fun e => e.1 == c && e.2.1 == idx) with
  | none => rw [hf] at h; cases h
  | some e =>
    rw [hf] at h
    have h1 := List.find?_some hf
    have h2 := List.mem_of_find?_eq_some hf
    obtain ⟨e1, e2, e3⟩ := e
    simp only [Option.map_some, Option.some.injEq] at h
    simp only [Bool.and_eq_true, beq_iff_eq] at h1
    rw [← h1.1, ← h1.2, ← h]
    exact h2
theorem ev_iv_ok {M n t k : Nat} {i : Instr} (h : ev_iv M i n = some (t, k)) : n = 3 ∧ ∃ idx p, ev_cl2 (ev_ci M) idx = some (t, p) ∧ ((k = 0 ∧ i = .invokestatic idx) ∨ (k = 1 ∧ i = .invokevirtual idx) ∨ (k = 2 ∧ i = .invokespecial idx)) := by
  unfold ev_iv at h
  split at h
  · rename_i idx
    cases hc : ev_cl2 (ev_ci M) idx with
    | none => rw [hc] at h; cases h
    | some q => rw [hc] at h; cases h; exact ⟨rfl, idx, q.2, hc, Or.inl ⟨rfl, rfl⟩⟩
  · rename_i idx
    cases hc : ev_cl2 (ev_ci M) idx with
    | none => rw [hc] at h; cases h
    | some q => rw [hc] at h; cases h; exact ⟨rfl, idx, q.2, hc, Or.inr (Or.inl ⟨rfl, rfl⟩)⟩
  · rename_i idx
    cases hc : ev_cl2 (ev_ci M) idx with
    | none => rw [hc] at h; cases h
    | some q => rw [hc] at h; cases h; exact ⟨rfl, idx, q.2, hc, Or.inr (Or.inr ⟨rfl, rfl⟩)⟩
  · cases h
theorem ev_sf9 {L : Nat} {xs : Nat → Int32} {a m : Nat} {f : Nat → Int32} (h : ev_sf L xs a = some (ev_ia 9 m f)) : ∃ k, k < 17 ∧ a = 3 + k ∧ m = (ev_tb k).length ∧ f = fun j => (ev_tb k).getD j 0 := by
  have h1 : ev_tag (ev_sf L xs a) = 9 := by rw [h]; rfl
  unfold ev_sf at h1 h
  by_cases h0 : a = 0
  · rw [if_pos h0] at h1; cases h1
  · rw [if_neg h0] at h1 h
    by_cases h2 : a = 1
    · rw [if_pos h2] at h1; cases h1
    · rw [if_neg h2] at h1 h
      by_cases h3 : a = 2
      · rw [if_pos h3] at h1; cases h1
      · rw [if_neg h3] at h1 h
        by_cases h4 : a < ev_S
        · rw [if_pos h4] at h
          have hS : ev_S = 20 := rfl
          simp only [ev_ia, Option.some.injEq, Sum.inr.injEq, Sum.inl.injEq, Prod.mk.injEq, true_and] at h
          exact ⟨a - 3, by omega, by omega, h.1.symm, h.2.symm⟩
        · rw [if_neg h4] at h; cases h
theorem ev_I.heap {L : Nat} {xs : Nat → Int32} {D : va_G} {cA : Nat → ClassId} {A : Nat → Prop} {s : State} {ad : Nat → Nat} {μ : ev_H} {H H1 : Heap} {locs locs1 : List Loc} (h : ev_I L xs D cA A s ad μ H locs) (hk : ∀ q : Nat, q < H.size → ¬ False → H1[q]? = H[q]?) (hS : va_S A s.heap H1 locs1) : ev_I L xs D cA A s ad μ H1 locs1 := by
  obtain ⟨q1, q2, q3, q4, q5, q6, q7, q8, q9⟩ := h
  exact ⟨q1, q2, q3, q4.kept (fun k q hq => hk _ (q4 k q hq).lt (fun z => z)), q5, hS, q7, q8, q9⟩
section EVJ
variable {p : Program} {l : Launch} {e : Env} {R : Room} {s : State} {m : MethodId} {args : Array Value} {below : List Frame} {meth : Method} {c : Code} {H : Heap} {locs : List Loc} {cells slots : Nat} {Q : State → Prop}
variable {pc : Nat} {ls : Array Slot} {cc : ByteArray} {ad : Nat → Nat} {L : Nat} {xs : Nat → Int32} {D : va_G} {cA : Nat → ClassId} {A : Nat → Prop}
theorem ev_jw {w : Cond} (p : Nat) (hts : ∀ w ∈ ev_gw, w.before args s = true) (h : (decide (ev_w p = some w) && goodWord w) = true) : w.before args s = true := by
  rw [Bool.and_eq_true] at h
  exact hts _ (ev_gm (of_decide_eq_true h.1) h.2)
set_option maxHeartbeats 8000000 in
set_option maxRecDepth 100000 in
theorem ev_jd_ok {M : Nat} (hx : p.tables.exec = Jvm.exec) (hb : c.code = cc) (hml : c.maxLocals = ls.size) (hown : s.vm.findClass (ev_own (ev_ci M)) = some m.cls) (hts : ∀ w ∈ ev_gw, w.before args s = true)
    {i : Instr} {n t k : Nat} {st st' : List Value} {μ μ' : ev_H} (hiv : ev_iv M i n = some (t, k)) (ht : 1000 ≤ t) (hjk : ev_jk t = k) (hsum : (st.map Value.category).sum ≤ 9) (hjf : ev_jf t ≤ R.frames) (hjl : ev_jl t ≤ R.locals)
    (h : ev_jd t st μ = some (st', μ')) (hI : ev_I L xs D cA A s ad μ H locs) (hs : ev_sl μ.1 st) (hR : cells ≤ R.cells ∧ slots ≤ R.slots) (hdg : decode cc pc = .ok (i, n))
    (kk : ev_K p l e R s m args below meth c cells slots Q L xs D cA A ad μ.1 (pc + n) ls st' μ') : W p l e R s m args below meth c H locs cells slots Q (F0 m pc ls (st.map (ev_v ad))) := by
  obtain ⟨rfl, idx, pp, hcl, hi⟩ := ev_iv_ok hiv
  have hlink := hts _ (ev_gm (ev_ctj _ (ev_cl2_ok hcl) ht) rfl)
  have hI0 := hI
  obtain ⟨i1, i2, hK, hP, hD, hS, hA, i8, i9⟩ := hI
  have hcat : ∀ st1 : List Value, ((st1.map (ev_v ad)).map fun v => v.category).sum = (st1.map Value.category).sum := fun st1 => by
    rw [List.map_map]
    exact congrArg List.sum (List.map_congr_left fun v _ => ev_v_cat ad v)
  have hcat1 : ∀ v : Value, 1 ≤ v.category := fun v => by rcases lv_cat v with q | q <;> omega
  have hs0 : ∀ (v : Value) (st1 : List Value), ((v :: st1).map Value.category).sum ≤ 9 → (st1.map Value.category).sum ≤ 8 := fun v st1 hq => by
    have := hcat1 v
    simp only [List.map_cons, List.sum_cons] at hq
    omega
  have k0 : ∀ st1 : List Value, st1 = st' → μ = μ' → ev_sl μ.1 st1 → W p l e R s m args below meth c H locs cells slots Q (F0 m (pc + 3) ls (st1.map (ev_v ad))) := by
    intro st1 e1 e2 h5
    subst e1; subst e2
    exact kk ad H locs (fun _ _ => rfl) (Nat.le_refl _) hI0 h5
  have hr30 : ∀ {n : Nat}, n ≤ 8 → 30 ≤ R.locals → n + (7 + 11) ≤ R.locals := fun h1 h2 => by omega
  have hin : ∀ {v : Int32} {st1 : List Value}, ev_sl μ.1 st1 → ev_sl μ.1 (.int v :: st1) := fun h1 => ev_sl_cons (ev_vl_nil (fun a ha => by cases ha)) h1
  unfold ev_jd at h
  split at h
  · -- arraycopy
    rename_i nn dp b sp a st
    have hi2 : i = .invokestatic idx := by
      rcases hi with ⟨_, q⟩ | ⟨q, _⟩ | ⟨q, _⟩
      · exact q
      · subst q; exact absurd hjk (by decide)
      · subst q; exact absurd hjk (by decide)
    subst hi2
    split at h
    · rename_i t0 m0 f t1 m1 g hm0 hm1
      split at h
      · rename_i hc
        obtain ⟨rfl, rfl, h1, h2, h3, h4, h5, ha, hb2⟩ := hc
        cases h
        have hr := hs0 _ _ (Nat.le_succ_of_le (hs0 _ _ (Nat.le_succ_of_le (hs0 _ _ (Nat.le_succ_of_le (hs0 _ _ (Nat.le_succ_of_le (hs0 _ _ hsum))))))))
        exact va_copyi hx hb hml hown hlink (ev_jw 13123 hts (by decide +kernel)) (ev_jw 13122 hts (by decide +kernel)) (ev_jw 11019 hts (by decide +kernel)) hK hP hD hS (a - ev_S) (b - ev_S) 0 0 (ev_ws_get i1 ha hm0) (ev_ws_get i1 hb2 hm1) rfl rfl rfl h1 h2 h3 h4 h5 (fun _ _ => rfl) hjf (by rw [hcat, show nativeFrameWords "java/lang/System" "arraycopy" 5 = 7 by decide +kernel]; exact hr30 hr hjl) hdg (fun H1 locs1 hP1 hD1 hS1 => kk ad H1 locs1 (fun _ _ => rfl) (Nat.le_refl _) (hI0.set (e := ev_ia 0 m1 (va_cpy f g sp.toNatClampNeg dp.toNatClampNeg nn.toNatClampNeg)) hb2 (i1.2.1 _ _ hb2 hm1).1 (Nat.zero_le _) hP1 hD1 hS1) (ev_sl_tail (ev_sl_tail (ev_sl_tail (ev_sl_tail (ev_sl_tail hs))))))
      · cases h
    · cases h
  · -- abs
    rename_i x st
    have hi2 : i = .invokestatic idx := by
      rcases hi with ⟨_, q⟩ | ⟨q, _⟩ | ⟨q, _⟩
      · exact q
      · subst q; exact absurd hjk (by decide)
      · subst q; exact absurd hjk (by decide)
    subst hi2
    cases h
    exact va_mabs hx hb hml hown hlink (ev_jw 15187 hts (by decide +kernel)) (ev_jw 11018 hts (by decide +kernel)) (ev_jw 15188 hts (by decide +kernel)) hjf (by rw [hcat]; have := hs0 _ _ hsum; have h9 : 30 ≤ R.locals := hjl; omega) hR.1 hR.2 hdg (k0 (.int _ :: st) rfl rfl (hin (ev_sl_tail hs)))
  · -- max
    rename_i y x st
    have hi2 : i = .invokestatic idx := by
      rcases hi with ⟨_, q⟩ | ⟨q, _⟩ | ⟨q, _⟩
      · exact q
      · subst q; exact absurd hjk (by decide)
      · subst q; exact absurd hjk (by decide)
    subst hi2
    cases h
    exact va_mmax hx hb hml hown hlink (ev_jw 14190 hts (by decide +kernel)) (ev_jw 11018 hts (by decide +kernel)) (ev_jw 14191 hts (by decide +kernel)) hjf (by rw [hcat]; have := hs0 _ _ (Nat.le_succ_of_le (hs0 _ _ hsum)); have h9 : 30 ≤ R.locals := hjl; omega) hR.1 hR.2 hdg (k0 (.int _ :: st) rfl rfl (hin (ev_sl_tail (ev_sl_tail hs))))
  · -- min
    rename_i y x st
    have hi2 : i = .invokestatic idx := by
      rcases hi with ⟨_, q⟩ | ⟨q, _⟩ | ⟨q, _⟩
      · exact q
      · subst q; exact absurd hjk (by decide)
      · subst q; exact absurd hjk (by decide)
    subst hi2
    cases h
    exact va_mmin hx hb hml hown hlink (ev_jw 13135 hts (by decide +kernel)) (ev_jw 11018 hts (by decide +kernel)) (ev_jw 13136 hts (by decide +kernel)) hjf (by rw [hcat]; have := hs0 _ _ (Nat.le_succ_of_le (hs0 _ _ hsum)); have h9 : 30 ≤ R.locals := hjl; omega) hR.1 hR.2 hdg (k0 (.int _ :: st) rfl rfl (hin (ev_sl_tail (ev_sl_tail hs))))
  · -- length
    rename_i a st
    have hi2 : i = .invokevirtual idx := by
      rcases hi with ⟨q, _⟩ | ⟨_, q⟩ | ⟨q, _⟩
      · subst q; exact absurd hjk (by decide)
      · exact q
      · subst q; exact absurd hjk (by decide)
    subst hi2
    split at h
    · rename_i mm f hm
      have ha : ¬ ev_S ≤ a := fun z => by
        have h9 : (9 : Nat) ≤ 1 := (i1.2.1 a _ z hm).2
        omega
      obtain ⟨k, hk, rfl, rfl, rfl⟩ := ev_sf9 ((i2 a (by omega)).symm.trans hm)
      obtain ⟨v, s1, s2, s3, s4⟩ := i8.2.2.2.1 k hk
      have hq : ∀ a : Nat, a < s.heap.size → ¬ A a → H[a]? = s.heap[a]? := hS.2.1
      have fN : ∀ q : Nat, False → A q := fun _ z => z.elim
      have hJ : ev_Js (ev_tb k).length (fun j => (ev_tb k).getD j 0) (ad (3 + k)) v s H := ⟨(s1.kept hq).narrow fN, (s2.kept hq).narrow fN, (s3.kept hq).narrow fN, (s4.kept hq).narrow fN, (i8.2.2.2.2.1.kept hq).narrow fN, (i8.2.2.2.2.2.kept hq).narrow fN⟩
      cases h
      refine va_calli (va_runV (As := []) (rest := st.map (ev_v ad)) ⟨hx, hb, hml, hown, hts⟩ (ej_length l (ev_tb k).length (fun j => (ev_tb k).getD j 0) (ad (3 + k)) v) (cwV 0 hts (ev_gV (w0 := .tt) (ev_gm (ev_ctj _ (ev_cl2_ok hcl) ht) rfl) (ev_gm (p := 13208) (by decide +kernel) rfl) (ev_gm (p := 13209) (by decide +kernel) rfl) (ev_ginit (by decide +kernel) rfl) (ev_gm (p := 13210) (by decide +kernel) rfl)) rfl rfl rfl (by decide +kernel) ⟨hjf, by have h9 : 40 ≤ R.locals := hjl; show 8 + (1 + 11) + 20 ≤ R.locals; omega⟩) ⟨fun a U g mk q => ⟨q.1, ev_Js.moved (Vm.Alike.refl U.vm) q.2.1, q.2.2⟩, va_Orecv s1 hS, fun U hU hW => ⟨rfl, by show ev_Js (ev_tb k).length (fun j => (ev_tb k).getD j 0) (ad (3 + k)) v U U.heap ∧ _; rw [hU]; exact ⟨hJ.moved hW.alike, Nat.lt_of_lt_of_le (ev_tbl k) (by decide)⟩⟩⟩ rfl rfl rfl rfl (by show 2 * 0 + ((st.map (ev_v ad)).map fun v => v.category).sum ≤ 8; rw [hcat, Nat.mul_zero, Nat.zero_add]; exact hs0 _ _ hsum) hdg ⟨hR.1, hR.2⟩) hS (fun q _ z => z.elim) (fun q z => z.elim) (fun r u t H1 locs1 ht1 hvm hw hB hz1 hk1 hS1 => ?_)
      have hw : r = Int32.ofNat (ev_tb k).length := hw
      subst hw
      exact kk ad H1 locs1 (fun _ _ => rfl) (Nat.le_refl _) (hI0.heap hk1 hS1) (hin (ev_sl_tail hs))
    · cases h
  · -- charAt
    rename_i x a st
    have hi2 : i = .invokevirtual idx := by
      rcases hi with ⟨q, _⟩ | ⟨_, q⟩ | ⟨q, _⟩
      · subst q; exact absurd hjk (by decide)
      · exact q
      · subst q; exact absurd hjk (by decide)
    subst hi2
    split at h
    · rename_i mm f hm
      have ha : ¬ ev_S ≤ a := fun z => by
        have h9 : (9 : Nat) ≤ 1 := (i1.2.1 a _ z hm).2
        omega
      obtain ⟨k, hk, rfl, rfl, rfl⟩ := ev_sf9 ((i2 a (by omega)).symm.trans hm)
      obtain ⟨v, s1, s2, s3, s4⟩ := i8.2.2.2.1 k hk
      have hq : ∀ a : Nat, a < s.heap.size → ¬ A a → H[a]? = s.heap[a]? := hS.2.1
      have fN : ∀ q : Nat, False → A q := fun _ z => z.elim
      have hJ : ev_Js (ev_tb k).length (fun j => (ev_tb k).getD j 0) (ad (3 + k)) v s H := ⟨(s1.kept hq).narrow fN, (s2.kept hq).narrow fN, (s3.kept hq).narrow fN, (s4.kept hq).narrow fN, (i8.2.2.2.2.1.kept hq).narrow fN, (i8.2.2.2.2.2.kept hq).narrow fN⟩
      split at h
      · rename_i hxin
        have hxin := ev_in_ok hxin
        cases h
        refine va_calli (va_runV (As := [.int x]) (rest := st.map (ev_v ad)) ⟨hx, hb, hml, hown, hts⟩ (ej_charAt l (ev_tb k).length (fun j => (ev_tb k).getD j 0) (ad (3 + k)) v (ev_tbg_k hk) x hxin) (cwV 1 hts (ev_gV (w0 := .tt) (ev_gm (ev_ctj _ (ev_cl2_ok hcl) ht) rfl) (ev_gm (p := 13218) (by decide +kernel) rfl) (ev_gm (p := 13219) (by decide +kernel) rfl) (ev_ginit (by decide +kernel) rfl) (ev_gm (p := 13220) (by decide +kernel) rfl)) rfl rfl rfl (by decide +kernel) ⟨hjf, by have h9 : 85 ≤ R.locals := hjl; show 8 + (2 + 11) + 64 ≤ R.locals; omega⟩) ⟨fun a U g mk q => ⟨q.1, ev_Js.moved (Vm.Alike.refl U.vm) q.2⟩, va_Orecv s1 hS, fun U hU hW => ⟨rfl, by show ev_Js (ev_tb k).length (fun j => (ev_tb k).getD j 0) (ad (3 + k)) v U U.heap; rw [hU]; exact hJ.moved hW.alike⟩⟩ rfl rfl rfl rfl (by show 2 * 0 + ((st.map (ev_v ad)).map fun v => v.category).sum ≤ 8; rw [hcat, Nat.mul_zero, Nat.zero_add]; exact hs0 _ _ (Nat.le_succ_of_le (hs0 _ _ hsum))) hdg ⟨hR.1, hR.2⟩) hS (fun q _ z => z.elim) (fun q z => z.elim) (fun r u t H1 locs1 ht1 hvm hw hB hz1 hk1 hS1 => ?_)
        have hw : r = (ev_tb k).getD x.toNatClampNeg 0 := hw
        subst hw
        exact kk ad H1 locs1 (fun _ _ => rfl) (Nat.le_refl _) (hI0.heap hk1 hS1) (hin (ev_sl_tail (ev_sl_tail hs)))
      · cases h
    · cases h
  · -- Object.<init>
    have hi2 : i = .invokespecial idx := by
      rcases hi with ⟨q, _⟩ | ⟨q, _⟩ | ⟨_, q⟩
      · subst q; exact absurd hjk (by decide)
      · subst q; exact absurd hjk (by decide)
      · exact q
    subst hi2
    cases h
    refine W.objInit hx hb hown hlink (ev_jw 11037 hts (by decide +kernel)) (ev_jw 11038 hts (by decide +kernel)) rfl hml.symm rfl hdg hjf ?_ ?_
    · have h8 := hs0 _ _ hsum
      have h9 : 30 ≤ R.locals := hjl
      refine Nat.le_trans ?_ h9
      rw [hcat]
      show 2 * 0 + _ + 12 ≤ 30
      omega
    · exact k0 _ rfl rfl (ev_sl_tail hs)
  · cases h
end EVJ
end
section
/-! How a method is entered and left. -/
theorem ev_ar_al (ad : Nat → Nat) : ∀ (av : List Value) (k n : Nat), ev_al ad k (ev_ar av ++ List.replicate n none) = lv_args k (av.map (ev_v ad)) := by
  intro av
  induction av with
  | nil =>
    intro k n
    have h : ∀ (n k : Nat), ev_al ad k (List.replicate n none) = [] := by
      intro n
      induction n with
      | zero => intro k; rfl
      | succ n ih => intro k; rw [List.replicate_succ]; exact ih (k + 1)
    exact h n k
  | cons v r ih =>
    intro k n
    rw [List.map_cons, lv_args, ev_ar, ev_v_cat]
    by_cases hc : v.category = 2
    · rw [if_pos hc, if_pos hc]
      show (k, ev_v ad v) :: ev_al ad (k + 1 + 1) (ev_ar r ++ List.replicate n none) = _
      rw [ih]
    · rw [if_neg hc, if_neg hc]
      show (k, ev_v ad v) :: ev_al ad (k + 1) (ev_ar r ++ List.replicate n none) = _
      rw [ih]
theorem ev_ar_len (ad : Nat → Nat) : ∀ av : List Value, (lg_sl (av.map (ev_v ad))).length = (ev_ar av).length := by
  intro av
  induction av with
  | nil => rfl
  | cons v r ih =>
    have h1 : lg_sl ((v :: r).map (ev_v ad)) = (if v.category = 2 then [.val (ev_v ad v), .second] else [.val (ev_v ad v)]) ++ lg_sl (r.map (ev_v ad)) := by
      show (List.flatMap _ (ev_v ad v :: r.map (ev_v ad))) = _
      rw [List.flatMap_cons, ev_v_cat]
      rfl
    rw [h1, List.length_append, ih, ev_ar]
    by_cases hc : v.category = 2
    · rw [if_pos hc, if_pos hc]; simp only [List.length_cons, List.length_nil]; omega
    · rw [if_neg hc, if_neg hc]; simp only [List.length_cons, List.length_nil]; omega
theorem ev_en_len {M : Nat} {av : List Value} (h : (ev_ar av).length ≤ ev_ml M) : (ev_en M av).length = ev_ml M := by
  unfold ev_en
  rw [List.length_append, List.length_replicate]
  omega
theorem ev_ll_ar {N : Nat} : ∀ {av : List Value}, ev_sl N av → ∀ n, ev_ll N (ev_ar av ++ List.replicate n none) := by
  intro av
  induction av with
  | nil =>
    intro _ n j w h
    have h0 : (List.replicate n (none : Option Value))[j]? = some (some w) := h
    rw [List.getElem?_replicate] at h0
    split at h0 <;> cases h0
  | cons v r ih =>
    intro hs n j w h
    have hr : ev_sl N r := ev_sl_tail hs
    rw [ev_ar] at h
    by_cases hc : v.category = 2
    · rw [if_pos hc] at h
      match j, h with
      | 0, h =>
        have h1 : some (some v) = some (some w) := h
        cases h1
        exact hs _ List.mem_cons_self
      | 1, h => cases h
      | j + 2, h => exact ih hr n j w h
    · rw [if_neg hc] at h
      match j, h with
      | 0, h =>
        have h1 : some (some v) = some (some w) := h
        cases h1
        exact hs _ List.mem_cons_self
      | j + 1, h => exact ih hr n j w h
/-- the words of a method's contract -/
def ev_wd (M : Nat) : Cond := if ev_hh M = [] then .code (ev_y M) (ev_cd M) (ev_ml M) (ev_rt M) else .codeWith (ev_y M) (ev_cd M) (ev_ml M) (ev_rt M) (ev_hh M)
def ev_rm (M : Nat) : Room := { frames := ev_dp M, cells := ev_k1 M, slots := ev_k2 M, locals := ev_lc M }
theorem ev_wd_in {M : Nat} (h : M < ev_nm) (hl : M ≠ ev_lawM) : ev_wd M ∈ ev_gw := by
  have h1 := ev_okM_all h hl
  unfold ev_okM at h1
  split at h1
  · rename_i y b mm r hw
    obtain ⟨e1, e2, e3, e4⟩ := of_decide_eq_true h1
    have hb : ev_cd M = b := by unfold ev_cd; rw [if_neg hl, hw]
    unfold ev_wd
    rw [if_pos e4, hb, ← e1, ← e2, ← e3]
    exact ev_gm hw rfl
  · rename_i y b mm r hh hw
    obtain ⟨e1, e2, e3, e4, e5⟩ := of_decide_eq_true h1
    have hb : ev_cd M = b := by unfold ev_cd; rw [if_neg hl, hw]
    unfold ev_wd
    rw [if_neg (by rw [e4]; exact e5), hb, ← e1, ← e2, ← e3, e4]
    exact ev_gm hw rfl
  · cases h1
/-- what a call leaves: its memory, seen from its own cells -/
def ev_Jn (L : Nat) (xs : Nat → Int32) (D : va_G) (cA : Nat → ClassId) (A : Nat → Prop) (ad ad' : Nat → Nat) (n0 : Nat) (μ1 : ev_H) (t : State) : Prop :=
  (∀ a, a < n0 → ad' a = ad a) ∧ n0 ≤ μ1.1 ∧ ev_mw μ1 ∧ (∀ a, a < ev_S → μ1.2 a = ev_sf L xs a) ∧ va_P D ev_cl (ev_ws ad' cA μ1) t.heap ∧ va_D A (ev_ws ad' cA μ1)
def ev_Pc (L : Nat) (xs : Nat → Int32) (D : va_G) (cA : Nat → ClassId) (ad : Nat → Nat) (μ : ev_H) (av : List Value) (sz : Nat) : Array Value → State → Prop :=
  va_Pc (av.map (ev_v ad)) (fun U => U.heap.size = sz ∧ ev_I L xs D cA (va_A (ev_ws ad cA μ) sz) U ad μ U.heap [])
def ev_Qc (L : Nat) (xs : Nat → Int32) (D : va_G) (cA : Nat → ClassId) (A : Nat → Prop) (ad : Nat → Nat) (n0 : Nat) (o : Option Value ⊕ Nat) (μ1 : ev_H) : Array Value → State → Outcome → State → Prop := fun _ st oc t =>
  (∃ (v : Option Value) (ad' : Nat → Nat), o = .inl v ∧ oc = .returned (v.map (ev_v ad')) ∧ (∀ w, v = some w → ev_vl μ1.1 w) ∧ ev_Jn L xs D cA A ad ad' n0 μ1 t) ∧ va_F A st t
def ev_XC (L : Nat) (xs : Nat → Int32) (D : va_G) (cA : Nat → ClassId) (A : Nat → Prop) (ad : Nat → Nat) (n0 : Nat) (o : Option Value ⊕ Nat) (μ1 : ev_H) : String → State → State → Prop := fun E st t =>
  (∃ (ex : Nat) (ad' : Nat → Nat), o = .inr ex ∧ ex < 4 ∧ E = ev_X.getD ex "" ∧ ev_Jn L xs D cA A ad ad' n0 μ1 t) ∧ va_F A st t
def ev_Ct (l : Launch) (n : Nat) : Prop := ∀ (M : Nat) (av : List Value) (μ : ev_H) (o : Option Value ⊕ Nat) (μ1 : ev_H) (ad : Nat → Nat) (L : Nat) (xs : Nat → Int32) (D : va_G) (cA : Nat → ClassId) (sz : Nat),
  M < ev_nm → M ≠ ev_lawM → ev_run n (ev_k1 M) (ev_k2 M) M 0 (ev_en M av) [] μ = some (o, μ1) → ev_sl μ.1 av → (ev_ar av).length ≤ ev_ml M →
  vx_Met l (ev_y M) (ev_wd M :: ev_gw) (ev_rm M) (ev_Pc L xs D cA ad μ av sz) (ev_Qc L xs D cA (va_A (ev_ws ad cA μ) sz) ad μ.1 o μ1) (ev_XC L xs D cA (va_A (ev_ws ad cA μ) sz) ad μ.1 o μ1) (ev_k1 M) (ev_k2 M) (va_A (ev_ws ad cA μ) sz)
theorem ev_Pc_blind {L : Nat} {xs : Nat → Int32} {D : va_G} {cA : Nat → ClassId} {ad : Nat → Nat} {μ : ev_H} {av : List Value} {sz : Nat} : FrameBlind (ev_Pc L xs D cA ad μ av sz) := by
  intro a U g mk q
  obtain ⟨q1, q2, h1, h2, h3, h4, h5, h6, h7, h8, h9⟩ := q
  exact ⟨q1, q2, h1, h2, h3.moved (u := U) (U := U.calling g mk a) (Vm.Alike.refl U.vm), h4, h5, h6, h7, h8.moved (u := U) (U := U.calling g mk a) (Vm.Alike.refl U.vm), h9.warm (U := U.calling g mk a) (State.WarmedH.refl U)⟩
/-- handlers: the table, and what the evaluator has of it -/
def ev_xl (ct : Nat) : Option Nat := (ev_xt.find? (fun e => e.1 == 12 && e.2.1 == ct)).map (fun e => e.2.2.1)
def ev_hck (M : Nat) : Bool := decide ((ev_hh M).length = (ev_eh M).length) && ((ev_hh M).zip (ev_eh M)).all (fun q =>
  decide (q.1.1 = q.2.1 ∧ q.1.2.1 = q.2.2.1 ∧ q.1.2.2.2 ≠ 0 ∧ ev_xl q.1.2.2.2 = some q.2.2.2.1 ∧ q.2.2.2.1 < 4 ∧ ev_ci M = 12 ∧ q.2.2.2.2.2 < ev_ml M) &&
  (decide (decode (ev_cd M) q.1.2.2.1 = .ok (.astore q.2.2.2.2.2, 2) ∧ q.2.2.2.2.1 = q.1.2.2.1 + 2) || (decide (q.2.2.2.2.1 = q.1.2.2.1 + 1) && (List.range 4).any (fun j => decide (j = q.2.2.2.2.2) && decide (decode (ev_cd M) q.1.2.2.1 = .ok (.astore_n (Fin.ofNat 4 j), 1))))))
set_option maxRecDepth 100000 in
theorem ev_hck_0 : ∀ r, r < 25 → (ev_hck (25 * 0 + r) || decide (25 * 0 + r = ev_lawM ∨ ev_nm ≤ 25 * 0 + r)) = true := by decide +kernel
set_option maxRecDepth 100000 in
theorem ev_hck_1 : ∀ r, r < 25 → (ev_hck (25 * 1 + r) || decide (25 * 1 + r = ev_lawM ∨ ev_nm ≤ 25 * 1 + r)) = true := by decide +kernel
set_option maxRecDepth 100000 in
theorem ev_hck_2 : ∀ r, r < 25 → (ev_hck (25 * 2 + r) || decide (25 * 2 + r = ev_lawM ∨ ev_nm ≤ 25 * 2 + r)) = true := by decide +kernel
set_option maxRecDepth 100000 in
theorem ev_hck_3 : ∀ r, r < 25 → (ev_hck (25 * 3 + r) || decide (25 * 3 + r = ev_lawM ∨ ev_nm ≤ 25 * 3 + r)) = true := by decide +kernel
set_option maxRecDepth 100000 in
theorem ev_hck_4 : ∀ r, r < 25 → (ev_hck (25 * 4 + r) || decide (25 * 4 + r = ev_lawM ∨ ev_nm ≤ 25 * 4 + r)) = true := by decide +kernel
set_option maxRecDepth 100000 in
theorem ev_hck_5 : ∀ r, r < 25 → (ev_hck (25 * 5 + r) || decide (25 * 5 + r = ev_lawM ∨ ev_nm ≤ 25 * 5 + r)) = true := by decide +kernel
set_option maxRecDepth 100000 in
theorem ev_hck_6 : ∀ r, r < 25 → (ev_hck (25 * 6 + r) || decide (25 * 6 + r = ev_lawM ∨ ev_nm ≤ 25 * 6 + r)) = true := by decide +kernel
set_option maxRecDepth 100000 in
theorem ev_hck_7 : ∀ r, r < 25 → (ev_hck (25 * 7 + r) || decide (25 * 7 + r = ev_lawM ∨ ev_nm ≤ 25 * 7 + r)) = true := by decide +kernel
theorem ev_hck_all {k : Nat} (h : k < ev_nm) (hl : k ≠ ev_lawM) : ev_hck k = true := by
  have e : 25 * (k / 25) + k % 25 = k := Nat.div_add_mod k 25
  have hr : k % 25 < 25 := Nat.mod_lt _ (by decide)
  have hg : k / 25 < 8 := by have : ev_nm = 189 := rfl; omega
  have key : (ev_hck k || decide (k = ev_lawM ∨ ev_nm ≤ k)) = true := by
    rw [← e]
    generalize k / 25 = g at hg
    generalize k % 25 = r at hr
    match g, hg with
    | 0, _ => exact ev_hck_0 r hr
    | 1, _ => exact ev_hck_1 r hr
    | 2, _ => exact ev_hck_2 r hr
    | 3, _ => exact ev_hck_3 r hr
    | 4, _ => exact ev_hck_4 r hr
    | 5, _ => exact ev_hck_5 r hr
    | 6, _ => exact ev_hck_6 r hr
    | 7, _ => exact ev_hck_7 r hr
  rw [Bool.or_eq_true] at key
  rcases key with q | q
  · exact q
  · rcases of_decide_eq_true q with q | q
    · exact absurd q hl
    · omega
def ev_okE (k : Nat) : Bool := (parseMethodDescriptor (ev_y k).desc).isSome && decide ((ev_kd k ≠ 0 → ev_hh k = [] ∧ ev_ci k < 12) ∧ (ev_kd k = 2 → ev_rt k = none) ∧ ev_kd k ≤ 2)
set_option maxRecDepth 100000 in
theorem ev_okE_0 : ∀ r, r < 25 → (ev_okE (25 * 0 + r) || decide (25 * 0 + r = ev_lawM ∨ ev_nm ≤ 25 * 0 + r)) = true := by decide +kernel
set_option maxRecDepth 100000 in
theorem ev_okE_1 : ∀ r, r < 25 → (ev_okE (25 * 1 + r) || decide (25 * 1 + r = ev_lawM ∨ ev_nm ≤ 25 * 1 + r)) = true := by decide +kernel
set_option maxRecDepth 100000 in
theorem ev_okE_2 : ∀ r, r < 25 → (ev_okE (25 * 2 + r) || decide (25 * 2 + r = ev_lawM ∨ ev_nm ≤ 25 * 2 + r)) = true := by decide +kernel
set_option maxRecDepth 100000 in
theorem ev_okE_3 : ∀ r, r < 25 → (ev_okE (25 * 3 + r) || decide (25 * 3 + r = ev_lawM ∨ ev_nm ≤ 25 * 3 + r)) = true := by decide +kernel
set_option maxRecDepth 100000 in
theorem ev_okE_4 : ∀ r, r < 25 → (ev_okE (25 * 4 + r) || decide (25 * 4 + r = ev_lawM ∨ ev_nm ≤ 25 * 4 + r)) = true := by decide +kernel
set_option maxRecDepth 100000 in
theorem ev_okE_5 : ∀ r, r < 25 → (ev_okE (25 * 5 + r) || decide (25 * 5 + r = ev_lawM ∨ ev_nm ≤ 25 * 5 + r)) = true := by decide +kernel
set_option maxRecDepth 100000 in
theorem ev_okE_6 : ∀ r, r < 25 → (ev_okE (25 * 6 + r) || decide (25 * 6 + r = ev_lawM ∨ ev_nm ≤ 25 * 6 + r)) = true := by decide +kernel
set_option maxRecDepth 100000 in
theorem ev_okE_7 : ∀ r, r < 25 → (ev_okE (25 * 7 + r) || decide (25 * 7 + r = ev_lawM ∨ ev_nm ≤ 25 * 7 + r)) = true := by decide +kernel
theorem ev_okE_all {k : Nat} (h : k < ev_nm) (hl : k ≠ ev_lawM) : ev_okE k = true := by
  have e : 25 * (k / 25) + k % 25 = k := Nat.div_add_mod k 25
  have hr : k % 25 < 25 := Nat.mod_lt _ (by decide)
  have hg : k / 25 < 8 := by have : ev_nm = 189 := rfl; omega
  have key : (ev_okE k || decide (k = ev_lawM ∨ ev_nm ≤ k)) = true := by
    rw [← e]
    generalize k / 25 = g at hg
    generalize k % 25 = r at hr
    match g, hg with
    | 0, _ => exact ev_okE_0 r hr
    | 1, _ => exact ev_okE_1 r hr
    | 2, _ => exact ev_okE_2 r hr
    | 3, _ => exact ev_okE_3 r hr
    | 4, _ => exact ev_okE_4 r hr
    | 5, _ => exact ev_okE_5 r hr
    | 6, _ => exact ev_okE_6 r hr
    | 7, _ => exact ev_okE_7 r hr
  rw [Bool.or_eq_true] at key
  rcases key with q | q
  · exact q
  · rcases of_decide_eq_true q with q | q
    · exact absurd q hl
    · omega
theorem ev_ct_law : ∀ e ∈ ev_ct, e.2.2.1 ≠ ev_lawM := by decide +kernel
end
section
/-! Soundness of the evaluator: a frame, by induction on the evaluator's fuel. -/
theorem ev_Jn.agree {L : Nat} {xs : Nat → Int32} {D : va_G} {cA : Nat → ClassId} {A : Nat → Prop} {ad ad1 ad2 : Nat → Nat} {n0 n1 : Nat} (h1 : ∀ a, a < n0 → ad1 a = ad a) (h2 : ∀ a, a < n1 → ad2 a = ad1 a) (h : n0 ≤ n1) : ∀ a, a < n0 → ad2 a = ad a := fun a ha => (h2 a (Nat.lt_of_lt_of_le ha h)).trans (h1 a ha)
section EVS
/-- what a frame's end must give -/
def ev_Hr (p : Program) (l : Launch) (e : Env) (R : Room) (s : State) (m : MethodId) (args : Array Value) (below : List Frame) (meth : Method) (c : Code) (Q : State → Prop) (M L : Nat) (xs : Nat → Int32) (D : va_G) (cA : Nat → ClassId) (A : Nat → Prop) (ad : Nat → Nat) (n0 : Nat) (o : Option Value ⊕ Nat) (μ1 : ev_H) : Prop :=
  ∀ (v : Option Value) (ad' : Nat → Nat) (H' : Heap) (locs' : List Loc) (pc' : Nat) (ls' : Array Slot) (i : Instr) (n : Nat) (st' : List Value), o = .inl v → (∀ a, a < n0 → ad' a = ad a) → n0 ≤ μ1.1 → ev_I L xs D cA A s ad' μ1 H' locs' → ev_rv (ev_rt M) i n st' = some v → decode (ev_cd M) pc' = .ok (i, n) → ev_sl μ1.1 st' → W p l e R s m args below meth c H' locs' R.cells R.slots Q (F0 m pc' ls' (st'.map (ev_v ad')))
def ev_Ht (p : Program) (l : Launch) (e : Env) (R : Room) (s : State) (m : MethodId) (args : Array Value) (below : List Frame) (meth : Method) (c : Code) (Q : State → Prop) (M L : Nat) (xs : Nat → Int32) (D : va_G) (cA : Nat → ClassId) (A : Nat → Prop) (ad : Nat → Nat) (n0 : Nat) (o : Option Value ⊕ Nat) (μ1 : ev_H) : Prop :=
  ∀ (ex : Nat) (ad' : Nat → Nat) (H' : Heap) (locs' : List Loc) (cells' slots' pc' : Nat) (ls' : Array Slot), o = .inr ex → ev_th2 M pc' = some ex → (∀ a, a < n0 → ad' a = ad a) → n0 ≤ μ1.1 → ev_I L xs D cA A s ad' μ1 H' locs' → cells' + 1 ≤ R.cells → slots' + 6 ≤ R.slots → ls'.size = c.maxLocals → 8 ≤ ev_dp M → 130 ≤ ev_lc M → W p l e R s m args below meth c H' locs' cells' slots' Q (F0 m pc' ls' [])
def ev_Hp (p : Program) (l : Launch) (e : Env) (R : Room) (s : State) (m : MethodId) (args : Array Value) (below : List Frame) (meth : Method) (c : Code) (Q : State → Prop) (M L : Nat) (xs : Nat → Int32) (D : va_G) (cA : Nat → ClassId) (A : Nat → Prop) (ad : Nat → Nat) (n0 : Nat) (o : Option Value ⊕ Nat) (μ1 : ev_H) : Prop :=
  ∀ (ex : Nat) (ad' : Nat → Nat) (H' : Heap) (locs' : List Loc) (cells' slots' pc' : Nat) (ls' : Array Slot) (rest : List Value) (q : Addr) (ce : Cell), o = .inr ex → ev_eh M = [] → (∀ a, a < n0 → ad' a = ad a) → n0 ≤ μ1.1 → ev_I L xs D cA A s ad' μ1 H' locs' → cells' ≤ R.cells → slots' ≤ R.slots → ex < 4 → H'[q]? = some ce → ce.vm = .none → s.vm.findClass (ev_X.getD ex "") = some ce.cls → vx_W p l e R s m args below meth c H' locs' cells' slots' Q (F0 m pc' ls' rest) q
def ev_P (l : Launch) (n : Nat) : Prop := ∀ (p : Program) (e : Env) (R : Room) (s : State) (m : MethodId) (args : Array Value) (below : List Frame) (meth : Method) (c : Code) (M b z pc : Nat) (lo : ev_L) (st : List Value) (μ : ev_H) (o : Option Value ⊕ Nat) (μ1 : ev_H) (H : Heap) (locs : List Loc) (cells slots : Nat) (ls : Array Slot) (ad : Nat → Nat) (L : Nat) (xs : Nat → Int32) (D : va_G) (cA : Nat → ClassId) (A : Nat → Prop) (Q : State → Prop),
  ev_run n b z M pc lo st μ = some (o, μ1) → M < ev_nm → p.tables.exec = Jvm.exec → c.code = ev_cd M → c.maxLocals = ev_ml M → s.vm.findClass (ev_own (ev_ci M)) = some m.cls → (∀ w ∈ ev_gw, w.before args s = true) → (ev_kd M = 2 → meth.name = "<init>") → ev_dp M ≤ R.frames → ev_lc M ≤ R.locals → (M ≠ ev_lawM → c.exceptionTable.toList = tableOf (ev_hh M)) → meth.locks = false →
  ev_I L xs D cA A s ad μ H locs → ev_sl μ.1 st → ev_ll μ.1 lo → lo.length = ev_ml M → ev_lr ad ls lo → cells + b ≤ R.cells → slots + z ≤ R.slots →
  ev_Hr p l e R s m args below meth c Q M L xs D cA A ad μ.1 o μ1 → ev_Ht p l e R s m args below meth c Q M L xs D cA A ad μ.1 o μ1 → ev_Hp p l e R s m args below meth c Q M L xs D cA A ad μ.1 o μ1 →
  W p l e R s m args below meth c H locs cells slots Q (F0 m pc ls (st.map (ev_v ad)))
variable {p : Program} {l : Launch} {e : Env} {R : Room} {s : State} {m : MethodId} {args : Array Value} {below : List Frame} {meth : Method} {c : Code} {Q : State → Prop} {M L : Nat} {xs : Nat → Int32} {D : va_G} {cA : Nat → ClassId} {A : Nat → Prop} {ad ad1 : Nat → Nat} {n0 n1 : Nat} {o : Option Value ⊕ Nat} {μ1 : ev_H}
theorem ev_Hr.on (h : ev_Hr p l e R s m args below meth c Q M L xs D cA A ad n0 o μ1) (h1 : ∀ a, a < n0 → ad1 a = ad a) (h2 : n0 ≤ n1) : ev_Hr p l e R s m args below meth c Q M L xs D cA A ad1 n1 o μ1 :=
  fun v ad' H' locs' pc' ls' i n st' a1 a2 a3 => h v ad' H' locs' pc' ls' i n st' a1 (fun a ha => (a2 a (Nat.lt_of_lt_of_le ha h2)).trans (h1 a ha)) (Nat.le_trans h2 a3)
theorem ev_Ht.on (h : ev_Ht p l e R s m args below meth c Q M L xs D cA A ad n0 o μ1) (h1 : ∀ a, a < n0 → ad1 a = ad a) (h2 : n0 ≤ n1) : ev_Ht p l e R s m args below meth c Q M L xs D cA A ad1 n1 o μ1 :=
  fun ex ad' H' locs' cells' slots' pc' ls' a0 a1 a2 a3 => h ex ad' H' locs' cells' slots' pc' ls' a0 a1 (fun a ha => (a2 a (Nat.lt_of_lt_of_le ha h2)).trans (h1 a ha)) (Nat.le_trans h2 a3)
theorem ev_Hp.on (h : ev_Hp p l e R s m args below meth c Q M L xs D cA A ad n0 o μ1) (h1 : ∀ a, a < n0 → ad1 a = ad a) (h2 : n0 ≤ n1) : ev_Hp p l e R s m args below meth c Q M L xs D cA A ad1 n1 o μ1 :=
  fun ex ad' H' locs' cells' slots' pc' ls' rest q ce a0 a1 a2 a3 => h ex ad' H' locs' cells' slots' pc' ls' rest q ce a0 a1 (fun a ha => (a2 a (Nat.lt_of_lt_of_le ha h2)).trans (h1 a ha)) (Nat.le_trans h2 a3)
theorem ev_narrow {H : Heap} {locs : List Loc} {μ : ev_H} (hI : ev_I L xs D cA A s ad μ H locs) : ∀ q, va_A (ev_ws ad cA μ) H.size q → A q := by
  obtain ⟨-, -, -, -, hD, hS, hA, -, -⟩ := hI
  intro q hq
  rcases hq with ⟨k, e1, hk⟩ | hq
  · exact hD.2 k _ hk
  · exact hA q (Nat.le_trans hS.1 hq)
theorem ev_pre {H : Heap} {locs : List Loc} {μ : ev_H} {av : List Value} (hI : ev_I L xs D cA A s ad μ H locs) {U : State} (hU : U.heap = H) (hW : s.WarmedH U.vm) : ev_Pc L xs D cA ad μ av H.size (av.map (ev_v ad)).toArray U := by
  have hn := ev_narrow hI
  obtain ⟨i1, i2, hK, hP, hD, hS, hA, i8, i9⟩ := hI
  exact ⟨rfl, by rw [hU], i1, i2, hK.moved hW.alike, by rw [hU]; exact hP, hD.self, va_S.rf, fun q hq => Or.inr (by rw [hU] at hq; exact hq), by rw [hU]; exact ((i8.kept hS.2.1).narrow hn).moved hW.alike, i9.warm hW⟩
theorem ev_met {y : MethodName} {ws : List Cond} {rm : Room} {Pc : Array Value → State → Prop} {mc ms : Nat} {free : Addr → Prop} {A1 : Nat → Prop} {v : Option Value} (h : vx_Met l y ws rm Pc (ev_Qc L xs D cA A1 ad n0 (.inl v) μ1) (ev_XC L xs D cA A1 ad n0 (.inl v) μ1) mc ms free) : Met l y ws rm Pc (ev_Qc L xs D cA A1 ad n0 (.inl v) μ1) mc ms free := by
  intro p e ha hc hk s m args below hf happ hP hT
  obtain ⟨t, o1, h1, h2, h3, h4⟩ := h p e ha hc hk s m args below hf happ hP hT
  refine ⟨t, o1, h1, h2, h3, ?_⟩
  rcases h4 with h4 | ⟨q, hq, hx⟩
  · exact h4
  · obtain ⟨E, ce, LL, ⟨⟨ex, ad', h9, -⟩, -⟩, -⟩ := hx
    cases h9
/-- a call's words out of the tables, with what its contract asks -/
theorem ev_call {H : Heap} {locs : List Loc} {cells slots n pc : Nat} {ls : Array Slot} {st : List Value} {μ : ev_H} {t k : Nat} {i : Instr} (hC : ev_Ct l n) (hx : p.tables.exec = Jvm.exec) (hb : c.code = ev_cd M) (hml : c.maxLocals = ev_ml M) (hown : s.vm.findClass (ev_own (ev_ci M)) = some m.cls) (hts : ∀ w ∈ ev_gw, w.before args s = true) (hdp : ev_dp M ≤ R.frames) (hlc : ev_lc M ≤ R.locals)
    (hI : ev_I L xs D cA A s ad μ H locs) (hs : ev_sl μ.1 st) (hls : ls.size = ev_ml M) (hiv : ev_iv M i 3 = some (t, k)) (ht : t < 1000) (hdg : decode (ev_cd M) pc = .ok (i, 3))
    (hc : ev_kd t = k ∧ ev_na t ≤ st.length ∧ ((st.drop (ev_na t)).map Value.category).sum ≤ 8 ∧ ev_dp t + 1 ≤ ev_dp M ∧ 8 + (ev_ml t + 11) + ev_lc t ≤ ev_lc M ∧ (ev_ar (st.take (ev_na t)).reverse).length ≤ ev_ml t ∧ ev_rc t k (st.take (ev_na t)).reverse μ = true)
    (hko : ev_kd t = 2 → ∃ v, o = .inl v) (hr : ev_run n (ev_k1 t) (ev_k2 t) t 0 (ev_en t (st.take (ev_na t)).reverse) [] μ = some (o, μ1)) (hR : cells + ev_k1 t ≤ R.cells ∧ slots + ev_k2 t ≤ R.slots) :
    ∃ a0 : Array Value, vx_Run p l e R s m args below meth c H locs cells slots (ev_k1 t) (ev_k2 t) (F0 m pc ls (st.map (ev_v ad))) ((st.drop (ev_na t)).map (ev_v ad)) (ev_Qc L xs D cA (va_A (ev_ws ad cA μ) H.size) ad μ.1 o μ1 a0) (ev_XC L xs D cA (va_A (ev_ws ad cA μ) H.size) ad μ.1 o μ1) (va_A (ev_ws ad cA μ) H.size) := by
  obtain ⟨-, idx, pp, hcl, hi⟩ := ev_iv_ok hiv
  have hmem := ev_cl2_ok hcl
  have htl : t ≠ ev_lawM := ev_ct_law _ hmem
  obtain ⟨htn, hlw⟩ : t < ev_nm ∧ ev_w pp = some (.methodLink (ev_own (ev_ci M)) idx (ev_y t)) := by
    rcases ev_ct_ok _ hmem with q | q
    · exact absurd ht (Nat.not_lt.mpr q)
    · exact q
  have hlink := ev_gm hlw rfl
  obtain ⟨hkd, hna, hsum, hd1, hd2, hal, hrc⟩ := hc
  have hN := ev_okN_all htn htl
  unfold ev_okN at hN
  simp only [Bool.and_eq_true, decide_eq_true_eq] at hN
  obtain ⟨⟨⟨⟨⟨hN1, hN2⟩, hN3⟩, hN4⟩, hN5⟩, hN6⟩ := hN
  have hinit := ev_ginit hN6 rfl
  have hE := ev_okE_all htn htl
  unfold ev_okE at hE
  simp only [Bool.and_eq_true, decide_eq_true_eq] at hE
  obtain ⟨hE1, hE2, hE3, -⟩ := hE
  obtain ⟨sg, hsg⟩ := Option.isSome_iff_exists.mp hE1
  have hOI := ev_okI_all htn htl
  have hwd := ev_wd_in htn htl
  have hsav : ev_sl μ.1 (st.take (ev_na t)).reverse := fun v hv => hs v (List.mem_of_mem_take (List.mem_reverse.mp hv))
  have hM := hC t (st.take (ev_na t)).reverse μ o μ1 ad L xs D cA H.size htn htl hr hsav hal
  have hroom : (ev_rm t).frames + 1 ≤ R.frames ∧ 8 + (ev_ml t + 11) + (ev_rm t).locals ≤ R.locals := ⟨Nat.le_trans hd1 hdp, Nat.le_trans hd2 hlc⟩
  have hcat : (((st.drop (ev_na t)).map (ev_v ad)).map fun v => v.category).sum = ((st.drop (ev_na t)).map Value.category).sum := by
    rw [List.map_map]
    exact congrArg List.sum (List.map_congr_left fun v _ => ev_v_cat ad v)
  have hW8 : 2 * (F0 m pc ls (st.map (ev_v ad))).monitorRoom + (((st.drop (ev_na t)).map (ev_v ad)).map fun v => v.category).sum ≤ 8 := by
    show 2 * 0 + _ ≤ 8
    rw [hcat, Nat.mul_zero, Nat.zero_add]; exact hsum
  have hstk : st.map (ev_v ad) = ((st.take (ev_na t)).reverse.map (ev_v ad)).reverse ++ (st.drop (ev_na t)).map (ev_v ad) := by
    rw [← List.map_reverse, List.reverse_reverse, ← List.map_append, List.take_append_drop]
  have hlen : (st.take (ev_na t)).reverse.length = ev_na t := by rw [List.length_reverse, List.length_take]; omega
  have hna2 : ev_na t = sg.parameters.length + (if ev_kd t = 0 then 0 else 1) := by unfold ev_na; rw [hsg]; rfl
  generalize hav : (st.take (ev_na t)).reverse = av at *
  have hS : CallFix p m c (ev_cd M) (ev_ml M) s args ev_gw (ev_own (ev_ci M)) := ⟨hx, hb, hml, hown, hts⟩
  have gR : ∀ w ∈ ev_gw, ((w.onTables && w.keeps) = true ∨ ∃ ty, w = .arrayClass ty) := fun w hw => ev_gwg hw
  refine ⟨(av.map (ev_v ad)).toArray, ?_⟩
  rcases hi with ⟨hk0, hi⟩ | ⟨hk1, hi⟩ | ⟨hk2, hi⟩
  · -- static
    subst hi
    have hk00 : ev_kd t = 0 := hkd.trans hk0
    have hst : Cond.static (ev_y t) ∈ ev_gw := by
      unfold ev_okI at hOI
      rw [hk00] at hOI
      exact ev_gm (of_decide_eq_true hOI) rfl
    have hn : (av.map (ev_v ad)).length = sg.parameters.length := by rw [List.length_map, hlen, hna2, if_pos hk00]; rfl
    have hd : (ev_y t).cls ≠ "java/lang/invoke/MethodHandle" ∧ (ev_y t).cls ≠ "java/lang/invoke/VarHandle" ∧ (parseMethodDescriptor (ev_y t).desc).map (fun d => d.parameters.length) = some sg.parameters.length := ⟨hN2, hN3, by rw [hsg]; rfl⟩
    have hpre : PreS s H (ev_Pc L xs D cA ad μ av H.size) (av.map (ev_v ad)) := ⟨ev_Pc_blind, fun U hU hW => ev_pre hI hU hW⟩
    by_cases hhh : ev_hh t = []
    · have hwe : ev_wd t = .code (ev_y t) (ev_cd t) (ev_ml t) (ev_rt t) := by unfold ev_wd; rw [if_pos hhh]
      rw [hwe] at hM hwd
      exact vx_runS hS hM (va_cwS sg.parameters.length hts (ev_gS hlink hst hinit hwd) rfl rfl rfl hd hroom) hpre rfl hn hls hstk hW8 hdg hR
    · have hwe : ev_wd t = .codeWith (ev_y t) (ev_cd t) (ev_ml t) (ev_rt t) (ev_hh t) := by unfold ev_wd; rw [if_neg hhh]
      rw [hwe] at hM hwd
      have hG : GoodIn ev_gw (va_wsS (ev_own (ev_ci M)) idx (ev_y t) (Cond.codeWith (ev_y t) (ev_cd t) (ev_ml t) (ev_rt t) (ev_hh t) :: ev_gw)) := by
        intro x hx
        unfold va_wsS at hx
        simp only [List.cons_append, List.nil_append, List.mem_cons] at hx
        rcases hx with rfl | rfl | rfl | rfl | hx
        · exact ⟨hlink, ev_gwg hlink⟩
        · exact ⟨hst, ev_gwg hst⟩
        · exact ⟨hinit, ev_gwg hinit⟩
        · exact ⟨hwd, ev_gwg hwd⟩
        · exact ⟨hx, ev_gwg hx⟩
      exact vx_runSX hS hM (vx_cwSW sg.parameters.length hts hG rfl rfl rfl hd hroom) hpre rfl hn hls hstk hW8 hdg hR
  · -- of an object
    subst hi
    have hk11 : ev_kd t = 1 := hkd.trans hk1
    obtain ⟨hh0, hci⟩ := hE2 (by rw [hk11]; decide)
    unfold ev_okI at hOI
    rw [hk11] at hOI
    simp only [Bool.and_eq_true, decide_eq_true_eq] at hOI
    have hinst := ev_gm hOI.1 rfl
    have hsel := ev_gm hOI.2 rfl
    have hwe : ev_wd t = .code (ev_y t) (ev_cd t) (ev_ml t) (ev_rt t) := by unfold ev_wd; rw [if_pos hh0]
    rw [hwe] at hM hwd
    rw [hk1] at hrc
    unfold ev_rc at hrc
    split at hrc
    · rename_i hz; exact absurd hz (by decide)
    · rename_i a r _
      split at hrc
      · rename_i c1 fs hm
        obtain ⟨hc1, ha⟩ := of_decide_eq_true hrc
        subst hc1
        have hrecv := va_recv hI.2.2.1 hI.2.2.2.1 (ev_clget hci) (ev_ws_get (ad := ad) (cA := cA) hI.1 ha hm)
        have hC1 : (ev_C (ev_ci t)).1 = (ev_y t).cls := by rw [(ev_lay _ hci).2.2.1, hN1]
        rw [hC1] at hrecv
        have hn : (r.map (ev_v ad)).length = sg.parameters.length := by
          rw [List.length_map]
          have h1 : (Value.ref a :: r).length = ev_na t := hlen
          rw [List.length_cons, hna2, if_neg (by rw [hk11]; decide)] at h1
          omega
        have hstk2 : st.map (ev_v ad) = (r.map (ev_v ad)).reverse ++ .ref (ad a) :: (st.drop (ev_na t)).map (ev_v ad) := by
          rw [hstk, List.map_cons, List.reverse_cons, List.append_assoc]
          rfl
        exact vx_runV (C := (ev_y t).cls) (b := ad a) (As := r.map (ev_v ad)) hS hM (cwV sg.parameters.length hts (ev_gV (w0 := .tt) hlink hinst hsel hinit hwd) rfl rfl rfl ⟨rfl, hN2, hN3, by rw [hsg]; rfl⟩ hroom) ⟨ev_Pc_blind, hrecv, fun U hU hW => ev_pre hI hU hW⟩ rfl hn hls hstk2 hW8 hdg hR
      · cases hrc
    · cases hrc
  · -- a constructor
    subst hi
    have hk22 : ev_kd t = 2 := hkd.trans hk2
    obtain ⟨hh0, hci⟩ := hE2 (by rw [hk22]; decide)
    unfold ev_okI at hOI
    rw [hk22] at hOI
    have hinst := ev_gm (of_decide_eq_true hOI) rfl
    have hwe : ev_wd t = .code (ev_y t) (ev_cd t) (ev_ml t) none := by unfold ev_wd; rw [if_pos hh0, hE3 hk22]
    rw [hwe] at hM hwd
    rw [hk2] at hrc
    obtain ⟨v, rfl⟩ := hko hk22
    have hMm := ev_met hM
    unfold ev_rc at hrc
    split at hrc
    · rename_i hz; exact absurd hz (by decide)
    · rename_i a r _
      split at hrc
      · rename_i c1 fs hm
        have hn : (r.map (ev_v ad)).length = sg.parameters.length := by
          rw [List.length_map]
          have h1 : (Value.ref a :: r).length = ev_na t := hlen
          rw [List.length_cons, hna2, if_neg (by rw [hk22]; decide)] at h1
          omega
        have hstk2 : st.map (ev_v ad) = (r.map (ev_v ad)).reverse ++ .ref (ad a) :: (st.drop (ev_na t)).map (ev_v ad) := by
          rw [hstk, List.map_cons, List.reverse_cons, List.append_assoc]
          rfl
        have hG : GoodIn ev_gw (Cond.code (ev_y t) (ev_cd t) (ev_ml t) none :: ev_gw) := fun x hx => by
          rcases List.mem_cons.mp hx with rfl | hx
          · exact ⟨hwd, ev_gwg hwd⟩
          · exact ⟨hx, ev_gwg hx⟩
        have run : va_Run p l e R s m args below meth c H locs cells slots (ev_k1 t) (ev_k2 t) (F0 m pc ls (st.map (ev_v ad))) ((st.drop (ev_na t)).map (ev_v ad)) (ev_Qc L xs D cA (va_A (ev_ws ad cA μ) H.size) ad μ.1 (.inl v) μ1 (Value.ref (ad a) :: r.map (ev_v ad)).toArray) (va_A (ev_ws ad cA μ) H.size) := va_runI (b := ad a) (As := r.map (ev_v ad)) hS hMm (cwI sg.parameters.length hts hG rfl rfl rfl (hts _ hinit) (hts _ hlink) (hts _ hinst) (hN5 hk22) ⟨hN2, hN3, by rw [hsg]; rfl⟩ hroom) ⟨ev_Pc_blind, fun U hU hW => ev_pre hI hU hW⟩ rfl hn hls hstk2 hW8 hdg hR
        exact fun T hT X => Or.inl (run T hT X)
      · cases hrc
    · cases hrc
theorem ev_f_ok {pc n : Nat} {i : Instr} (h : ev_f M pc = some (i, n)) : decode (ev_cd M) pc = .ok (i, n) := by
  unfold ev_f at h
  split at h
  · rename_i r hr; cases h; exact hr
  · cases h
/-- a step, by what it is -/
theorem ev_x_inl {pc c0 s0 pc' : Nat} {lo lo' : ev_L} {st st' : List Value} {μ μ' : ev_H} (h : ev_x M pc lo st μ = some (.inl (c0, s0, pc', lo', st', μ'))) : ∃ i n, decode (ev_cd M) pc = .ok (i, n) ∧
    ((ev_pu i n st = some st' ∧ c0 = 0 ∧ s0 = 0 ∧ pc' = pc + n ∧ lo' = lo ∧ μ' = μ) ∨
     (ev_br i n pc st = some (pc', st') ∧ c0 = 0 ∧ s0 = 0 ∧ lo' = lo ∧ μ' = μ) ∨
     (∃ v, ev_ld i n lo = some v ∧ st' = v :: st ∧ c0 = 0 ∧ s0 = 0 ∧ pc' = pc + n ∧ lo' = lo ∧ μ' = μ) ∨
     (ev_so i n lo st = some (lo', st') ∧ c0 = 0 ∧ s0 = 0 ∧ pc' = pc + n ∧ μ' = μ) ∨
     (ev_me (ev_ci M) (ev_kd M) i n st μ = some (c0, s0, st', μ') ∧ pc' = pc + n ∧ lo' = lo) ∨
     (∃ t k, ev_iv M i n = some (t, k) ∧ 1000 ≤ t ∧ ev_jk t = k ∧ (st.map Value.category).sum ≤ 9 ∧ ev_jf t ≤ ev_dp M ∧ ev_jl t ≤ ev_lc M ∧ ev_jd t st μ = some (st', μ') ∧ c0 = 0 ∧ s0 = 0 ∧ pc' = pc + n ∧ lo' = lo)) := by
  unfold ev_x at h
  split at h
  · cases h
  · rename_i i n hf
    refine ⟨i, n, ev_f_ok hf, ?_⟩
    split at h
    · split at h <;> cases h
    · split at h
      · rename_i hp; cases h; exact Or.inl ⟨hp, rfl, rfl, rfl, rfl, rfl⟩
      · split at h
        · rename_i hp; cases h; exact Or.inr (Or.inl ⟨hp, rfl, rfl, rfl, rfl⟩)
        · split at h
          · rename_i hp; cases h; exact Or.inr (Or.inr (Or.inl ⟨_, hp, rfl, rfl, rfl, rfl, rfl, rfl⟩))
          · split at h
            · rename_i hp; cases h; exact Or.inr (Or.inr (Or.inr (Or.inl ⟨hp, rfl, rfl, rfl, rfl⟩)))
            · split at h
              · rename_i hp; cases h; exact Or.inr (Or.inr (Or.inr (Or.inr (Or.inl ⟨hp, rfl, rfl⟩))))
              · split at h
                · rename_i t k hp
                  split at h
                  · rename_i ht
                    split at h
                    · rename_i hc
                      cases hj : ev_jd t st μ with
                      | none => rw [hj] at h; cases h
                      | some r =>
                        rw [hj] at h
                        cases h
                        exact Or.inr (Or.inr (Or.inr (Or.inr (Or.inr ⟨t, k, hp, ht, hc.1, hc.2.1, hc.2.2.1, hc.2.2.2, hj, rfl, rfl, rfl, rfl⟩))))
                    · cases h
                  · split at h <;> cases h
                · cases hv : ev_rv (ev_rt M) i n st with
                  | none => rw [hv] at h; cases h
                  | some r => rw [hv] at h; cases h
theorem ev_x_ret {pc : Nat} {lo : ev_L} {st : List Value} {μ : ev_H} {v : Option Value} (h : ev_x M pc lo st μ = some (.inr (.inl v))) : ∃ i n, decode (ev_cd M) pc = .ok (i, n) ∧ ev_rv (ev_rt M) i n st = some v := by
  unfold ev_x at h
  split at h
  · cases h
  · rename_i i n hf
    refine ⟨i, n, ev_f_ok hf, ?_⟩
    split at h
    · split at h <;> cases h
    · split at h
      · cases h
      · split at h
        · cases h
        · split at h
          · cases h
          · split at h
            · cases h
            · split at h
              · cases h
              · split at h
                · rename_i t k hp
                  split at h
                  · split at h
                    · cases hj : ev_jd t st μ with
                      | none => rw [hj] at h; cases h
                      | some r => rw [hj] at h; cases h
                    · cases h
                  · split at h <;> cases h
                · cases hv : ev_rv (ev_rt M) i n st with
                  | none => rw [hv] at h; cases h
                  | some r => rw [hv] at h; cases h; rfl
theorem ev_x_call {pc t : Nat} {lo : ev_L} {st av st' : List Value} {μ : ev_H} (h : ev_x M pc lo st μ = some (.inr (.inr (.inl (t, av, st'))))) : ∃ i k, decode (ev_cd M) pc = .ok (i, 3) ∧ ev_iv M i 3 = some (t, k) ∧ t < 1000 ∧ av = (st.take (ev_na t)).reverse ∧ st' = st.drop (ev_na t) ∧ (ev_kd t = k ∧ ev_na t ≤ st.length ∧ ((st.drop (ev_na t)).map Value.category).sum ≤ 8 ∧ ev_dp t + 1 ≤ ev_dp M ∧ 8 + (ev_ml t + 11) + ev_lc t ≤ ev_lc M ∧ (ev_ar (st.take (ev_na t)).reverse).length ≤ ev_ml t ∧ ev_rc t k (st.take (ev_na t)).reverse μ = true) := by
  unfold ev_x at h
  split at h
  · cases h
  · rename_i i n hf
    have hd := ev_f_ok hf
    split at h
    · split at h <;> cases h
    · split at h
      · cases h
      · split at h
        · cases h
        · split at h
          · cases h
          · split at h
            · cases h
            · split at h
              · cases h
              · split at h
                · rename_i t k hp
                  split at h
                  · split at h
                    · cases hj : ev_jd t st μ with
                      | none => rw [hj] at h; cases h
                      | some r => rw [hj] at h; cases h
                    · cases h
                  · rename_i ht
                    split at h
                    · rename_i hc
                      cases h
                      obtain ⟨rfl, -⟩ := ev_iv_ok hp
                      exact ⟨i, k, hd, hp, Nat.lt_of_not_le ht, rfl, rfl, hc⟩
                    · cases h
                · cases hv : ev_rv (ev_rt M) i n st with
                  | none => rw [hv] at h; cases h
                  | some r => rw [hv] at h; cases h
theorem ev_x_thr {pc ex : Nat} {lo : ev_L} {st : List Value} {μ : ev_H} (h : ev_x M pc lo st μ = some (.inr (.inr (.inr ex)))) : ev_th2 M pc = some ex ∧ st = [] ∧ 8 ≤ ev_dp M ∧ 130 ≤ ev_lc M := by
  unfold ev_x at h
  split at h
  · cases h
  · rename_i i n hf
    split at h
    · rename_i e1 h1
      split at h
      · rename_i hc
        cases h
        refine ⟨h1, ?_, hc.2.1, hc.2.2⟩
        cases st with
        | nil => rfl
        | cons a b => exact absurd hc.1 (by simp)
      · cases h
    · split at h
      · cases h
      · split at h
        · cases h
        · split at h
          · cases h
          · split at h
            · cases h
            · split at h
              · cases h
              · split at h
                · rename_i t k hp
                  split at h
                  · split at h
                    · cases hj : ev_jd t st μ with
                      | none => rw [hj] at h; cases h
                      | some r => rw [hj] at h; cases h
                    · cases h
                  · split at h <;> cases h
                · cases hv : ev_rv (ev_rt M) i n st with
                  | none => rw [hv] at h; cases h
                  | some r => rw [hv] at h; cases h
end EVS
end
section
/-! Soundness: the step of the induction. -/
section EVZ
theorem ev_v_ag {ad ad' : Nat → Nat} {n : Nat} {v : Value} (h : ev_vl n v) (hag : ∀ a, a < n → ad' a = ad a) : ev_v ad' v = ev_v ad v := by
  cases v with
  | ref a => show Value.ref (ad' a) = .ref (ad a); rw [hag a (h a rfl)]
  | _ => rfl
theorem ev_joinI {L : Nat} {xs : Nat → Int32} {D : va_G} {cA : Nat → ClassId} {A : Nat → Prop} {s : State} {ad ad' : Nat → Nat} {μ μ1 : ev_H} {H H1 : Heap} {locs L1 : List Loc} {st₀ t : State} (hI : ev_I L xs D cA A s ad μ H locs) (h0 : st₀.heap = H) (e1 : H1 = t.heap) (hL : ∀ q ∈ L1, va_A (ev_ws ad cA μ) H.size q.base) (hJ : ev_Jn L xs D cA (va_A (ev_ws ad cA μ) H.size) ad ad' μ.1 μ1 t) (hF : va_F (va_A (ev_ws ad cA μ) H.size) st₀ t) : ev_I L xs D cA A s ad' μ1 H1 (locs ++ L1) := by
  have hn := ev_narrow hI
  obtain ⟨i1, i2, hK, hP, hD, hS, hA, i8, i9⟩ := hI
  obtain ⟨j1, j2, j3, j4, j5, j6⟩ := hJ
  obtain ⟨f1, f2⟩ := hF
  rw [h0] at f1 f2
  subst e1
  have hagS : ∀ a, a < ev_S → ad' a = ad a := fun a ha => j1 a (Nat.lt_of_lt_of_le ha i1.1)
  refine ⟨j3, j4, hK, j5, j6.weaken (fun k q _ h => hn q.1 h), ⟨Nat.le_trans hS.1 f1, fun q h1 h2 => ?_, fun q hq => ?_⟩, hA, i8.ad hagS, i9.ad hagS⟩
  · rw [f2 q (Nat.lt_of_lt_of_le h1 hS.1) (fun z => h2 (hn q z))]
    exact hS.2.1 q h1 h2
  · rcases List.mem_append.mp hq with h | h
    · exact hS.2.2 q h
    · exact hn _ (hL q h)
theorem ev_eh_all : ∀ k, ev_eh k = [] := by
  intro k
  have h : ∀ l ∈ ev_mts, ∀ r ∈ l, r.2.2.2.2.2.2.2.2 = [] := by decide +kernel
  unfold ev_eh ev_m
  rw [List.getD_eq_getElem?_getD, List.getD_eq_getElem?_getD]
  cases h1 : ev_mts[k / 40]? with
  | none => simp only [Option.getD_none]; rfl
  | some l =>
    simp only [Option.getD_some]
    cases h2 : l[k % 40]? with
    | none => rfl
    | some r => exact h l (List.mem_of_getElem? h1) r (List.mem_of_getElem? h2)
variable {l : Launch} {n : Nat}
set_option maxHeartbeats 4000000 in
theorem ev_P_succ (hP : ev_P l n) (hC : ev_Ct l n) : ev_P l (n + 1) := by
  intro p e R s m args below meth c M b z pc lo st μ o μ1 H locs cells slots ls ad L xs D cA A Q hrun hMn hx hb hml hown hts hin hdp hlc hT hlk hI hs hll hlo hlr hb1 hz1 hHr hHt hHp
  have hsz : ls.size = ev_ml M := hlr.1.trans hlo
  rw [ev_run] at hrun
  split at hrun
  · cases hrun
  · rename_i c0 s0 pc' lo' st' μ' hxx
    split at hrun
    · rename_i hbz
      obtain ⟨i, ln, hdg, hcases⟩ := ev_x_inl hxx
      rcases hcases with ⟨h1, rfl, rfl, rfl, rfl, rfl⟩ | ⟨h1, rfl, rfl, rfl, rfl⟩ | ⟨v, h1, rfl, rfl, rfl, rfl, rfl, rfl⟩ | ⟨h1, rfl, rfl, rfl, rfl⟩ | ⟨h1, rfl, rfl⟩ | ⟨t, k, h1, h2, h3, h4, h5, h6, h7, rfl, rfl, rfl, rfl⟩
      · exact ev_pu_ok hx hb h1 hdg (hP p e R s m args below meth c M _ _ _ _ _ _ o μ1 H locs cells slots ls ad L xs D cA A Q hrun hMn hx hb hml hown hts hin hdp hlc hT hlk hI (ev_pu_lt h1 hs) hll hlo hlr hb1 hz1 hHr hHt hHp)
      · exact ev_br_ok hx hb h1 hdg (hP p e R s m args below meth c M _ _ _ _ _ _ o μ1 H locs cells slots ls ad L xs D cA A Q hrun hMn hx hb hml hown hts hin hdp hlc hT hlk hI (ev_br_lt h1 hs) hll hlo hlr hb1 hz1 hHr hHt hHp)
      · exact ev_ld_ok hx hb h1 hlr hdg (hP p e R s m args below meth c M _ _ _ _ _ _ o μ1 H locs cells slots ls ad L xs D cA A Q hrun hMn hx hb hml hown hts hin hdp hlc hT hlk hI (ev_sl_cons (ev_ld_lt h1 hll) hs) hll hlo hlr hb1 hz1 hHr hHt hHp)
      · obtain ⟨q1, q2, q3⟩ := ev_so_lt h1 hll hs
        exact ev_so_ok hx hb h1 hlr hdg (fun ls' hlr' => hP p e R s m args below meth c M _ _ _ _ _ _ o μ1 H locs cells slots ls' ad L xs D cA A Q hrun hMn hx hb hml hown hts hin hdp hlc hT hlk hI q2 q1 (q3.trans hlo) hlr' hb1 hz1 hHr hHt hHp)
      · refine ev_me_ok hx hb hown hts hin h1 hI hs ⟨by omega, by omega⟩ hdg (fun ad' H' locs' hag hle hI' hs' => ?_)
        exact hP p e R s m args below meth c M _ _ _ _ _ _ o μ1 H' locs' (cells + c0) (slots + s0) ls ad' L xs D cA A Q hrun hMn hx hb hml hown hts hin hdp hlc hT hlk hI' hs' (ev_ll_mono hll hle) hlo (ev_lr_ag hlr hll hag) (by omega) (by omega) (hHr.on hag hle) (hHt.on hag hle) (hHp.on hag hle)
      · refine ev_jd_ok hx hb (hml.trans hsz.symm) hown hts h1 h2 h3 h4 (Nat.le_trans h5 hdp) (Nat.le_trans h6 hlc) h7 hI hs ⟨by omega, by omega⟩ hdg (fun ad' H' locs' hag hle hI' hs' => ?_)
        exact hP p e R s m args below meth c M _ _ _ _ _ _ o μ1 H' locs' cells slots ls ad' L xs D cA A Q hrun hMn hx hb hml hown hts hin hdp hlc hT hlk hI' hs' (ev_ll_mono hll hle) hlo (ev_lr_ag hlr hll hag) hb1 hz1 (hHr.on hag hle) (hHt.on hag hle) (hHp.on hag hle)
    · cases hrun
  · rename_i v hxx
    cases hrun
    obtain ⟨i, ln, hdg, hrv⟩ := ev_x_ret hxx
    exact W.widen (by omega) (by omega) (hHr v ad H locs pc ls i ln st rfl (fun _ _ => rfl) (Nat.le_refl _) hI hrv hdg hs)
  · rename_i t av st' hxx
    split at hrun
    · rename_i hbz
      obtain ⟨i, k, hdg, hiv, ht, rfl, rfl, hc⟩ := ev_x_call hxx
      have hsd : ev_sl μ.1 (st.drop (ev_na t)) := fun v hv => hs v (List.mem_of_mem_drop hv)
      split at hrun
      · rename_i v μ' hr
        obtain ⟨a0, run⟩ := ev_call (below := below) (meth := meth) (locs := locs) (cells := cells) (slots := slots) (o := .inl v) (μ1 := μ') hC hx hb hml hown hts hdp hlc hI hs hsz hiv ht hdg hc (fun _ => ⟨v, rfl⟩) hr ⟨by omega, by omega⟩
        intro T hTh X
        rcases run T hTh X with ⟨v1, st₀, t1, T', L1, h0, X', hL, e1, e2, ⟨⟨v2, ad', hv2, hoc, hvl, hJ⟩, hF⟩, hgo⟩ | ⟨q, st₀, t1, T', L1, E, ce, h0, X', hL, e1, e2, ⟨⟨ex, ad', hex, -⟩, -⟩, -⟩
        · cases hv2
          have hv1 : v1 = v.map (ev_v ad') := Outcome.returned.inj hoc
          subst hv1
          have hI' := ev_joinI hI h0 e1 hL hJ hF
          have hag := hJ.1
          have hle := hJ.2.1
          have hsN : ev_sl μ'.1 (v.toList ++ st.drop (ev_na t)) := fun w hw => by
            rcases List.mem_append.mp hw with q | q
            · cases v with
              | none => cases q
              | some x => rw [List.mem_singleton.mp q]; exact hvl x rfl
            · exact ev_vl_mono (hsd w q) hle
          have h9 := hP p e R s m args below meth c M _ _ _ _ _ _ o μ1 T'.heap (locs ++ L1) (cells + ev_k1 t) (slots + ev_k2 t) ls ad' L xs D cA A Q hrun hMn hx hb hml hown hts hin hdp hlc hT hlk hI' hsN (ev_ll_mono hll hle) hlo (ev_lr_ag hlr hll hag) (by omega) (by omega) (hHr.on hag hle) (hHt.on hag hle) (hHp.on hag hle)
          obtain ⟨t2, g1, g2⟩ := h9 T' rfl X'
          refine ⟨t2, hgo t2 ?_, g2⟩
          have hst : ((v.toList ++ st.drop (ev_na t)).map (ev_v ad')) = (v.map (ev_v ad')).toList ++ (st.drop (ev_na t)).map (ev_v ad) := by
            rw [List.map_append, ev_st_ag hsd hag]
            cases v <;> rfl
          rw [hst] at g1
          exact g1
        · cases hex
      · rename_i ex μ' hr
        by_cases hk2 : ev_kd t = 2
        · rw [if_pos hk2] at hrun; cases hrun
        rw [if_neg hk2] at hrun
        obtain ⟨a0, run⟩ := ev_call (below := below) (meth := meth) (locs := locs) (cells := cells) (slots := slots) (o := .inr ex) (μ1 := μ') hC hx hb hml hown hts hdp hlc hI hs hsz hiv ht hdg hc (fun z => absurd z hk2) hr ⟨by omega, by omega⟩
        intro T hTh X
        rcases run T hTh X with ⟨v1, st₀, t1, T', L1, h0, X', hL, e1, e2, ⟨⟨v2, ad', hv2, -⟩, -⟩, -⟩ | ⟨q, st₀, t1, T', L1, E, ce, h0, X', hL, e1, e2, ⟨⟨ex2, ad', hex, hx4, hE, hJ⟩, hF⟩, hce, hcv, hcl, hgo⟩
        · cases hv2
        · cases hex
          subst hE
          have hI' := ev_joinI hI h0 e1 hL hJ hF
          have hag := hJ.1
          have hle := hJ.2.1
          rw [← e1] at hce
          have key : vx_W p l e R s m args below meth c T'.heap (locs ++ L1) (cells + ev_k1 t) (slots + ev_k2 t) Q (F0 m pc ls ((st.drop (ev_na t)).map (ev_v ad))) q := by
            split at hrun
            · rename_i pc' i' hhd
              unfold ev_hd at hhd
              rw [ev_eh_all] at hhd
              cases hhd
            · split at hrun
              · rename_i hem
                cases hrun
                exact hHp ex ad' T'.heap (locs ++ L1) _ _ pc ls _ q ce rfl (List.isEmpty_iff.mp hem) hag hle hI' (by omega) (by omega) hx4 hce hcv hcl
              · cases hrun
          obtain ⟨t2, g1, g2⟩ := key T' rfl X'
          exact ⟨t2, hgo.trans g1, g2⟩
      · cases hrun
    · cases hrun
  · rename_i ex hxx
    split at hrun
    · rename_i hbz
      cases hrun
      obtain ⟨h1, rfl, h2, h3⟩ := ev_x_thr hxx
      exact hHt ex ad H locs cells slots pc ls rfl h1 (fun _ _ => rfl) (Nat.le_refl _) hI (by omega) (by omega) (hsz.trans hml.symm) h2 h3
    · cases hrun
end EVZ
end
section
/-! A method's contract out of its frame; every frame, by induction. -/
section EVB
variable {p : Program} {l : Launch} {e : Env} {R : Room} {s : State} {m : MethodId} {args : Array Value} {below : List Frame} {meth : Method} {c : Code} {M L : Nat} {xs : Nat → Int32} {D : va_G} {cA : Nat → ClassId} {A : Nat → Prop} {ad : Nat → Nat} {o : Option Value ⊕ Nat} {μ1 : ev_H} {n0 mc ms : Nat}
theorem ev_vl_of {N : Nat} {v : Value} {st : List Value} (h : ev_sl N (v :: st)) : ev_vl N v := h v List.mem_cons_self
theorem ev_return {XC : String → State → State → Prop} (hx : p.tables.exec = Jvm.exec) (hb : c.code = ev_cd M) (hrt : meth.sig.returnType = ev_rt M) (hlk : meth.locks = false) :
    ev_Hr p l e R s m args below meth c (vx_MQ below (ev_Qc L xs D cA A ad n0 o μ1) XC args s R.cells R.slots A) M L xs D cA A ad n0 o μ1 := by
  intro v ad' H' locs' pc' ls' i n st' ho hag hle hI hrv hdg hs
  obtain ⟨i1, i2, hK, hP, hD, hS, hA, i8, i9⟩ := hI
  have fin : ∀ w : Option Value, v = w → (∀ x, w = some x → ev_vl μ1.1 x) → ∀ t : State, t.heap = H' → s.WarmedH t.vm → ev_Qc L xs D cA A ad n0 o μ1 args s (.returned (w.map (ev_v ad'))) t := by
    intro w hw hv t ht _
    exact ⟨⟨w, ad', by rw [ho, hw], rfl, hv, hag, hle, i1, i2, by rw [ht]; exact hP, hD⟩, hS.F ht⟩
  unfold ev_rv at hrv
  split at hrv
  · split at hrv
    · rename_i h0
      cases hrv
      exact vx_ret (W.vret hx hb (hrt.trans h0) (fin none rfl (fun x h => nomatch h)) hS.2.2 hdg hlk)
    · cases hrv
  · rename_i x
    split at hrv
    · rename_i ty h0
      split at hrv
      · rename_i h1
        cases hrv
        exact vx_ret (W.zret hx hb (hrt.trans h0) h1 (fin (some (.int x)) rfl (fun y h => by cases h; exact ev_vl_of hs)) hS.2.2 hdg hlk)
      · cases hrv
    · cases hrv
  · rename_i x
    split at hrv
    · rename_i cn h0
      cases hrv
      exact vx_ret (W.aret hx hb (hrt.trans h0) (Or.inl ⟨_, rfl⟩) (Or.inr ⟨ad' x, rfl⟩) (fin (some (.ref x)) rfl (fun y h => by cases h; exact ev_vl_of hs)) hS.2.2 hdg hlk)
    · cases hrv
  · rename_i x
    split at hrv
    · rename_i h0
      cases hrv
      exact vx_ret (W.fret hx hb (hrt.trans h0) (fin (some (.float x)) rfl (fun y h => by cases h; exact ev_vl_of hs)) hS.2.2 hdg hlk)
    · cases hrv
  · rename_i x
    split at hrv
    · rename_i h0
      cases hrv
      exact vx_ret (W.dret hx hb (hrt.trans h0) (fin (some (.double x)) rfl (fun y h => by cases h; exact ev_vl_of hs)) hS.2.2 hdg hlk)
    · cases hrv
  · cases hrv
theorem ev_pass {Qc : Array Value → State → Outcome → State → Prop} (hM : M < ev_nm) (hl : M ≠ ev_lawM) (htb : c.exceptionTable.toList = tableOf (ev_hh M)) (hlk : meth.locks = false) (hmc : R.cells ≤ mc) (hms : R.slots ≤ ms) :
    ev_Hp p l e R s m args below meth c (vx_MQ below Qc (ev_XC L xs D cA A ad n0 o μ1) args s mc ms A) M L xs D cA A ad n0 o μ1 := by
  intro ex ad' H' locs' cells' slots' pc' ls' rest q ce ho heh hag hle hI hc hs hex hce hcv hcl
  obtain ⟨i1, i2, hK, hP, hD, hS, hA, i8, i9⟩ := hI
  have h0 : ev_hh M = [] := by
    have h1 := ev_hck_all hM hl
    unfold ev_hck at h1
    rw [heh] at h1
    simp only [Bool.and_eq_true, decide_eq_true_eq, List.length_nil] at h1
    exact List.length_eq_zero_iff.mp h1.1
  refine vx_out (fun x hx => ?_) hlk hce hcv hcl (fun t ht _ => ?_) hS.2.2 (Nat.le_trans hc hmc) (Nat.le_trans hs hms)
  · rw [htb, h0] at hx
    cases hx
  · exact ⟨⟨ex, ad', ho, hex, rfl, hag, hle, i1, i2, by rw [ht]; exact hP, hD⟩, hS.F ht⟩
theorem ev_body {n sz : Nat} {av : List Value} {μ : ev_H} {s₁ : State} (hst : l.stackTraces = false) (hP : ev_P l n) (hM : M < ev_nm) (hl : M ≠ ev_lawM) (hr : ev_run n (ev_k1 M) (ev_k2 M) M 0 (ev_en M av) [] μ = some (o, μ1)) (hs : ev_sl μ.1 av) (hal : (ev_ar av).length ≤ ev_ml M)
    (B : BodyLoose p l (ev_y M) (headSpec (ev_wd M :: ev_gw) (ev_rm M)) (ev_cd M) (ev_ml M) (ev_rt M) e s m args below meth c s₁) (hml : c.maxLocals = ev_ml M) (htb : c.exceptionTable.toList = tableOf (ev_hh M)) (hPc : ev_Pc L xs D cA ad μ av sz args s) :
    W p l e (headSpec (ev_wd M :: ev_gw) (ev_rm M)).room s m args below meth c s.heap [] 0 0 (vx_MQ below (ev_Qc L xs D cA (va_A (ev_ws ad cA μ) sz) ad μ.1 o μ1) (ev_XC L xs D cA (va_A (ev_ws ad cA μ) sz) ad μ.1 o μ1) args s (ev_k1 M) (ev_k2 M) (va_A (ev_ws ad cA μ) sz)) (entryFrame m args (ev_ml M)) := by
  obtain ⟨ha, -, hI⟩ := hPc
  subst ha
  have hts : ∀ w ∈ ev_gw, w.before (av.map (ev_v ad)).toArray s = true := fun w hw => atoms_spec (ws := ev_wd M :: ev_gw) B.pre w (List.mem_cons_of_mem _ hw)
  have hN := ev_okN_all hM hl
  unfold ev_okN at hN
  simp only [Bool.and_eq_true, decide_eq_true_eq] at hN
  obtain ⟨⟨⟨⟨⟨hN1, -⟩, -⟩, -⟩, hN5⟩, -⟩ := hN
  have hown : s.vm.findClass (ev_own (ev_ci M)) = some m.cls := by
    rw [← hN1]; exact findClass_of_methodNamed B.named
  have hin : ev_kd M = 2 → meth.name = "<init>" := fun h2 => ((name_of_methodNamed B.named B.method).1).trans (hN5 h2)
  have hlen := ev_ar_len ad av
  rw [lg_entry_eq]
  have hlr : ev_lr ad ((lg_sl (av.map (ev_v ad)) ++ List.replicate (ev_ml M - (lg_sl (av.map (ev_v ad))).length) Slot.unset).toArray) (ev_en M av) := by
    unfold ev_lr
    rw [ev_en_len hal]
    unfold ev_en
    rw [ev_ar_al]
    exact lv_entry _ (by rw [hlen]; exact hal)
  exact hP p e (ev_rm M) s m _ below meth c M (ev_k1 M) (ev_k2 M) 0 (ev_en M av) [] μ o μ1 s.heap [] 0 0 _ ad L xs D cA _ _ hr hM B.exec B.bytes hml hown hts hin (Nat.le_refl _) (Nat.le_refl _) (fun _ => htb) B.notSynchronized hI (fun v hv => nomatch hv) (ev_ll_ar hs _) (ev_en_len hal) hlr
    (Nat.le_of_eq (Nat.zero_add _)) (Nat.le_of_eq (Nat.zero_add _)) (ev_return B.exec B.bytes B.returns B.notSynchronized) (fun ex ad' H' locs' cells' slots' pc' ls' _ hth => by
      exact absurd hth (by unfold ev_th2; exact fun z => nomatch z)) (ev_pass hM hl htb B.notSynchronized (Nat.le_refl _) (Nat.le_refl _))
end EVB
theorem ev_Ct_of {l : Launch} {n : Nat} (hst : l.stackTraces = false) (hP : ev_P l n) : ev_Ct l n := by
  intro M av μ o μ1 ad L xs D cA sz hM hl hr hs hal
  have hN := ev_okN_all hM hl
  unfold ev_okN at hN
  simp only [Bool.and_eq_true, decide_eq_true_eq] at hN
  obtain ⟨⟨⟨-, hpl⟩, -⟩, -⟩ := hN
  by_cases hh : ev_hh M = []
  · have hwe : ev_wd M = .code (ev_y M) (ev_cd M) (ev_ml M) (ev_rt M) := by unfold ev_wd; rw [if_pos hh]
    refine vx_ofW (cc := ev_cd M) (maxL := ev_ml M) (ret := ev_rt M) (ws' := ev_gw) hpl (by rw [hwe]) ?_
    intro p e s m args below meth c s₁ B hml ht hPc
    refine ev_body hst hP hM hl hr hs hal B hml ?_ hPc
    have h0 : c.exceptionTable.toList = [] := List.eq_nil_iff_forall_not_mem.mpr fun x hx => ht x hx
    rw [h0, hh]
    rfl
  · have hwe : ev_wd M = .codeWith (ev_y M) (ev_cd M) (ev_ml M) (ev_rt M) (ev_hh M) := by unfold ev_wd; rw [if_neg hh]
    refine vx_ofWH (cc := ev_cd M) (maxL := ev_ml M) (ret := ev_rt M) (hh := ev_hh M) (ws' := ev_gw) hpl (by rw [hwe]) ?_
    intro p e s m args below meth c s₁ B hml hPc
    refine ev_body hst hP hM hl hr hs hal B hml ?_ hPc
    exact vx_table (x := ev_y M) B (by
      have h1 := atoms_spec (ws := ev_wd M :: ev_gw) B.pre (ev_wd M) List.mem_cons_self
      rw [hwe] at h1
      exact h1)
theorem ev_all {l : Launch} (hst : l.stackTraces = false) : ∀ n, ev_P l n := by
  intro n
  induction n with
  | zero =>
    intro p e R s m args below meth c M b z pc lo st μ o μ1 H locs cells slots ls ad L xs D cA A Q hr
    cases hr
  | succ n ih => exact ev_P_succ ih (ev_Ct_of hst ih)
end
section
/-! Steps of the evaluator as equations, an instruction a row: what the rows of every method are made of. -/
section NST
variable {b z M pc n : Nat} {i : Instr} {lo lo' : ev_L} {st st' : List Value} {μ : ev_H} {a : Nat} {v : Value} {x y : Int32}
abbrev ev_F1 (M pc : Nat) (i : Instr) (n : Nat) : Prop := ev_f M pc = some (i, n) ∧ ev_th2 M pc = none
theorem ev_stuck (h : ev_x M pc lo st μ = none) : ev_dn b z M pc lo st μ = none := by
  cases hd : ev_dn b z M pc lo st μ with
  | none => rfl
  | some r =>
    obtain ⟨k, hk⟩ := ev_dn_some.mp hd
    cases k with
    | zero => cases hk
    | succ k => rw [ev_run, h] at hk; cases hk
theorem n_pu (hf : ev_F1 M pc i n) (h : ev_pu i n st = some st') : ev_dn b z M pc lo st μ = ev_dn b z M (pc + n) lo st' μ :=
  ev_next0 (by unfold ev_x; simp only [hf.1, hf.2, h])
theorem n_br {pc' : Nat} (hf : ev_F1 M pc i n) (hp : ev_pu i n st = none) (h : ev_br i n pc st = some (pc', st')) : ev_dn b z M pc lo st μ = ev_dn b z M pc' lo st' μ :=
  ev_next0 (by unfold ev_x; simp only [hf.1, hf.2, hp, h])
theorem n_if {t : Nat} {off : Int} {p : Prop} [Decidable p] {c : ClassFile.Cond} (hf : ev_F1 M pc (.ifCond c off) 3) (ht : ev_tg pc off = some t) (hc : ev_c1 c x = decide p) : ev_dn b z M pc lo (.int x :: st) μ = if p then ev_dn b z M t lo st μ else ev_dn b z M (pc + 3) lo st μ := by
  by_cases hp : p
  · rw [if_pos hp]
    exact n_br hf rfl (by unfold ev_br; simp only [ht, hc, hp, decide_true, if_true])
  · rw [if_neg hp]
    exact n_br hf rfl (by unfold ev_br; simp only [ht, hc, hp, decide_false, if_false, Bool.false_eq_true])
theorem n_ic {t : Nat} {off : Int} {p : Prop} [Decidable p] {c : ClassFile.Cond} (hf : ev_F1 M pc (.if_icmp c off) 3) (ht : ev_tg pc off = some t) (hc : ev_c2 c x y = decide p) : ev_dn b z M pc lo (.int y :: .int x :: st) μ = if p then ev_dn b z M t lo st μ else ev_dn b z M (pc + 3) lo st μ := by
  by_cases hp : p
  · rw [if_pos hp]
    exact n_br hf rfl (by unfold ev_br; simp only [ht, hc, hp, decide_true, if_true])
  · rw [if_neg hp]
    exact n_br hf rfl (by unfold ev_br; simp only [ht, hc, hp, decide_false, if_false, Bool.false_eq_true])
theorem n_go {t : Nat} {off : Int} (hf : ev_F1 M pc (.goto off) 3) (ht : ev_tg pc off = some t) : ev_dn b z M pc lo st μ = ev_dn b z M t lo st μ :=
  n_br hf rfl (by unfold ev_br; simp only [ht, Option.map_some])
theorem n_nn {off : Int} (hf : ev_F1 M pc (.ifnull off) 3) : ev_dn b z M pc lo (.ref a :: st) μ = ev_dn b z M (pc + 3) lo st μ := n_br hf rfl rfl
theorem n_ld (hf : ev_F1 M pc i n) (hp : ev_pu i n st = none) (hb : ev_br i n pc st = none) (h : ev_ld i n lo = some v) : ev_dn b z M pc lo st μ = ev_dn b z M (pc + n) lo (v :: st) μ :=
  ev_next0 (by unfold ev_x; simp only [hf.1, hf.2, hp, hb, h])
theorem n_so (hf : ev_F1 M pc i n) (hp : ev_pu i n st = none) (hb : ev_br i n pc st = none) (hl : ev_ld i n lo = none) (h : ev_so i n lo st = some (lo', st')) : ev_dn b z M pc lo st μ = ev_dn b z M (pc + n) lo' st' μ :=
  ev_next0 (by unfold ev_x; simp only [hf.1, hf.2, hp, hb, hl, h])
theorem n_div (hf : ev_F1 M pc .idiv 1) : ev_dn b z M pc lo (.int y :: .int x :: st) μ = if y = 0 then none else ev_dn b z M (pc + 1) lo (.int (x / y) :: st) μ := by
  by_cases h : y = 0
  · rw [if_pos h]
    refine ev_stuck ?_
    have e1 : ev_pu .idiv 1 (.int y :: .int x :: st) = none := if_pos h
    have e2 : ev_me (ev_ci M) (ev_kd M) .idiv 1 (.int y :: .int x :: st) μ = none := rfl
    unfold ev_x
    simp only [hf.1, hf.2, e1, show ev_br .idiv 1 pc (.int y :: .int x :: st) = none from rfl, show ev_ld .idiv 1 lo = none from rfl, show ev_so .idiv 1 lo (.int y :: .int x :: st) = none from rfl, e2, show ev_iv M .idiv 1 = none from rfl, show ev_rv (ev_rt M) .idiv 1 (.int y :: .int x :: st) = none from rfl, Option.map_none]
  · rw [if_neg h]
    exact n_pu hf (if_neg h)
theorem n_rem (hf : ev_F1 M pc .irem 1) : ev_dn b z M pc lo (.int y :: .int x :: st) μ = if y = 0 then none else ev_dn b z M (pc + 1) lo (.int (x - x / y * y) :: st) μ := by
  by_cases h : y = 0
  · rw [if_pos h]
    refine ev_stuck ?_
    have e1 : ev_pu .irem 1 (.int y :: .int x :: st) = none := if_pos h
    have e2 : ev_me (ev_ci M) (ev_kd M) .irem 1 (.int y :: .int x :: st) μ = none := rfl
    unfold ev_x
    simp only [hf.1, hf.2, e1, show ev_br .irem 1 pc (.int y :: .int x :: st) = none from rfl, show ev_ld .irem 1 lo = none from rfl, show ev_so .irem 1 lo (.int y :: .int x :: st) = none from rfl, e2, show ev_iv M .irem 1 = none from rfl, show ev_rv (ev_rt M) .irem 1 (.int y :: .int x :: st) = none from rfl, Option.map_none]
  · rw [if_neg h]
    exact n_pu hf (if_neg h)
theorem n_me {c s : Nat} {μ' : ev_H} (hf : ev_F1 M pc i n) (hp : ev_pu i n st = none) (hb : ev_br i n pc st = none) (hl : ev_ld i n lo = none) (hs : ev_so i n lo st = none) (h : ev_me (ev_ci M) (ev_kd M) i n st μ = some (c, s, st', μ')) (hz : c ≤ b ∧ s ≤ z) : ev_dn b z M pc lo st μ = ev_dn (b - c) (z - s) M (pc + n) lo st' μ' :=
  ev_next (by unfold ev_x; simp only [hf.1, hf.2, hp, hb, hl, hs, h]) hz
theorem n_mn (hf : ev_F1 M pc i n) (hp : ev_pu i n st = none) (hb : ev_br i n pc st = none) (hl : ev_ld i n lo = none) (hs : ev_so i n lo st = none) (h : ev_me (ev_ci M) (ev_kd M) i n st μ = none) (hi : ev_iv M i n = none) (hr : ev_rv (ev_rt M) i n st = none) : ev_dn b z M pc lo st μ = none :=
  ev_stuck (by unfold ev_x; simp only [hf.1, hf.2, hp, hb, hl, hs, h, hi, hr, Option.map_none])
/-! what a read or a write of memory goes on to -/
noncomputable def eg_v (o : Option Value) (b z M pc : Nat) (lo : ev_L) (st : List Value) (μ : ev_H) : ev_Q := match o with
  | some v => ev_dn b z M pc lo (v :: st) μ
  | none => none
noncomputable def eg_gf (e : Option ev_E) (ci k a b z M pc : Nat) (lo : ev_L) (st : List Value) (μ : ev_H) : ev_Q := match e with
  | some (.inl (c2, fs)) => if c2 = ci ∧ ev_S ≤ a then eg_v fs[k]? b z M pc lo st μ else none
  | _ => none
noncomputable def eg_pf (e : Option ev_E) (ci k : Nat) (v : Value) (a b z M pc : Nat) (lo : ev_L) (st : List Value) (μ : ev_H) : ev_Q := match e with
  | some (.inl (c2, fs)) => if c2 = ci ∧ ev_S ≤ a ∧ k < fs.length then ev_dn b z M pc lo st (μ.1, ev_up μ.2 a (ev_ob ci (fs.set k v))) else none
  | _ => none
noncomputable def eg_pz (e : Option ev_E) (ci k : Nat) (x : Int32) (a b z M pc : Nat) (lo : ev_L) (st : List Value) (μ : ev_H) : ev_Q := match e with
  | some (.inl (c2, fs)) => if (c2 = ci ∧ ev_S ≤ a ∧ k < fs.length) ∧ (x = 0 ∨ x = 1) then ev_dn b z M pc lo st (μ.1, ev_up μ.2 a (ev_ob ci (fs.set k (.int x)))) else none
  | _ => none
noncomputable def eg_al (e : Option ev_E) (t : Nat) (x : Int32) (a b z M pc : Nat) (lo : ev_L) (st : List Value) (μ : ev_H) : ev_Q := match e with
  | some (.inr (.inl (t2, m, f))) => if t2 = t ∧ ev_in x m = true ∧ (t = 1 → ev_S ≤ a) then ev_dn b z M pc lo (.int (f x.toNatClampNeg) :: st) μ else none
  | _ => none
noncomputable def eg_as (e : Option ev_E) (t : Nat) (x y : Int32) (a b z M pc : Nat) (lo : ev_L) (st : List Value) (μ : ev_H) : ev_Q := match e with
  | some (.inr (.inl (t2, m, f))) => if t2 = t ∧ ev_in x m = true ∧ ev_S ≤ a then ev_dn b z M pc lo st (μ.1, ev_up μ.2 a (ev_ia t m (upd f x.toNatClampNeg y))) else none
  | _ => none
noncomputable def eg_ll (e : Option ev_E) (x : Int32) (a b z M pc : Nat) (lo : ev_L) (st : List Value) (μ : ev_H) : ev_Q := match e with
  | some (.inr (.inr (.inl (m, f)))) => if ev_in x m = true ∧ ev_S ≤ a then ev_dn b z M pc lo (.long (f x.toNatClampNeg) :: st) μ else none
  | _ => none
noncomputable def eg_ls (e : Option ev_E) (x : Int32) (y : Int64) (a b z M pc : Nat) (lo : ev_L) (st : List Value) (μ : ev_H) : ev_Q := match e with
  | some (.inr (.inr (.inl (m, f)))) => if ev_in x m = true ∧ ev_S ≤ a then ev_dn b z M pc lo st (μ.1, ev_up μ.2 a (ev_la m (vp_updL f x.toNatClampNeg y))) else none
  | _ => none
noncomputable def eg_rl (e : Option ev_E) (x : Int32) (a b z M pc : Nat) (lo : ev_L) (st : List Value) (μ : ev_H) : ev_Q := match e with
  | some (.inr (.inr (.inr (m, f)))) => if ev_in x m = true ∧ ev_S ≤ a then ev_dn b z M pc lo (va_rf (f x.toNatClampNeg) :: st) μ else none
  | _ => none
noncomputable def eg_rs (e : Option ev_E) (e2 : Option ev_E) (x : Int32) (v a b z M pc : Nat) (lo : ev_L) (st : List Value) (μ : ev_H) : ev_Q := match e, e2 with
  | some (.inr (.inr (.inr (m, f)))), some (.inl (c2, _)) => if c2 = 3 ∧ ev_in x m = true ∧ ev_S ≤ a ∧ ev_S ≤ v then ev_dn b z M pc lo st (μ.1, ev_up μ.2 a (ev_ra m (va_up f x.toNatClampNeg (some v)))) else none
  | _, _ => none
noncomputable def eg_ln (e : Option ev_E) (b z M pc : Nat) (lo : ev_L) (st : List Value) (μ : ev_H) : ev_Q := match e with
  | some (.inr (.inl (t, m, _))) => if t ≤ 1 then ev_dn b z M pc lo (.int (Int32.ofNat m) :: st) μ else none
  | _ => none
noncomputable def eg_ac (e e2 : Option ev_E) (sp dp k : Int32) (a a2 b z M pc : Nat) (lo : ev_L) (st : List Value) (μ : ev_H) : ev_Q := match e, e2 with
  | some (.inr (.inl (t0, m0, f))), some (.inr (.inl (t1, m1, g))) =>
    if t0 = 0 ∧ t1 = 0 ∧ ¬ sp < 0 ∧ ¬ dp < 0 ∧ ¬ k < 0 ∧ sp.toNatClampNeg + k.toNatClampNeg ≤ m0 ∧ dp.toNatClampNeg + k.toNatClampNeg ≤ m1 ∧ ev_S ≤ a ∧ ev_S ≤ a2 then
      ev_dn b z M pc lo st (μ.1, ev_up μ.2 a2 (ev_ia 0 m1 (va_cpy f g sp.toNatClampNeg dp.toNatClampNeg k.toNatClampNeg)))
    else none
  | _, _ => none
noncomputable def eg_sl (e : Option ev_E) (b z M pc : Nat) (lo : ev_L) (st : List Value) (μ : ev_H) : ev_Q := match e with
  | some (.inr (.inl (t, m, _))) => if t = 9 then ev_dn b z M pc lo (.int (Int32.ofNat m) :: st) μ else none
  | _ => none
noncomputable def eg_sc (e : Option ev_E) (x : Int32) (b z M pc : Nat) (lo : ev_L) (st : List Value) (μ : ev_H) : ev_Q := match e with
  | some (.inr (.inl (t, m, f))) => if t = 9 ∧ ev_in x m = true then ev_dn b z M pc lo (.int (f x.toNatClampNeg) :: st) μ else none
  | _ => none
noncomputable def eg_rc (e : Option ev_E) (ci a : Nat) (q : ev_Q) : ev_Q := match e with
  | some (.inl (c, _)) => if c = ci ∧ ev_S ≤ a then q else none
  | _ => none
theorem n_mk (hf : ev_F1 M pc i n) (hp : ev_pu i n st = none) (hb : ev_br i n pc st = none) (hl : ev_ld i n lo = none) (hs : ev_so i n lo st = none) (hi : ev_iv M i n = none) (hr : ev_rv (ev_rt M) i n st = none) : ev_dn b z M pc lo st μ = match ev_me (ev_ci M) (ev_kd M) i n st μ with
    | some (c, s, st', μ') => if c ≤ b ∧ s ≤ z then ev_dn (b - c) (z - s) M (pc + n) lo st' μ' else none
    | none => none := by
  cases h : ev_me (ev_ci M) (ev_kd M) i n st μ with
  | none => exact n_mn hf hp hb hl hs h hi hr
  | some r =>
    obtain ⟨c, s, st', μ'⟩ := r
    dsimp only
    by_cases hz : c ≤ b ∧ s ≤ z
    · rw [if_pos hz]; exact n_me hf hp hb hl hs h hz
    · rw [if_neg hz]
      have hx : ev_x M pc lo st μ = some (.inl (c, s, pc + n, lo, st', μ')) := by unfold ev_x; simp only [hf.1, hf.2, hp, hb, hl, hs, h]
      cases hd : ev_dn b z M pc lo st μ with
      | none => rfl
      | some r =>
        obtain ⟨k, hk⟩ := ev_dn_some.mp hd
        cases k with
        | zero => cases hk
        | succ k =>
          rw [ev_run, hx] at hk
          simp only [if_neg hz] at hk
          cases hk
theorem n_00 {q : ev_Q} : (if 0 ≤ b ∧ 0 ≤ z then q else none) = q := if_pos ⟨Nat.zero_le _, Nat.zero_le _⟩
theorem n_gf {idx ci k t p : Nat} (hf : ev_F1 M pc (.getfield idx) 3) (hl : ev_fl (ev_ci M) idx = some (ci, k, t, p)) : ev_dn b z M pc lo (.ref a :: st) μ = eg_gf (μ.2 a) ci k a b z M (pc + 3) lo st μ := by
  rw [n_mk hf rfl rfl rfl rfl rfl rfl]
  simp only [ev_me, hl]
  match μ.2 a with
  | none => rfl
  | some (.inr _) => rfl
  | some (.inl (c2, fs)) =>
    unfold eg_gf
    dsimp only
    by_cases h : c2 = ci ∧ ev_S ≤ a
    · rw [if_pos h, if_pos h]
      cases fs[k]? with
      | none => rfl
      | some v => exact n_00
    · rw [if_neg h, if_neg h]
theorem n_pf {idx ci k t p : Nat} (hf : ev_F1 M pc (.putfield idx) 3) (hl : ev_fl (ev_ci M) idx = some (ci, k, t, p)) (hfit : ev_fit t v = true) (hfin : ((ev_C ci).2.1 k).2.2.2 = false ∨ (ev_kd M = 2 ∧ ev_ci M = ci)) : ev_dn b z M pc lo (v :: .ref a :: st) μ = eg_pf (μ.2 a) ci k v a b z M (pc + 3) lo st μ := by
  rw [n_mk hf rfl rfl rfl rfl rfl rfl]
  simp only [ev_me, hl]
  match μ.2 a with
  | none => rfl
  | some (.inr _) => rfl
  | some (.inl (c2, fs)) =>
    unfold eg_pf
    dsimp only
    by_cases h : c2 = ci ∧ ev_S ≤ a ∧ k < fs.length
    · rw [if_pos ⟨h.1, h.2.1, h.2.2, hfit, hfin⟩, if_pos h]; exact n_00
    · rw [if_neg (fun q => h ⟨q.1, q.2.1, q.2.2.1⟩), if_neg h]
theorem n_pz {idx ci k p : Nat} (hf : ev_F1 M pc (.putfield idx) 3) (hl : ev_fl (ev_ci M) idx = some (ci, k, 1, p)) (hfin : ((ev_C ci).2.1 k).2.2.2 = false ∨ (ev_kd M = 2 ∧ ev_ci M = ci)) : ev_dn b z M pc lo (.int x :: .ref a :: st) μ = eg_pz (μ.2 a) ci k x a b z M (pc + 3) lo st μ := by
  rw [n_mk hf rfl rfl rfl rfl rfl rfl]
  simp only [ev_me, hl]
  match μ.2 a with
  | none => rfl
  | some (.inr _) => rfl
  | some (.inl (c2, fs)) =>
    unfold eg_pz ev_fit
    dsimp only
    by_cases h : c2 = ci ∧ ev_S ≤ a ∧ k < fs.length
    · by_cases h2 : x = 0 ∨ x = 1
      · rw [if_pos ⟨h.1, h.2.1, h.2.2, decide_eq_true h2, hfin⟩, if_pos ⟨h, h2⟩]; exact n_00
      · rw [if_neg (fun q => h2 (of_decide_eq_true q.2.2.2.1)), if_neg (fun q => h2 q.2)]
    · rw [if_neg (fun q => h ⟨q.1, q.2.1, q.2.2.1⟩), if_neg (fun q => h q.1)]
theorem n_al (hf : ev_F1 M pc .iaload 1) : ev_dn b z M pc lo (.int x :: .ref a :: st) μ = eg_al (μ.2 a) 0 x a b z M (pc + 1) lo st μ := by
  rw [n_mk hf rfl rfl rfl rfl rfl rfl]
  simp only [ev_me]
  match μ.2 a with
  | none => rfl
  | some (.inl _) => rfl
  | some (.inr (.inr _)) => rfl
  | some (.inr (.inl (t, m, f))) =>
    unfold eg_al
    dsimp only
    by_cases h : t = 0 ∧ ev_in x m = true
    · rw [if_pos h, if_pos ⟨h.1, h.2, fun q => by cases q⟩]; exact n_00
    · rw [if_neg h, if_neg (fun q => h ⟨q.1, q.2.1⟩)]
theorem n_bl (hf : ev_F1 M pc .baload 1) : ev_dn b z M pc lo (.int x :: .ref a :: st) μ = eg_al (μ.2 a) 1 x a b z M (pc + 1) lo st μ := by
  rw [n_mk hf rfl rfl rfl rfl rfl rfl]
  simp only [ev_me]
  match μ.2 a with
  | none => rfl
  | some (.inl _) => rfl
  | some (.inr (.inr _)) => rfl
  | some (.inr (.inl (t, m, f))) =>
    unfold eg_al
    dsimp only
    by_cases h : t = 1 ∧ ev_in x m = true ∧ ev_S ≤ a
    · rw [if_pos h, if_pos ⟨h.1, h.2.1, fun _ => h.2.2⟩]; exact n_00
    · rw [if_neg h, if_neg (fun q => h ⟨q.1, q.2.1, q.2.2 rfl⟩)]
theorem n_as (hf : ev_F1 M pc .iastore 1) : ev_dn b z M pc lo (.int y :: .int x :: .ref a :: st) μ = eg_as (μ.2 a) 0 x y a b z M (pc + 1) lo st μ := by
  rw [n_mk hf rfl rfl rfl rfl rfl rfl]
  simp only [ev_me]
  match μ.2 a with
  | none => rfl
  | some (.inl _) => rfl
  | some (.inr (.inr _)) => rfl
  | some (.inr (.inl (t, m, f))) =>
    unfold eg_as
    dsimp only
    by_cases h : t = 0 ∧ ev_in x m = true ∧ ev_S ≤ a
    · rw [if_pos h, if_pos h]; exact n_00
    · rw [if_neg h, if_neg h]
theorem n_bs (hf : ev_F1 M pc .bastore 1) : ev_dn b z M pc lo (.int y :: .int x :: .ref a :: st) μ = eg_as (μ.2 a) 1 x y.toInt8.toInt32 a b z M (pc + 1) lo st μ := by
  rw [n_mk hf rfl rfl rfl rfl rfl rfl]
  simp only [ev_me]
  match μ.2 a with
  | none => rfl
  | some (.inl _) => rfl
  | some (.inr (.inr _)) => rfl
  | some (.inr (.inl (t, m, f))) =>
    unfold eg_as
    dsimp only
    by_cases h : t = 1 ∧ ev_in x m = true ∧ ev_S ≤ a
    · rw [if_pos h, if_pos h]; exact n_00
    · rw [if_neg h, if_neg h]
theorem n_rl (hf : ev_F1 M pc .aaload 1) : ev_dn b z M pc lo (.int x :: .ref a :: st) μ = eg_rl (μ.2 a) x a b z M (pc + 1) lo st μ := by
  rw [n_mk hf rfl rfl rfl rfl rfl rfl]
  simp only [ev_me]
  match μ.2 a with
  | none => rfl
  | some (.inl _) => rfl
  | some (.inr (.inl _)) => rfl
  | some (.inr (.inr (.inl _))) => rfl
  | some (.inr (.inr (.inr (m, f)))) =>
    unfold eg_rl
    dsimp only
    by_cases h : ev_in x m = true ∧ ev_S ≤ a
    · rw [if_pos h, if_pos h]; exact n_00
    · rw [if_neg h, if_neg h]
theorem n_rs {w : Nat} (hf : ev_F1 M pc .aastore 1) : ev_dn b z M pc lo (.ref w :: .int x :: .ref a :: st) μ = eg_rs (μ.2 a) (μ.2 w) x w a b z M (pc + 1) lo st μ := by
  rw [n_mk hf rfl rfl rfl rfl rfl rfl]
  simp only [ev_me]
  match μ.2 a, μ.2 w with
  | none, _ => rfl
  | some (.inl _), _ => rfl
  | some (.inr (.inl _)), _ => rfl
  | some (.inr (.inr (.inl _))), _ => rfl
  | some (.inr (.inr (.inr (m, f)))), none => rfl
  | some (.inr (.inr (.inr (m, f)))), some (.inr _) => rfl
  | some (.inr (.inr (.inr (m, f)))), some (.inl (c2, fs)) =>
    unfold eg_rs
    dsimp only
    by_cases h : c2 = 3 ∧ ev_in x m = true ∧ ev_S ≤ a ∧ ev_S ≤ w
    · rw [if_pos h, if_pos h]; exact n_00
    · rw [if_neg h, if_neg h]
theorem n_ln (hf : ev_F1 M pc .arraylength 1) : ev_dn b z M pc lo (.ref a :: st) μ = eg_ln (μ.2 a) b z M (pc + 1) lo st μ := by
  rw [n_mk hf rfl rfl rfl rfl rfl rfl]
  simp only [ev_me]
  match μ.2 a with
  | none => rfl
  | some (.inl _) => rfl
  | some (.inr (.inr _)) => rfl
  | some (.inr (.inl (t, m, f))) =>
    unfold eg_ln
    dsimp only
    by_cases h : t ≤ 1
    · rw [if_pos h, if_pos h]; exact n_00
    · rw [if_neg h, if_neg h]
theorem n_gs {idx w : Nat} (hf : ev_F1 M pc (.getstatic idx) 3) (h : ev_ci M = 1 ∧ idx = 34 ∧ w = 0) : ev_dn b z M pc lo st μ = ev_dn b z M (pc + 3) lo (.ref w :: st) μ := by
  obtain ⟨h1, h2, rfl⟩ := h
  rw [n_mk hf rfl rfl rfl rfl rfl rfl]
  simp only [ev_me]
  rw [if_pos ⟨h1, h2⟩]; exact n_00
theorem n_lc {idx p : Nat} (hf : ev_F1 M pc (.ldc idx) 2) (h : ev_ks (ev_ci M) idx = some (.int x, p)) : ev_dn b z M pc lo st μ = ev_dn b z M (pc + 2) lo (.int x :: st) μ := by
  rw [n_mk hf rfl rfl rfl rfl rfl rfl]
  simp only [ev_me, h]
  exact n_00
theorem n_lcw {idx p : Nat} (hf : ev_F1 M pc (.ldc_w idx) 3) (h : ev_ks (ev_ci M) idx = some (.int x, p)) : ev_dn b z M pc lo st μ = ev_dn b z M (pc + 3) lo (.int x :: st) μ := by
  rw [n_mk hf rfl rfl rfl rfl rfl rfl]
  simp only [ev_me, h]
  exact n_00
theorem n_lt {idx p w : Nat} {tx : String} (hf : ev_F1 M pc (.ldc idx) 2) (h : ev_ks (ev_ci M) idx = none) (h2 : ev_tx (ev_ci M) idx = some (tx, w, p)) : ev_dn b z M pc lo st μ = ev_dn b z M (pc + 2) lo (.ref w :: st) μ := by
  rw [n_mk hf rfl rfl rfl rfl rfl rfl]
  simp only [ev_me, h, h2]
  exact n_00
theorem n_ltw {idx p w : Nat} {tx : String} (hf : ev_F1 M pc (.ldc_w idx) 3) (h : ev_ks (ev_ci M) idx = none) (h2 : ev_tx (ev_ci M) idx = some (tx, w, p)) : ev_dn b z M pc lo st μ = ev_dn b z M (pc + 3) lo (.ref w :: st) μ := by
  rw [n_mk hf rfl rfl rfl rfl rfl rfl]
  simp only [ev_me, h, h2]
  exact n_00
theorem n_l2 {idx p : Nat} {w : Int64} (hf : ev_F1 M pc (.ldc2_w idx) 3) (h : ev_ks (ev_ci M) idx = some (.long w, p)) : ev_dn b z M pc lo st μ = ev_dn b z M (pc + 3) lo (.long w :: st) μ := by
  rw [n_mk hf rfl rfl rfl rfl rfl rfl]
  simp only [ev_me, h]
  exact n_00
theorem n_nw {idx ci p k : Nat} {fs : List Value} (hf : ev_F1 M pc (.new idx) 3) (h : ev_nw (ev_ci M) idx = some (ci, p)) (hk : (ev_C ci).2.2 = k) (hn : ev_new ci = fs) : ev_dn b z M pc lo st μ = if 1 ≤ b ∧ k ≤ z then ev_dn (b - 1) (z - k) M (pc + 3) lo (.ref μ.1 :: st) (μ.1 + 1, ev_up μ.2 μ.1 (ev_ob ci fs)) else none := by
  subst hk; subst hn
  rw [n_mk hf rfl rfl rfl rfl rfl rfl]
  simp only [ev_me, h]
theorem n_ni {k : Nat} (hf : ev_F1 M pc (.newarray .int) 2) (hx : x.toNatClampNeg = k) (h0 : ¬ (x < 0 ∨ 5000 < x.toNatClampNeg)) : ev_dn b z M pc lo (.int x :: st) μ = if 1 ≤ b ∧ k ≤ z then ev_dn (b - 1) (z - k) M (pc + 2) lo (.ref μ.1 :: st) (μ.1 + 1, ev_up μ.2 μ.1 (ev_ia 0 k (fun _ => 0))) else none := by
  subst hx
  rw [n_mk hf rfl rfl rfl rfl rfl rfl]
  simp only [ev_me, if_neg h0]
theorem n_nb {k : Nat} (hf : ev_F1 M pc (.newarray .byte) 2) (hx : x.toNatClampNeg = k) (h0 : ¬ (x < 0 ∨ 5000 < x.toNatClampNeg)) : ev_dn b z M pc lo (.int x :: st) μ = if 1 ≤ b ∧ k ≤ z then ev_dn (b - 1) (z - k) M (pc + 2) lo (.ref μ.1 :: st) (μ.1 + 1, ev_up μ.2 μ.1 (ev_ia 1 k (fun _ => 0))) else none := by
  subst hx
  rw [n_mk hf rfl rfl rfl rfl rfl rfl]
  simp only [ev_me, if_neg h0]
theorem n_na {k : Nat} (hf : ev_F1 M pc (.anewarray 9) 3) (hc : ev_ci M = 4) (hx : x.toNatClampNeg = k) (h0 : ¬ (x < 0 ∨ 5000 < x.toNatClampNeg)) : ev_dn b z M pc lo (.int x :: st) μ = if 1 ≤ b ∧ k ≤ z then ev_dn (b - 1) (z - k) M (pc + 3) lo (.ref μ.1 :: st) (μ.1 + 1, ev_up μ.2 μ.1 (ev_ra k (fun _ => none))) else none := by
  subst hx
  rw [n_mk hf rfl rfl rfl rfl rfl rfl]
  simp only [ev_me, hc, h0, and_self, if_true, not_false_eq_true]
/-- a method's end -/
theorem n_rt (hf : ev_F1 M pc i n) (hp : ev_pu i n st = none) (hb : ev_br i n pc st = none) (hl : ev_ld i n lo = none) (hs : ev_so i n lo st = none) (h : ev_me (ev_ci M) (ev_kd M) i n st μ = none) (hi : ev_iv M i n = none) : ev_dn b z M pc lo st μ = (ev_rv (ev_rt M) i n st).map (fun w => (.inl w, μ)) := by
  have hx : ev_x M pc lo st μ = (ev_rv (ev_rt M) i n st).map (fun v => .inr (.inl v)) := by unfold ev_x; simp only [hf.1, hf.2, hp, hb, hl, hs, h, hi]
  cases hr : ev_rv (ev_rt M) i n st with
  | none => rw [hr] at hx; exact ev_stuck hx
  | some w => rw [hr] at hx; exact ev_ret hx
theorem n_rv (hf : ev_F1 M pc .return_ 1) (h : ev_rt M = none) : ev_dn b z M pc lo [] μ = some (.inl none, μ) := by
  rw [n_rt hf rfl rfl rfl rfl rfl rfl, h]; rfl
theorem n_ri (hf : ev_F1 M pc .ireturn 1) (h : ev_rt M = some .int) : ev_dn b z M pc lo [.int x] μ = some (.inl (some (.int x)), μ) := by
  rw [n_rt hf rfl rfl rfl rfl rfl rfl, h]
  simp only [ev_rv]
  rw [if_pos (show narrow .int (.int x) = .int x from rfl)]; rfl
theorem n_rz (hf : ev_F1 M pc .ireturn 1) (h : ev_rt M = some .boolean) : ev_dn b z M pc lo [.int x] μ = if narrow .boolean (.int x) = .int x then some (.inl (some (.int x)), μ) else none := by
  rw [n_rt hf rfl rfl rfl rfl rfl rfl, h]
  simp only [ev_rv]
  split <;> rfl
theorem n_ra {cn : String} (hf : ev_F1 M pc .areturn 1) (h : ev_rt M = some (.object cn)) : ev_dn b z M pc lo [.ref a] μ = some (.inl (some (.ref a)), μ) := by
  rw [n_rt hf rfl rfl rfl rfl rfl rfl, h]; rfl
theorem n_rf {w : UInt32} (hf : ev_F1 M pc .freturn 1) (h : ev_rt M = some .float) : ev_dn b z M pc lo [.float w] μ = some (.inl (some (.float w)), μ) := by
  rw [n_rt hf rfl rfl rfl rfl rfl rfl, h]; rfl
theorem n_rd {w : UInt64} (hf : ev_F1 M pc .dreturn 1) (h : ev_rt M = some .double) : ev_dn b z M pc lo [.double w] μ = some (.inl (some (.double w)), μ) := by
  rw [n_rt hf rfl rfl rfl rfl rfl rfl, h]; rfl
/-- a throw -/
theorem n_th {e : Nat} {i : Instr} {k : Nat} (hf : ev_f M pc = some (i, k) ∧ ev_th2 M pc = some e) (h1 : 8 ≤ ev_dp M ∧ 130 ≤ ev_lc M) : ev_dn b z M pc lo [] μ = if 1 ≤ b ∧ 6 ≤ z then some (.inr e, μ) else none := by
  have hx : ev_x M pc lo [] μ = some (.inr (.inr (.inr e))) := by
    unfold ev_x
    simp only [hf.1, hf.2]
    exact if_pos ⟨rfl, h1⟩
  by_cases hz : 1 ≤ b ∧ 6 ≤ z
  · rw [if_pos hz]; exact ev_thr hx hz
  · rw [if_neg hz]
    cases hd : ev_dn b z M pc lo [] μ with
    | none => rfl
    | some r =>
      obtain ⟨k, hk⟩ := ev_dn_some.mp hd
      cases k with
      | zero => cases hk
      | succ k =>
        rw [ev_run, hx] at hk
        simp only [if_neg hz] at hk
        cases hk
/-- a call -/
def ev_kc (M t k : Nat) (st : List Value) : Prop := ev_kd t = k ∧ ev_na t ≤ st.length ∧ ((st.drop (ev_na t)).map Value.category).sum ≤ 8 ∧ ev_dp t + 1 ≤ ev_dp M ∧ 8 + (ev_ml t + 11) + ev_lc t ≤ ev_lc M ∧ (ev_ar (st.take (ev_na t)).reverse).length ≤ ev_ml t
theorem n_ck {t k k1 k2 : Nat} {av : List Value} {en : ev_L} (hf : ev_F1 M pc i 3) (hp : ev_pu i 3 st = none) (hb : ev_br i 3 pc st = none) (hl : ev_ld i 3 lo = none) (hs : ev_so i 3 lo st = none) (hm : ev_me (ev_ci M) (ev_kd M) i 3 st μ = none) (hi : ev_iv M i 3 = some (t, k)) (ht : t < 1000)
    (hc : ev_kc M t k st) (hav : (st.take (ev_na t)).reverse = av) (hst : st.drop (ev_na t) = st') (hen : ev_en t av = en) (hk1 : ev_k1 t = k1) (hk2 : ev_k2 t = k2) :
    ev_dn b z M pc lo st μ = if ev_rc t k av μ = true then (if k1 ≤ b ∧ k2 ≤ z then ev_bh k (b - k1) (z - k2) M pc lo st' (ev_dn k1 k2 t 0 en [] μ) else none) else none := by
  subst hav; subst hst; subst hen; subst hk1; subst hk2
  obtain ⟨c1, c2, c3, c4, c5, c6⟩ := hc
  by_cases hr : ev_rc t k (st.take (ev_na t)).reverse μ = true
  · rw [if_pos hr]
    have hx : ev_x M pc lo st μ = some (.inr (.inr (.inl (t, (st.take (ev_na t)).reverse, st.drop (ev_na t))))) := by
      unfold ev_x
      simp only [hf.1, hf.2, hp, hb, hl, hs, hm, hi, if_neg (Nat.not_le.mpr ht)]
      exact if_pos ⟨c1, c2, c3, c4, c5, c6, hr⟩
    by_cases hz : ev_k1 t ≤ b ∧ ev_k2 t ≤ z
    · rw [if_pos hz, ← c1]; exact ev_cal hx hz
    · rw [if_neg hz]
      cases hd : ev_dn b z M pc lo st μ with
      | none => rfl
      | some r =>
        obtain ⟨k, hk⟩ := ev_dn_some.mp hd
        cases k with
        | zero => cases hk
        | succ k =>
          rw [ev_run, hx] at hk
          simp only [if_neg hz] at hk
          cases hk
  · rw [if_neg hr]
    refine ev_stuck ?_
    unfold ev_x
    simp only [hf.1, hf.2, hp, hb, hl, hs, hm, hi, if_neg (Nat.not_le.mpr ht)]
    exact if_neg (fun q => hr q.2.2.2.2.2.2)
theorem n_cs {t k1 k2 idx : Nat} {av : List Value} {en : ev_L} (hf : ev_F1 M pc (.invokestatic idx) 3) (hi : ev_iv M (.invokestatic idx) 3 = some (t, 0)) (ht : t < 1000) (hc : ev_kc M t 0 st) (hav : (st.take (ev_na t)).reverse = av) (hst : st.drop (ev_na t) = st') (hen : ev_en t av = en) (hk1 : ev_k1 t = k1) (hk2 : ev_k2 t = k2) :
    ev_dn b z M pc lo st μ = if k1 ≤ b ∧ k2 ≤ z then ev_bh 0 (b - k1) (z - k2) M pc lo st' (ev_dn k1 k2 t 0 en [] μ) else none := by
  rw [n_ck hf rfl rfl rfl rfl rfl hi ht hc hav hst hen hk1 hk2]
  exact if_pos rfl
theorem n_cs0 {t idx : Nat} {av : List Value} {en : ev_L} (hf : ev_F1 M pc (.invokestatic idx) 3) (hi : ev_iv M (.invokestatic idx) 3 = some (t, 0)) (ht : t < 1000) (hc : ev_kc M t 0 st) (hav : (st.take (ev_na t)).reverse = av) (hst : st.drop (ev_na t) = st') (hen : ev_en t av = en) (hk1 : ev_k1 t = 0) (hk2 : ev_k2 t = 0) :
    ev_dn b z M pc lo st μ = ev_bh 0 b z M pc lo st' (ev_dn 0 0 t 0 en [] μ) := by
  rw [n_cs hf hi ht hc hav hst hen hk1 hk2]
  exact n_00
theorem n_rcE {t k ci : Nat} {av : List Value} {q : ev_Q} (hk : k = 1 ∨ k = 2) (hci : ev_ci t = ci) : (if ev_rc t k (.ref a :: av) μ = true then q else none) = eg_rc (μ.2 a) ci a q := by
  subst hci
  have key : ∀ e : Option ev_E, (if (match e with
      | some (.inl (c, _)) => decide (c = ev_ci t ∧ ev_S ≤ a)
      | _ => false) = true then q else none) = eg_rc e (ev_ci t) a q := by
    intro e
    match e with
    | none => rfl
    | some (.inr _) => rfl
    | some (.inl (c, fs)) =>
      unfold eg_rc
      dsimp only
      by_cases h : c = ev_ci t ∧ ev_S ≤ a
      · rw [if_pos h, if_pos (decide_eq_true h)]
      · rw [if_neg h, if_neg (fun z => h (of_decide_eq_true z))]
  rcases hk with rfl | rfl
  · simp only [ev_rc]; exact key _
  · simp only [ev_rc]; exact key _
theorem n_cv {t k1 k2 idx ci : Nat} {av : List Value} {en : ev_L} (hf : ev_F1 M pc (.invokevirtual idx) 3) (hi : ev_iv M (.invokevirtual idx) 3 = some (t, 1)) (ht : t < 1000) (hc : ev_kc M t 1 st) (hav : (st.take (ev_na t)).reverse = .ref a :: av) (hst : st.drop (ev_na t) = st') (hen : ev_en t (.ref a :: av) = en) (hk1 : ev_k1 t = k1) (hk2 : ev_k2 t = k2) (hci : ev_ci t = ci) :
    ev_dn b z M pc lo st μ = eg_rc (μ.2 a) ci a (if k1 ≤ b ∧ k2 ≤ z then ev_bh 1 (b - k1) (z - k2) M pc lo st' (ev_dn k1 k2 t 0 en [] μ) else none) := by
  rw [n_ck hf rfl rfl rfl rfl rfl hi ht hc hav hst hen hk1 hk2]
  exact n_rcE (Or.inl rfl) hci
theorem n_cv0 {t idx ci : Nat} {av : List Value} {en : ev_L} (hf : ev_F1 M pc (.invokevirtual idx) 3) (hi : ev_iv M (.invokevirtual idx) 3 = some (t, 1)) (ht : t < 1000) (hc : ev_kc M t 1 st) (hav : (st.take (ev_na t)).reverse = .ref a :: av) (hst : st.drop (ev_na t) = st') (hen : ev_en t (.ref a :: av) = en) (hk1 : ev_k1 t = 0) (hk2 : ev_k2 t = 0) (hci : ev_ci t = ci) :
    ev_dn b z M pc lo st μ = eg_rc (μ.2 a) ci a (ev_bh 1 b z M pc lo st' (ev_dn 0 0 t 0 en [] μ)) := by
  rw [n_cv hf hi ht hc hav hst hen hk1 hk2 hci]
  exact congrArg _ n_00
theorem n_ci {t k1 k2 idx ci : Nat} {av : List Value} {en : ev_L} (hf : ev_F1 M pc (.invokespecial idx) 3) (hi : ev_iv M (.invokespecial idx) 3 = some (t, 2)) (ht : t < 1000) (hc : ev_kc M t 2 st) (hav : (st.take (ev_na t)).reverse = .ref a :: av) (hst : st.drop (ev_na t) = st') (hen : ev_en t (.ref a :: av) = en) (hk1 : ev_k1 t = k1) (hk2 : ev_k2 t = k2) (hci : ev_ci t = ci) :
    ev_dn b z M pc lo st μ = eg_rc (μ.2 a) ci a (if k1 ≤ b ∧ k2 ≤ z then ev_bh 2 (b - k1) (z - k2) M pc lo st' (ev_dn k1 k2 t 0 en [] μ) else none) := by
  rw [n_ck hf rfl rfl rfl rfl rfl hi ht hc hav hst hen hk1 hk2]
  exact n_rcE (Or.inr rfl) hci
/-- the JDK's own -/
theorem n_jd {t k : Nat} {st' : List Value} {μ' : ev_H} (hf : ev_F1 M pc i 3) (hp : ev_pu i 3 st = none) (hb : ev_br i 3 pc st = none) (hl : ev_ld i 3 lo = none) (hs : ev_so i 3 lo st = none) (hm : ev_me (ev_ci M) (ev_kd M) i 3 st μ = none) (hi : ev_iv M i 3 = some (t, k)) (ht : 1000 ≤ t)
    (hc : ev_jk t = k ∧ (st.map Value.category).sum ≤ 9 ∧ ev_jf t ≤ ev_dp M ∧ ev_jl t ≤ ev_lc M) (hj : ev_jd t st μ = some (st', μ')) : ev_dn b z M pc lo st μ = ev_dn b z M (pc + 3) lo st' μ' :=
  ev_next0 (by unfold ev_x; simp only [hf.1, hf.2, hp, hb, hl, hs, hm, hi, if_pos ht, if_pos hc, hj, Option.map_some])
theorem n_jn {t k : Nat} (hf : ev_F1 M pc i 3) (hp : ev_pu i 3 st = none) (hb : ev_br i 3 pc st = none) (hl : ev_ld i 3 lo = none) (hs : ev_so i 3 lo st = none) (hm : ev_me (ev_ci M) (ev_kd M) i 3 st μ = none) (hi : ev_iv M i 3 = some (t, k)) (ht : 1000 ≤ t)
    (hc : ev_jk t = k ∧ (st.map Value.category).sum ≤ 9 ∧ ev_jf t ≤ ev_dp M ∧ ev_jl t ≤ ev_lc M) (hj : ev_jd t st μ = none) : ev_dn b z M pc lo st μ = none :=
  ev_stuck (by unfold ev_x; simp only [hf.1, hf.2, hp, hb, hl, hs, hm, hi, if_pos ht, if_pos hc, hj, Option.map_none])
abbrev ev_jc (M t k : Nat) (st : List Value) : Prop := ev_jk t = k ∧ (st.map Value.category).sum ≤ 9 ∧ ev_jf t ≤ ev_dp M ∧ ev_jl t ≤ ev_lc M
theorem n_abs {idx : Nat} (hf : ev_F1 M pc (.invokestatic idx) 3) (hi : ev_iv M (.invokestatic idx) 3 = some (1001, 0)) (hc : ev_jc M 1001 0 (.int x :: st)) : ev_dn b z M pc lo (.int x :: st) μ = ev_dn b z M (pc + 3) lo (.int (if 0 ≤ x then x else 0 - x) :: st) μ :=
  n_jd hf rfl rfl rfl rfl rfl hi (by decide) hc rfl
theorem n_max {idx : Nat} (hf : ev_F1 M pc (.invokestatic idx) 3) (hi : ev_iv M (.invokestatic idx) 3 = some (1002, 0)) (hc : ev_jc M 1002 0 (.int y :: .int x :: st)) : ev_dn b z M pc lo (.int y :: .int x :: st) μ = ev_dn b z M (pc + 3) lo (.int (if x < y then y else x) :: st) μ :=
  n_jd hf rfl rfl rfl rfl rfl hi (by decide) hc rfl
theorem n_min {idx : Nat} (hf : ev_F1 M pc (.invokestatic idx) 3) (hi : ev_iv M (.invokestatic idx) 3 = some (1003, 0)) (hc : ev_jc M 1003 0 (.int y :: .int x :: st)) : ev_dn b z M pc lo (.int y :: .int x :: st) μ = ev_dn b z M (pc + 3) lo (.int (if y < x then y else x) :: st) μ :=
  n_jd hf rfl rfl rfl rfl rfl hi (by decide) hc rfl
theorem n_obj {idx : Nat} (hf : ev_F1 M pc (.invokespecial idx) 3) (hi : ev_iv M (.invokespecial idx) 3 = some (1006, 2)) (hc : ev_jc M 1006 2 (.ref a :: st)) : ev_dn b z M pc lo (.ref a :: st) μ = ev_dn b z M (pc + 3) lo st μ :=
  n_jd hf rfl rfl rfl rfl rfl hi (by decide) hc rfl
theorem n_ac {idx a2 : Nat} {w x y : Int32} (hf : ev_F1 M pc (.invokestatic idx) 3) (hi : ev_iv M (.invokestatic idx) 3 = some (1000, 0)) (hc : ev_jc M 1000 0 (.int w :: .int y :: .ref a2 :: .int x :: .ref a :: st)) : ev_dn b z M pc lo (.int w :: .int y :: .ref a2 :: .int x :: .ref a :: st) μ = eg_ac (μ.2 a) (μ.2 a2) x y w a a2 b z M (pc + 3) lo st μ := by
  cases hj : ev_jd 1000 (.int w :: .int y :: .ref a2 :: .int x :: .ref a :: st) μ with
  | none =>
    rw [n_jn hf rfl rfl rfl rfl rfl hi (by decide) hc hj]
    simp only [ev_jd] at hj
    unfold eg_ac
    split
    · rename_i e1 e2
      rw [e1, e2] at hj
      dsimp only at hj
      split at hj
      · cases hj
      · rename_i h; rw [if_neg h]
    · rfl
  | some r =>
    obtain ⟨st', μ'⟩ := r
    rw [n_jd hf rfl rfl rfl rfl rfl hi (by decide) hc hj]
    simp only [ev_jd] at hj
    unfold eg_ac
    split at hj
    · rename_i e1 e2
      rw [e1, e2]
      dsimp only
      split at hj
      · rename_i h
        rw [if_pos h]
        cases hj
        rfl
      · cases hj
    · cases hj
theorem n_sl {idx : Nat} (hf : ev_F1 M pc (.invokevirtual idx) 3) (hi : ev_iv M (.invokevirtual idx) 3 = some (1004, 1)) (hc : ev_jc M 1004 1 (.ref a :: st)) : ev_dn b z M pc lo (.ref a :: st) μ = eg_sl (μ.2 a) b z M (pc + 3) lo st μ := by
  cases hj : ev_jd 1004 (.ref a :: st) μ with
  | none =>
    rw [n_jn hf rfl rfl rfl rfl rfl hi (by decide) hc hj]
    simp only [ev_jd] at hj
    unfold eg_sl
    split
    · rename_i t m f e1
      by_cases h : t = 9
      · subst h; rw [e1] at hj; cases hj
      · rw [if_neg h]
    · rfl
  | some r =>
    obtain ⟨st', μ'⟩ := r
    rw [n_jd hf rfl rfl rfl rfl rfl hi (by decide) hc hj]
    simp only [ev_jd] at hj
    unfold eg_sl
    split at hj
    · rename_i e1
      rw [e1]
      cases hj
      rfl
    · cases hj
theorem n_sc {idx : Nat} (hf : ev_F1 M pc (.invokevirtual idx) 3) (hi : ev_iv M (.invokevirtual idx) 3 = some (1005, 1)) (hc : ev_jc M 1005 1 (.int x :: .ref a :: st)) : ev_dn b z M pc lo (.int x :: .ref a :: st) μ = eg_sc (μ.2 a) x b z M (pc + 3) lo st μ := by
  cases hj : ev_jd 1005 (.int x :: .ref a :: st) μ with
  | none =>
    rw [n_jn hf rfl rfl rfl rfl rfl hi (by decide) hc hj]
    simp only [ev_jd] at hj
    unfold eg_sc
    split
    · rename_i t m f e1
      by_cases h : t = 9 ∧ ev_in x m = true
      · obtain ⟨rfl, h2⟩ := h
        rw [e1] at hj
        replace hj : (if ev_in x m = true then some ((.int (f x.toNatClampNeg) : Value) :: st, μ) else none) = none := hj
        rw [if_pos h2] at hj
        cases hj
      · rw [if_neg h]
    · rfl
  | some r =>
    obtain ⟨st', μ'⟩ := r
    rw [n_jd hf rfl rfl rfl rfl rfl hi (by decide) hc hj]
    simp only [ev_jd] at hj
    unfold eg_sc
    split at hj
    · rename_i e1
      rw [e1]
      dsimp only
      split at hj
      · rename_i h
        rw [if_pos ⟨rfl, h⟩]
        cases hj
        rfl
      · cases hj
    · cases hj
end NST
end
section
/-! Memory as numbers: what stands at an address is fixed once it is made (its class or kind, its length, what it points to); numbers alone change. Steps as rules: what a program in numbers answers, the evaluator answers. -/
abbrev Mm : Type := Nat → Nat → Int32
def wa (m : Mm) (a : Nat) (f : Nat → Int32) : Mm := fun b => if b = a then f else m b
def wr (m : Mm) (a k : Nat) (x : Int32) : Mm := wa m a (upd (m a) k x)
def bi (b : Bool) : Int32 := match b with
  | true => 1
  | false => 0
abbrev ix (x : Int32) : Nat := x.toNatClampNeg
def wb {α β : Type} (x : α) (f : α → β) : β := f x
def sh_t : List (Nat × Nat × List Nat) := [(99, 6, []), (99, 6, []), (99, 0, []), (109, 4, []), (109, 5, []), (109, 5, []), (109, 4, []), (109, 5, []), (109, 5, []), (109, 4, []), (109, 5, []), (109, 4, []), (109, 6, []), (109, 6, []), (109, 4, []), (109, 5, []), (109, 3, []), (109, 4, []), (109, 4, []), (109, 4, []), (10, 0, [21, 23, 42, 61, 0, 80, 234, 237, 243, 248]), (8, 0, [22]), (101, 600, []), (3, 0, [24, 29, 34, 38, 40]), (0, 0, [25, 27]), (1, 0, [26]), (100, 64, []), (1, 0, [28]), (100, 64, []), (0, 0, [30, 32]), (1, 0, [31]), (100, 64, []), (1, 0, [33]), (100, 64, []), (2, 0, [35, 36, 37]), (100, 8, []), (100, 8, []), (100, 8, []), (5, 0, [39]), (100, 160, []), (5, 0, [41]), (100, 160, []), (3, 0, [43, 48, 53, 57, 59]), (0, 0, [44, 46]), (1, 0, [45]), (100, 64, []), (1, 0, [47]), (100, 64, []), (0, 0, [49, 51]), (1, 0, [50]), (100, 64, []), (1, 0, [52]), (100, 64, []), (2, 0, [54, 55, 56]), (100, 8, []), (100, 8, []), (100, 8, []), (5, 0, [58]), (100, 160, []), (5, 0, [60]), (100, 160, []), (3, 0, [62, 67, 72, 76, 78]), (0, 0, [63, 65]), (1, 0, [64]), (100, 64, []), (1, 0, [66]), (100, 64, []), (0, 0, [68, 70]), (1, 0, [69]), (100, 64, []), (1, 0, [71]), (100, 64, []), (2, 0, [73, 74, 75]), (100, 8, []), (100, 8, []), (100, 8, []), (5, 0, [77]), (100, 160, []), (5, 0, [79]), (100, 160, []), (4, 0, [81]), (103, 8, [82, 101, 120, 139, 158, 177, 196, 215]), (3, 0, [83, 88, 93, 97, 99]), (0, 0, [84, 86]), (1, 0, [85]), (100, 64, []), (1, 0, [87]), (100, 64, []), (0, 0, [89, 91]), (1, 0, [90]), (100, 64, []), (1, 0, [92]), (100, 64, []), (2, 0, [94, 95, 96]), (100, 8, []), (100, 8, []), (100, 8, []), (5, 0, [98]), (100, 160, []), (5, 0, [100]), (100, 160, []), (3, 0, [102, 107, 112, 116, 118]), (0, 0, [103, 105]), (1, 0, [104]), (100, 64, []), (1, 0, [106]), (100, 64, []), (0, 0, [108, 110]), (1, 0, [109]), (100, 64, []), (1, 0, [111]), (100, 64, []), (2, 0, [113, 114, 115]), (100, 8, []), (100, 8, []), (100, 8, []), (5, 0, [117]), (100, 160, []), (5, 0, [119]), (100, 160, []), (3, 0, [121, 126, 131, 135, 137]), (0, 0, [122, 124]), (1, 0, [123]), (100, 64, []), (1, 0, [125]), (100, 64, []), (0, 0, [127, 129]), (1, 0, [128]), (100, 64, []), (1, 0, [130]), (100, 64, []), (2, 0, [132, 133, 134]), (100, 8, []), (100, 8, []), (100, 8, []), (5, 0, [136]), (100, 160, []), (5, 0, [138]), (100, 160, []), (3, 0, [140, 145, 150, 154, 156]), (0, 0, [141, 143]), (1, 0, [142]), (100, 64, []), (1, 0, [144]), (100, 64, []), (0, 0, [146, 148]), (1, 0, [147]), (100, 64, []), (1, 0, [149]), (100, 64, []), (2, 0, [151, 152, 153]), (100, 8, []), (100, 8, []), (100, 8, []), (5, 0, [155]), (100, 160, []), (5, 0, [157]), (100, 160, []), (3, 0, [159, 164, 169, 173, 175]), (0, 0, [160, 162]), (1, 0, [161]), (100, 64, []), (1, 0, [163]), (100, 64, []), (0, 0, [165, 167]), (1, 0, [166]), (100, 64, []), (1, 0, [168]), (100, 64, []), (2, 0, [170, 171, 172]), (100, 8, []), (100, 8, []), (100, 8, []), (5, 0, [174]), (100, 160, []), (5, 0, [176]), (100, 160, []), (3, 0, [178, 183, 188, 192, 194]), (0, 0, [179, 181]), (1, 0, [180]), (100, 64, []), (1, 0, [182]), (100, 64, []), (0, 0, [184, 186]), (1, 0, [185]), (100, 64, []), (1, 0, [187]), (100, 64, []), (2, 0, [189, 190, 191]), (100, 8, []), (100, 8, []), (100, 8, []), (5, 0, [193]), (100, 160, []), (5, 0, [195]), (100, 160, []), (3, 0, [197, 202, 207, 211, 213]), (0, 0, [198, 200]), (1, 0, [199]), (100, 64, []), (1, 0, [201]), (100, 64, []), (0, 0, [203, 205]), (1, 0, [204]), (100, 64, []), (1, 0, [206]), (100, 64, []), (2, 0, [208, 209, 210]), (100, 8, []), (100, 8, []), (100, 8, []), (5, 0, [212]), (100, 160, []), (5, 0, [214]), (100, 160, []), (3, 0, [216, 221, 226, 230, 232]), (0, 0, [217, 219]), (1, 0, [218]), (100, 64, []), (1, 0, [220]), (100, 64, []), (0, 0, [222, 224]), (1, 0, [223]), (100, 64, []), (1, 0, [225]), (100, 64, []), (2, 0, [227, 228, 229]), (100, 8, []), (100, 8, []), (100, 8, []), (5, 0, [231]), (100, 160, []), (5, 0, [233]), (100, 160, []), (7, 0, [235, 236]), (100, 6, []), (100, 6, []), (6, 0, [238, 239, 240, 241]), (100, 837, []), (100, 837, []), (100, 837, []), (1, 0, [242]), (100, 64, []), (9, 0, [244, 246, 247]), (1, 0, [245]), (100, 64, []), (100, 64, []), (100, 64, []), (101, 279, []), (100, 2, []), (100, 2, []), (100, 2, []), (100, 2, [])]
def sh_g (a : Nat) : Nat × Nat × List Nat := sh_t.getD a (77, 0, [])
def sh_c (a : Nat) : Nat := (sh_g a).1
def sh_n (a : Nat) : Nat := (sh_g a).2.1
def sh_r (a k : Nat) : Nat := (sh_g a).2.2.getD k 0
def sh_f (c : Nat) : List Bool := ([[true, true, false, false, false, false], [true, false, false], [true, true, true, false], [true, true, true, true, true, false, false, false, false, false, false, false, false], [true, false, false], [true, false, false], [true, true, true, true, false], [true, true, false, false, false, false, false, false], [true, false, false, false, false, false, false, false, false, false], [true, true, true, false], [true, true, true, true, false, true, true, true, true, true, false], [true, false, false]] : List (List Bool)).getD c []
def sh_v (c a : Nat) (f : Nat → Int32) (k : Nat) : Value := if (sh_f c).getD k false = true then .ref (sh_r a k) else .int (f k)
def sh_o (c a : Nat) (f : Nat → Int32) : List Value := (List.range (sh_f c).length).map (sh_v c a f)
def cel (L nx a : Nat) (f : Nat → Int32) : Option ev_E :=
  if a < nx then
    (if sh_c a < 15 then some (ev_ob (sh_c a) (sh_o (sh_c a) a f))
    else if sh_c a = 99 then some (ev_ia 0 (if a = 2 then L else sh_n a) f)
    else if sh_c a = 100 then some (ev_ia 0 (sh_n a) f)
    else if sh_c a = 101 then some (ev_ia 1 (sh_n a) f)
    else if sh_c a = 102 then some (ev_la (sh_n a) (fun i => (f i).toInt64))
    else if sh_c a = 103 then some (ev_ra (sh_n a) (fun i => if i < sh_n a then some (sh_r a i) else none))
    else if sh_c a = 109 then some (ev_ia 9 (sh_n a) f)
    else none)
  else none
def mem (L nx : Nat) (m : Mm) : Nat → Option ev_E := fun a => cel L nx a (m a)
abbrev ok (nx a c : Nat) : Prop := sh_c a = c ∧ a < nx
abbrev okn (nx : Nat) : Prop := 249 ≤ nx ∧ nx ≤ 253
theorem sh_out (a : Nat) (h : 253 ≤ a) : sh_c a = 77 := by
  have e : sh_t[a]? = none := List.getElem?_eq_none (Nat.le_trans (by decide +kernel) h)
  unfold sh_c sh_g
  rw [List.getD_eq_getElem?_getD, e]; rfl
theorem sh_lo1 : ∀ a, a < 253 → sh_c a < 15 ∨ (100 ≤ sh_c a ∧ sh_c a ≤ 103) → 20 ≤ a := by decide +kernel
theorem sh_lo {a : Nat} (h : sh_c a < 15 ∨ (100 ≤ sh_c a ∧ sh_c a ≤ 103)) : 20 ≤ a := by
  by_cases h1 : a < 253
  · exact sh_lo1 a h1 h
  · rw [sh_out a (Nat.not_lt.mp h1)] at h; omega
def sh_k (c : Nat) : List Nat := ([[1, 1, 88, 88, 88, 88], [100, 88, 88], [100, 100, 100, 88], [0, 0, 2, 5, 5, 88, 88, 88, 88, 88, 88, 88, 88], [103, 88, 88], [100, 88, 88], [100, 100, 100, 1, 88], [100, 100, 88, 88, 88, 88, 88, 88], [101, 88, 88, 88, 88, 88, 88, 88, 88, 88], [1, 100, 100, 88], [8, 3, 3, 3, 88, 4, 7, 6, 9, 101, 88], [100, 88, 88]] : List (List Nat)).getD c []
theorem o_all : ∀ a, a < 253 → ∀ j, j < (sh_k (sh_c a)).length → (sh_k (sh_c a)).getD j 88 = 88 ∨ (sh_c (sh_r a j) = (sh_k (sh_c a)).getD j 88 ∧ sh_r a j < 249) := by decide +kernel
theorem o_g {nx a c : Nat} (hN : okn nx) (h : ok nx a c) (j t : Nat) (ht : ((sh_k c).getD j 88 = t ∧ t ≠ 88) ∧ j < (sh_k c).length) : ok nx (sh_r a j) t := by
  have h1 : a < 253 := by have := h.2; have := hN.2; omega
  obtain ⟨e, h2⟩ := h
  subst e
  obtain ⟨⟨rfl, h4⟩, h5⟩ := ht
  rcases o_all a h1 j h5 with q | ⟨q1, q2⟩
  · exact absurd q h4
  · exact ⟨q1, Nat.lt_of_lt_of_le q2 hN.1⟩
theorem o_0_0 {nx a : Nat} (hN : okn nx) (h : ok nx a 0) : ok nx (sh_r a 0) 1 := o_g hN h 0 1 (by decide +kernel)
theorem o_0_1 {nx a : Nat} (hN : okn nx) (h : ok nx a 0) : ok nx (sh_r a 1) 1 := o_g hN h 1 1 (by decide +kernel)
theorem o_1_0 {nx a : Nat} (hN : okn nx) (h : ok nx a 1) : ok nx (sh_r a 0) 100 := o_g hN h 0 100 (by decide +kernel)
theorem o_2_0 {nx a : Nat} (hN : okn nx) (h : ok nx a 2) : ok nx (sh_r a 0) 100 := o_g hN h 0 100 (by decide +kernel)
theorem o_2_1 {nx a : Nat} (hN : okn nx) (h : ok nx a 2) : ok nx (sh_r a 1) 100 := o_g hN h 1 100 (by decide +kernel)
theorem o_2_2 {nx a : Nat} (hN : okn nx) (h : ok nx a 2) : ok nx (sh_r a 2) 100 := o_g hN h 2 100 (by decide +kernel)
theorem o_3_0 {nx a : Nat} (hN : okn nx) (h : ok nx a 3) : ok nx (sh_r a 0) 0 := o_g hN h 0 0 (by decide +kernel)
theorem o_3_1 {nx a : Nat} (hN : okn nx) (h : ok nx a 3) : ok nx (sh_r a 1) 0 := o_g hN h 1 0 (by decide +kernel)
theorem o_3_2 {nx a : Nat} (hN : okn nx) (h : ok nx a 3) : ok nx (sh_r a 2) 2 := o_g hN h 2 2 (by decide +kernel)
theorem o_3_3 {nx a : Nat} (hN : okn nx) (h : ok nx a 3) : ok nx (sh_r a 3) 5 := o_g hN h 3 5 (by decide +kernel)
theorem o_3_4 {nx a : Nat} (hN : okn nx) (h : ok nx a 3) : ok nx (sh_r a 4) 5 := o_g hN h 4 5 (by decide +kernel)
theorem o_4_0 {nx a : Nat} (hN : okn nx) (h : ok nx a 4) : ok nx (sh_r a 0) 103 := o_g hN h 0 103 (by decide +kernel)
theorem o_5_0 {nx a : Nat} (hN : okn nx) (h : ok nx a 5) : ok nx (sh_r a 0) 100 := o_g hN h 0 100 (by decide +kernel)
theorem o_6_0 {nx a : Nat} (hN : okn nx) (h : ok nx a 6) : ok nx (sh_r a 0) 100 := o_g hN h 0 100 (by decide +kernel)
theorem o_6_1 {nx a : Nat} (hN : okn nx) (h : ok nx a 6) : ok nx (sh_r a 1) 100 := o_g hN h 1 100 (by decide +kernel)
theorem o_6_2 {nx a : Nat} (hN : okn nx) (h : ok nx a 6) : ok nx (sh_r a 2) 100 := o_g hN h 2 100 (by decide +kernel)
theorem o_6_3 {nx a : Nat} (hN : okn nx) (h : ok nx a 6) : ok nx (sh_r a 3) 1 := o_g hN h 3 1 (by decide +kernel)
theorem o_7_0 {nx a : Nat} (hN : okn nx) (h : ok nx a 7) : ok nx (sh_r a 0) 100 := o_g hN h 0 100 (by decide +kernel)
theorem o_7_1 {nx a : Nat} (hN : okn nx) (h : ok nx a 7) : ok nx (sh_r a 1) 100 := o_g hN h 1 100 (by decide +kernel)
theorem o_8_0 {nx a : Nat} (hN : okn nx) (h : ok nx a 8) : ok nx (sh_r a 0) 101 := o_g hN h 0 101 (by decide +kernel)
theorem o_9_0 {nx a : Nat} (hN : okn nx) (h : ok nx a 9) : ok nx (sh_r a 0) 1 := o_g hN h 0 1 (by decide +kernel)
theorem o_9_1 {nx a : Nat} (hN : okn nx) (h : ok nx a 9) : ok nx (sh_r a 1) 100 := o_g hN h 1 100 (by decide +kernel)
theorem o_9_2 {nx a : Nat} (hN : okn nx) (h : ok nx a 9) : ok nx (sh_r a 2) 100 := o_g hN h 2 100 (by decide +kernel)
theorem o_10_0 {nx a : Nat} (hN : okn nx) (h : ok nx a 10) : ok nx (sh_r a 0) 8 := o_g hN h 0 8 (by decide +kernel)
theorem o_10_1 {nx a : Nat} (hN : okn nx) (h : ok nx a 10) : ok nx (sh_r a 1) 3 := o_g hN h 1 3 (by decide +kernel)
theorem o_10_2 {nx a : Nat} (hN : okn nx) (h : ok nx a 10) : ok nx (sh_r a 2) 3 := o_g hN h 2 3 (by decide +kernel)
theorem o_10_3 {nx a : Nat} (hN : okn nx) (h : ok nx a 10) : ok nx (sh_r a 3) 3 := o_g hN h 3 3 (by decide +kernel)
theorem o_10_5 {nx a : Nat} (hN : okn nx) (h : ok nx a 10) : ok nx (sh_r a 5) 4 := o_g hN h 5 4 (by decide +kernel)
theorem o_10_6 {nx a : Nat} (hN : okn nx) (h : ok nx a 10) : ok nx (sh_r a 6) 7 := o_g hN h 6 7 (by decide +kernel)
theorem o_10_7 {nx a : Nat} (hN : okn nx) (h : ok nx a 10) : ok nx (sh_r a 7) 6 := o_g hN h 7 6 (by decide +kernel)
theorem o_10_8 {nx a : Nat} (hN : okn nx) (h : ok nx a 10) : ok nx (sh_r a 8) 9 := o_g hN h 8 9 (by decide +kernel)
theorem o_10_9 {nx a : Nat} (hN : okn nx) (h : ok nx a 10) : ok nx (sh_r a 9) 101 := o_g hN h 9 101 (by decide +kernel)
theorem o_11_0 {nx a : Nat} (hN : okn nx) (h : ok nx a 11) : ok nx (sh_r a 0) 100 := o_g hN h 0 100 (by decide +kernel)
theorem o_el {nx k : Nat} (hN : okn nx) (hk : k < 8) : ok nx (sh_r 81 k) 3 := by
  have key : ∀ k, k < 8 → sh_c (sh_r 81 k) = 3 ∧ sh_r 81 k < 249 := by decide +kernel
  exact ⟨(key k hk).1, Nat.lt_of_lt_of_le (key k hk).2 hN.1⟩
theorem o_lo {nx a c : Nat} (hN : okn nx) (h : sh_c a = c ∧ a < 249) : ok nx a c := ⟨h.1, Nat.lt_of_lt_of_le h.2 hN.1⟩
theorem sh_ra1 : ∀ a, a < 253 → sh_c a = 103 → a = 81 := by decide +kernel
theorem o_ge {nx a k : Nat} (hN : okn nx) (h : ok nx a 103) (hk : k < sh_n a) : ok nx (sh_r a k) 3 := by
  have h1 : a < 253 := by have := h.2; have := hN.2; omega
  have e := sh_ra1 a h1 h.1
  subst e
  exact o_el hN hk
theorem cel_ob {L nx a c : Nat} {f : Nat → Int32} (h : ok nx a c) (hc : c < 15) : cel L nx a f = some (ev_ob c (sh_o c a f)) := by
  obtain ⟨rfl, h2⟩ := h
  unfold cel
  rw [if_pos h2, if_pos hc]
theorem cel_ia {L nx a : Nat} {f : Nat → Int32} (h : ok nx a 100) : cel L nx a f = some (ev_ia 0 (sh_n a) f) := by
  unfold cel
  rw [if_pos h.2, h.1]; rfl
theorem cel_ba {L nx a : Nat} {f : Nat → Int32} (h : ok nx a 101) : cel L nx a f = some (ev_ia 1 (sh_n a) f) := by
  unfold cel
  rw [if_pos h.2, h.1]; rfl
theorem cel_la {L nx a : Nat} {f : Nat → Int32} (h : ok nx a 102) : cel L nx a f = some (ev_la (sh_n a) (fun i => (f i).toInt64)) := by
  unfold cel
  rw [if_pos h.2, h.1]; rfl
theorem cel_ra {L nx a : Nat} {f : Nat → Int32} (h : ok nx a 103) : cel L nx a f = some (ev_ra (sh_n a) (fun i => if i < sh_n a then some (sh_r a i) else none)) := by
  unfold cel
  rw [if_pos h.2, h.1]; rfl
theorem cel_tx {L nx a : Nat} {f : Nat → Int32} (h : ok nx a 109) : cel L nx a f = some (ev_ia 9 (sh_n a) f) := by
  unfold cel
  rw [if_pos h.2, h.1]; rfl
theorem cel_sa {L nx a : Nat} {f : Nat → Int32} (h : ok nx a 99) : cel L nx a f = some (ev_ia 0 (if a = 2 then L else sh_n a) f) := by
  unfold cel
  rw [if_pos h.2, h.1]; rfl
theorem mem_up {L nx a : Nat} {m : Mm} {f : Nat → Int32} {e : ev_E} (h : cel L nx a f = some e) : ev_up (mem L nx m) a e = mem L nx (wa m a f) := by
  funext j
  unfold ev_up mem wa
  by_cases hj : j = a
  · subst hj; rw [if_pos rfl, if_pos rfl, h]
  · rw [if_neg hj, if_neg hj]
theorem sh_o_set {c a k : Nat} {f : Nat → Int32} {x : Int32} (hk : (sh_f c).getD k false = false) : (sh_o c a f).set k (.int x) = sh_o c a (upd f k x) := by
  unfold sh_o
  refine List.ext_getElem (by simp) ?_
  intro i h1 h2
  have h3 : i < (sh_f c).length := by simpa using h2
  simp only [List.getElem_set, List.getElem_map, List.getElem_range]
  by_cases hi : k = i
  · subst hi
    rw [if_pos rfl]
    unfold sh_v
    rw [hk, if_neg Bool.false_ne_true]
    unfold upd
    rw [if_pos rfl]
  · rw [if_neg hi]
    unfold sh_v upd
    rw [show (if i = k then x else f i) = f i from if_neg (fun q => hi q.symm)]
theorem sh_o_get {c a k : Nat} {f : Nat → Int32} (h : k < (sh_f c).length) : (sh_o c a f)[k]? = some (sh_v c a f k) := by
  unfold sh_o
  rw [List.getElem?_map, List.getElem?_range h]; rfl
theorem sh_o_len {c a : Nat} {f : Nat → Int32} : (sh_o c a f).length = (sh_f c).length := by
  unfold sh_o
  rw [List.length_map, List.length_range]
/-! instructions -/
def ev_at (M : Nat) : Nat → List (Instr × Nat) → Bool
  | _, [] => true
  | pc, (i, n) :: r => decide (ev_f M pc = some (i, n)) && (ev_th2 M pc).isNone && ev_at M (pc + n) r
def ev_tot : List (Instr × Nat) → Nat
  | [] => 0
  | (_, n) :: r => n + ev_tot r
def ev_p1 (i : Instr) (n : Nat) (lo : ev_L) (st : List Value) : Option (ev_L × List Value) := match ev_pu i n st with
  | some st' => some (lo, st')
  | none => match ev_ld i n lo with
    | some v => some (lo, v :: st)
    | none => ev_so i n lo st
def ev_bl : List (Instr × Nat) → ev_L → List Value → Option (ev_L × List Value)
  | [], lo, st => some (lo, st)
  | (i, n) :: r, lo, st => match ev_p1 i n lo st with
    | some q => ev_bl r q.1 q.2
    | none => none
def sw (x : Int) (d : Nat) : List (Int × Nat) → Nat
  | [] => d
  | (k, t) :: r => if x = k then t else sw x d r
def tl (lo : Int) : List Nat → List (Int × Nat)
  | [] => []
  | t :: r => (lo, t) :: tl (lo + 1) r
theorem sw_tl (x : Int) (d : Nat) : ∀ (ts : List Nat) (lo : Int), sw x d (tl lo ts) = if x < lo ∨ lo + ts.length ≤ x then d else ts.getD (x - lo).toNat d := by
  intro ts
  induction ts with
  | nil =>
    intro lo
    have h : x < lo ∨ lo + (([] : List Nat).length : Int) ≤ x := by simp only [List.length_nil]; omega
    rw [if_pos h]; rfl
  | cons t r ih =>
    intro lo
    unfold tl sw
    rw [ih]
    by_cases h0 : x = lo
    · subst h0
      rw [if_pos rfl, if_neg (by simp only [List.length_cons]; omega), Int.sub_self]; rfl
    · rw [if_neg h0]
      by_cases h1 : x < lo + 1 ∨ lo + 1 + (r.length : Int) ≤ x
      · rw [if_pos h1, if_pos (by simp only [List.length_cons]; omega)]
      · rw [if_neg h1, if_neg (by simp only [List.length_cons]; omega)]
        have e : (x - lo).toNat = (x - (lo + 1)).toNat + 1 := by omega
        rw [e]; rfl
section RUL
variable {b z M pc n : Nat} {i : Instr} {lo lo' : ev_L} {st st' : List Value} {μ : ev_H} {a : Nat} {v : Value} {x y : Int32} {L nx : Nat} {m : Mm} {α : Type} {q : Option α} {K : α → ev_Q → Prop}
def Im {α : Type} (q : Option α) (K : α → ev_Q → Prop) (e : ev_Q) : Prop := ∀ r, q = some r → K r e
theorem i_st {e e' : ev_Q} (h : e = e') (k : Im q K e') : Im q K e := h ▸ k
theorem i_no {e : ev_Q} : Im (none : Option α) K e := fun _ h => nomatch h
theorem at1 (h : ev_at M pc [(i, n)] = true) : ev_F1 M pc i n := by
  unfold ev_at at h
  simp only [Bool.and_eq_true, decide_eq_true_eq] at h
  exact ⟨h.1.1, Option.isNone_iff_eq_none.mp h.1.2⟩
theorem ev_ld_br (h : ev_ld i n lo = some v) : ev_br i n pc st = none := by
  unfold ev_ld at h
  dsimp only at h
  split at h <;> first | rfl | cases h
theorem ev_so_br {r : ev_L × List Value} (h : ev_so i n lo st = some r) : ev_br i n pc st = none := by
  unfold ev_so at h
  split at h <;> first | rfl | cases h
theorem ev_p1_ok {r : ev_L × List Value} (hf : ev_F1 M pc i n) (h : ev_p1 i n lo st = some r) : ev_dn b z M pc lo st μ = ev_dn b z M (pc + n) r.1 r.2 μ := by
  unfold ev_p1 at h
  cases h1 : ev_pu i n st with
  | some s => rw [h1] at h; cases h; exact n_pu hf h1
  | none =>
    rw [h1] at h
    dsimp only at h
    cases h2 : ev_ld i n lo with
    | some v => rw [h2] at h; cases h; exact n_ld hf h1 (ev_ld_br h2) h2
    | none => rw [h2] at h; exact n_so hf h1 (ev_so_br h) h2 h
theorem ev_bl_ok : ∀ (blk : List (Instr × Nat)) (pc : Nat) (lo : ev_L) (st : List Value) (r : ev_L × List Value), ev_at M pc blk = true → ev_bl blk lo st = some r → ev_dn b z M pc lo st μ = ev_dn b z M (pc + ev_tot blk) r.1 r.2 μ := by
  intro blk
  induction blk with
  | nil => intro pc lo st r _ h; cases h; rfl
  | cons e t ih =>
    obtain ⟨i, n⟩ := e
    intro pc lo st r h1 h2
    have h3 : ev_F1 M pc i n ∧ ev_at M (pc + n) t = true := by
      unfold ev_at at h1
      simp only [Bool.and_eq_true, decide_eq_true_eq] at h1
      exact ⟨⟨h1.1.1, Option.isNone_iff_eq_none.mp h1.1.2⟩, h1.2⟩
    unfold ev_bl at h2
    cases h4 : ev_p1 i n lo st with
    | none => rw [h4] at h2; cases h2
    | some w =>
      rw [h4] at h2
      rw [ev_p1_ok h3.1 h4, ih _ _ _ _ h3.2 h2]
      show ev_dn b z M (pc + n + ev_tot t) _ _ _ = ev_dn b z M (pc + (n + ev_tot t)) _ _ _
      rw [Nat.add_assoc]
theorem i_bl {pc' : Nat} (blk : List (Instr × Nat)) (lo' : ev_L) (st' : List Value) (hd : ev_at M pc blk = true ∧ pc + ev_tot blk = pc') (he : ev_bl blk lo st = some (lo', st')) (k : Im q K (ev_dn b z M pc' lo' st' μ)) : Im q K (ev_dn b z M pc lo st μ) := by
  refine i_st (ev_bl_ok blk pc lo st _ hd.1 he) ?_
  rw [hd.2]; exact k
theorem i_if {q2 : Option α} {t pc' : Nat} {off : Int} {p : Prop} [Decidable p] {c : ClassFile.Cond} (hd : ev_at M pc [(.ifCond c off, 3)] = true ∧ ev_tg pc off = some t ∧ pc + 3 = pc') (hc : ev_c1 c x = decide p) (k1 : Im q K (ev_dn b z M t lo st μ)) (k2 : Im q2 K (ev_dn b z M pc' lo st μ)) : Im (if p then q else q2) K (ev_dn b z M pc lo (.int x :: st) μ) := by
  refine i_st (n_if (at1 hd.1) hd.2.1 hc) ?_
  rw [hd.2.2]
  by_cases hp : p
  · rw [if_pos hp, if_pos hp]; exact k1
  · rw [if_neg hp, if_neg hp]; exact k2
theorem i_ic {q2 : Option α} {t pc' : Nat} {off : Int} {p : Prop} [Decidable p] {c : ClassFile.Cond} (hd : ev_at M pc [(.if_icmp c off, 3)] = true ∧ ev_tg pc off = some t ∧ pc + 3 = pc') (hc : ev_c2 c x y = decide p) (k1 : Im q K (ev_dn b z M t lo st μ)) (k2 : Im q2 K (ev_dn b z M pc' lo st μ)) : Im (if p then q else q2) K (ev_dn b z M pc lo (.int y :: .int x :: st) μ) := by
  refine i_st (n_ic (at1 hd.1) hd.2.1 hc) ?_
  rw [hd.2.2]
  by_cases hp : p
  · rw [if_pos hp, if_pos hp]; exact k1
  · rw [if_neg hp, if_neg hp]; exact k2
/-- a jump over a truth value: to t where it is false (ifeq) -/
theorem i_bz {B : Bool} {q2 : Option α} {t pc' : Nat} {off : Int} (hd : ev_at M pc [(.ifCond .eq off, 3)] = true ∧ ev_tg pc off = some t ∧ pc + 3 = pc') (k1 : Im q K (ev_dn b z M pc' lo st μ)) (k2 : Im q2 K (ev_dn b z M t lo st μ)) : Im (if B = true then q else q2) K (ev_dn b z M pc lo (.int (bi B) :: st) μ) := by
  have e : ev_c1 .eq (bi B) = decide (B = false) := by cases B <;> rfl
  refine i_st (n_if (p := B = false) (at1 hd.1) hd.2.1 e) ?_
  rw [hd.2.2]
  cases B
  · rw [if_pos rfl, if_neg Bool.false_ne_true]; exact k2
  · rw [if_pos rfl, if_neg (by decide)]; exact k1
theorem i_bn {B : Bool} {q2 : Option α} {t pc' : Nat} {off : Int} (hd : ev_at M pc [(.ifCond .ne off, 3)] = true ∧ ev_tg pc off = some t ∧ pc + 3 = pc') (k1 : Im q K (ev_dn b z M t lo st μ)) (k2 : Im q2 K (ev_dn b z M pc' lo st μ)) : Im (if B = true then q else q2) K (ev_dn b z M pc lo (.int (bi B) :: st) μ) := by
  have e : ev_c1 .ne (bi B) = decide (B = true) := by cases B <;> rfl
  refine i_st (n_if (p := B = true) (at1 hd.1) hd.2.1 e) ?_
  rw [hd.2.2]
  cases B
  · rw [if_neg Bool.false_ne_true, if_neg Bool.false_ne_true]; exact k2
  · rw [if_pos rfl, if_pos rfl]; exact k1
theorem i_go {t : Nat} {off : Int} (hd : ev_at M pc [(.goto off, 3)] = true ∧ ev_tg pc off = some t) (k : Im q K (ev_dn b z M t lo st μ)) : Im q K (ev_dn b z M pc lo st μ) := i_st (n_go (at1 hd.1) hd.2) k
theorem i_nn {pc' : Nat} {off : Int} (hd : ev_at M pc [(.ifnull off, 3)] = true ∧ pc + 3 = pc') (k : Im q K (ev_dn b z M pc' lo st μ)) : Im q K (ev_dn b z M pc lo (.ref a :: st) μ) := by
  refine i_st (n_nn (at1 hd.1)) ?_
  rw [hd.2]; exact k
theorem i_div {pc' : Nat} (hd : ev_at M pc [(.idiv, 1)] = true ∧ pc + 1 = pc') (k : Im q K (ev_dn b z M pc' lo (.int (x / y) :: st) μ)) : Im (if y = 0 then none else q) K (ev_dn b z M pc lo (.int y :: .int x :: st) μ) := by
  refine i_st (n_div (at1 hd.1)) ?_
  rw [hd.2]
  by_cases h : y = 0
  · rw [if_pos h]; exact i_no
  · rw [if_neg h, if_neg h]; exact k
theorem i_rem {pc' : Nat} (hd : ev_at M pc [(.irem, 1)] = true ∧ pc + 1 = pc') (k : Im q K (ev_dn b z M pc' lo (.int (x - x / y * y) :: st) μ)) : Im (if y = 0 then none else q) K (ev_dn b z M pc lo (.int y :: .int x :: st) μ) := by
  refine i_st (n_rem (at1 hd.1)) ?_
  rw [hd.2]
  by_cases h : y = 0
  · rw [if_pos h]; exact i_no
  · rw [if_neg h, if_neg h]; exact k
theorem i_sw {d : Nat} {ts : List Nat} {cs : List (Int × Nat)} {lo0 hi0 : Int} {dd : Int} {offs : Array Int} (hd : ev_at M pc [(.tableswitch dd lo0 hi0 offs, n)] = true ∧ offs.toList.map (ev_tg pc) = ts.map some ∧ ev_tg pc dd = some d ∧ lo0 + ts.length = hi0 + 1 ∧ tl lo0 ts = cs) (k : Im q K (ev_dn b z M (sw x.toInt d cs) lo st μ)) : Im q K (ev_dn b z M pc lo (.int x :: st) μ) := by
  refine i_st (n_br (at1 hd.1) rfl (?_ : ev_br _ _ _ _ = some (sw x.toInt d cs, st))) k
  obtain ⟨-, h2, h3, h4, rfl⟩ := hd
  have hlen : offs.toList.length = ts.length := by
    have := congrArg List.length h2
    simpa using this
  unfold ev_br
  dsimp only
  rw [sw_tl]
  by_cases h : x.toInt < lo0 ∨ hi0 < x.toInt
  · rw [if_pos h, if_pos (by omega), h3]; rfl
  · rw [if_neg h, if_neg (by omega)]
    have hj : (x.toInt - lo0).toNat < ts.length := by omega
    have h5 := congrArg (fun l => l[(x.toInt - lo0).toNat]?) h2
    simp only [List.getElem?_map, List.getElem?_eq_getElem hj, Option.map_some] at h5
    have hj2 : (x.toInt - lo0).toNat < offs.size := by rw [← Array.length_toList, hlen]; exact hj
    rw [List.getElem?_eq_getElem (by rw [hlen]; exact hj), Option.map_some] at h5
    rw [Array.getElem?_eq_getElem hj2]
    dsimp only
    have h6 := Option.some.inj h5
    rw [Array.getElem_toList] at h6
    rw [h6, List.getD_eq_getElem?_getD, List.getElem?_eq_getElem hj]; rfl
theorem sw_lk (pc : Nat) (x : Int) (d : Nat) : ∀ (ps : List (Int × Int)) (cs : List (Int × Nat)) (dd : Int), ps.map (fun e => (e.1, ev_tg pc e.2)) = cs.map (fun e => (e.1, some e.2)) → ev_tg pc dd = some d → ev_tg pc (Op.lookupswitch.offset ps dd x) = some (sw x d cs) := by
  intro ps
  induction ps with
  | nil =>
    intro cs dd h1 h2
    cases cs with
    | nil => exact h2
    | cons _ _ => cases h1
  | cons p r ih =>
    intro cs dd h1 h2
    cases cs with
    | nil => cases h1
    | cons c s =>
      obtain ⟨p1, p2⟩ := p
      obtain ⟨c1, c2⟩ := c
      simp only [List.map_cons, List.cons.injEq, Prod.mk.injEq] at h1
      obtain ⟨⟨e1, e2⟩, e3⟩ := h1
      subst e1
      unfold sw
      rw [Op.lookupswitch.offset_cons]
      by_cases h : x = p1
      · rw [if_pos h.symm, if_pos h]; exact e2
      · rw [if_neg (fun q => h q.symm), if_neg h]; exact ih s dd e3 h2
theorem i_lk {d : Nat} {cs : List (Int × Nat)} {dd : Int} {ps : Array (Int × Int)} (hd : ev_at M pc [(.lookupswitch dd ps, n)] = true ∧ (ps.toList.zip (ps.toList.drop 1)).all (fun (a, next) => a.1 < next.1) = true ∧ ps.toList.map (fun e => (e.1, ev_tg pc e.2)) = cs.map (fun e => (e.1, some e.2)) ∧ ev_tg pc dd = some d) (k : Im q K (ev_dn b z M (sw x.toInt d cs) lo st μ)) : Im q K (ev_dn b z M pc lo (.int x :: st) μ) := by
  refine i_st (n_br (at1 hd.1) rfl (?_ : ev_br _ _ _ _ = some (sw x.toInt d cs, st))) k
  unfold ev_br
  dsimp only
  rw [if_pos hd.2.1, sw_lk pc x.toInt d ps.toList cs dd hd.2.2.1 hd.2.2.2]; rfl
theorem i_sc {c : Int32} {ci : Int} {t d : Nat} {r : List (Int × Nat)} {q2 : Option α} (hc : c.toInt = ci) (k1 : Im q K (ev_dn b z M t lo st μ)) (k2 : Im q2 K (ev_dn b z M (sw x.toInt d r) lo st μ)) : Im (if x = c then q else q2) K (ev_dn b z M (sw x.toInt d ((ci, t) :: r)) lo st μ) := by
  unfold sw
  by_cases h : x = c
  · subst h; rw [if_pos rfl, if_pos hc]; exact k1
  · rw [if_neg h, if_neg (fun w => h (Int32.toInt_inj.mp (w.trans hc.symm)))]; exact k2
theorem i_s0 {xi : Int} {d : Nat} (k : Im q K (ev_dn b z M d lo st μ)) : Im q K (ev_dn b z M (sw xi d []) lo st μ) := k
theorem i_div0 {pc' : Nat} (hd : ev_at M pc [(.idiv, 1)] = true ∧ pc + 1 = pc') (hy : ¬ y = 0) (k : Im q K (ev_dn b z M pc' lo (.int (x / y) :: st) μ)) : Im q K (ev_dn b z M pc lo (.int y :: .int x :: st) μ) := by
  refine i_st (n_div (at1 hd.1)) ?_
  rw [hd.2, if_neg hy]; exact k
theorem i_rem0 {pc' : Nat} (hd : ev_at M pc [(.irem, 1)] = true ∧ pc + 1 = pc') (hy : ¬ y = 0) (k : Im q K (ev_dn b z M pc' lo (.int (x - x / y * y) :: st) μ)) : Im q K (ev_dn b z M pc lo (.int y :: .int x :: st) μ) := by
  refine i_st (n_rem (at1 hd.1)) ?_
  rw [hd.2, if_neg hy]; exact k
/-! memory -/
theorem i_gf {idx ci k t p pc' : Nat} (hd : ev_at M pc [(.getfield idx, 3)] = true ∧ ev_fl (ev_ci M) idx = some (ci, k, t, p) ∧ (sh_f ci).getD k false = false ∧ k < (sh_f ci).length ∧ ci < 15 ∧ pc + 3 = pc') (ho : ok nx a ci) (h : Im q K (ev_dn b z M pc' lo (.int (m a k) :: st) (nx, mem L nx m))) : Im q K (ev_dn b z M pc lo (.ref a :: st) (nx, mem L nx m)) := by
  obtain ⟨h1, h2, h3, h4, h5, h6⟩ := hd
  refine i_st (n_gf (at1 h1) h2) ?_
  rw [show (nx, mem L nx m).2 a = some (ev_ob ci (sh_o ci a (m a))) from cel_ob ho h5, h6]
  unfold eg_gf
  dsimp only
  rw [if_pos ⟨rfl, sh_lo (Or.inl (by rw [ho.1]; exact h5))⟩, sh_o_get h4]
  unfold eg_v sh_v
  rw [h3, if_neg Bool.false_ne_true]; exact h
theorem i_gr {idx ci k t p pc' : Nat} (hd : ev_at M pc [(.getfield idx, 3)] = true ∧ ev_fl (ev_ci M) idx = some (ci, k, t, p) ∧ (sh_f ci).getD k false = true ∧ k < (sh_f ci).length ∧ ci < 15 ∧ pc + 3 = pc') (ho : ok nx a ci) (h : Im q K (ev_dn b z M pc' lo (.ref (sh_r a k) :: st) (nx, mem L nx m))) : Im q K (ev_dn b z M pc lo (.ref a :: st) (nx, mem L nx m)) := by
  obtain ⟨h1, h2, h3, h4, h5, h6⟩ := hd
  refine i_st (n_gf (at1 h1) h2) ?_
  rw [show (nx, mem L nx m).2 a = some (ev_ob ci (sh_o ci a (m a))) from cel_ob ho h5, h6]
  unfold eg_gf
  dsimp only
  rw [if_pos ⟨rfl, sh_lo (Or.inl (by rw [ho.1]; exact h5))⟩, sh_o_get h4]
  unfold eg_v sh_v
  rw [h3, if_pos rfl]; exact h
def zb {α : Type} (x : Int32) (f : Bool → Option α) : Option α := if x = 0 then f false else if x = 1 then f true else none
theorem i_gz {idx ci k t p pc' : Nat} {g : Bool → Option α} (hd : ev_at M pc [(.getfield idx, 3)] = true ∧ ev_fl (ev_ci M) idx = some (ci, k, t, p) ∧ (sh_f ci).getD k false = false ∧ k < (sh_f ci).length ∧ ci < 15 ∧ pc + 3 = pc') (ho : ok nx a ci) (h : ∀ B, Im (g B) K (ev_dn b z M pc' lo (.int (bi B) :: st) (nx, mem L nx m))) : Im (zb (m a k) g) K (ev_dn b z M pc lo (.ref a :: st) (nx, mem L nx m)) := by
  unfold zb
  by_cases h0 : m a k = 0
  · rw [if_pos h0]
    refine i_gf hd ho ?_
    rw [h0]; exact h false
  · rw [if_neg h0]
    by_cases h1 : m a k = 1
    · rw [if_pos h1]
      refine i_gf hd ho ?_
      rw [h1]; exact h true
    · rw [if_neg h1]; exact i_no
theorem i_pf {idx ci k p pc' : Nat} {g : Mm → Option α} (hd : ev_at M pc [(.putfield idx, 3)] = true ∧ ev_fl (ev_ci M) idx = some (ci, k, 0, p) ∧ (sh_f ci).getD k false = false ∧ k < (sh_f ci).length ∧ ci < 15 ∧ pc + 3 = pc' ∧ (((ev_C ci).2.1 k).2.2.2 = false ∨ (ev_kd M = 2 ∧ ev_ci M = ci))) (ho : ok nx a ci) (h : ∀ m', Im (g m') K (ev_dn b z M pc' lo st (nx, mem L nx m'))) : Im (wb (wr m a k x) g) K (ev_dn b z M pc lo (.int x :: .ref a :: st) (nx, mem L nx m)) := by
  obtain ⟨h1, h2, h3, h4, h5, h6, h7⟩ := hd
  refine i_st (n_pf (at1 h1) h2 rfl h7) ?_
  rw [show (nx, mem L nx m).2 a = some (ev_ob ci (sh_o ci a (m a))) from cel_ob ho h5, h6]
  unfold eg_pf
  dsimp only
  rw [if_pos ⟨rfl, sh_lo (Or.inl (by rw [ho.1]; exact h5)), by rw [sh_o_len]; exact h4⟩, sh_o_set h3, mem_up (cel_ob ho h5)]
  exact h _
theorem i_pz {B : Bool} {idx ci k p pc' : Nat} {g : Mm → Option α} (hd : ev_at M pc [(.putfield idx, 3)] = true ∧ ev_fl (ev_ci M) idx = some (ci, k, 1, p) ∧ (sh_f ci).getD k false = false ∧ k < (sh_f ci).length ∧ ci < 15 ∧ pc + 3 = pc' ∧ (((ev_C ci).2.1 k).2.2.2 = false ∨ (ev_kd M = 2 ∧ ev_ci M = ci))) (ho : ok nx a ci) (h : ∀ m', Im (g m') K (ev_dn b z M pc' lo st (nx, mem L nx m'))) : Im (wb (wr m a k (bi B)) g) K (ev_dn b z M pc lo (.int (bi B) :: .ref a :: st) (nx, mem L nx m)) := by
  obtain ⟨h1, h2, h3, h4, h5, h6, h7⟩ := hd
  refine i_st (n_pz (at1 h1) h2 h7) ?_
  rw [show (nx, mem L nx m).2 a = some (ev_ob ci (sh_o ci a (m a))) from cel_ob ho h5, h6]
  unfold eg_pz
  dsimp only
  rw [if_pos ⟨⟨rfl, sh_lo (Or.inl (by rw [ho.1]; exact h5)), by rw [sh_o_len]; exact h4⟩, by cases B; exact Or.inl rfl; exact Or.inr rfl⟩, sh_o_set h3, mem_up (cel_ob ho h5)]
  exact h _
theorem i_al {pc' : Nat} (hd : ev_at M pc [(.iaload, 1)] = true ∧ pc + 1 = pc') (ho : ok nx a 100) (h : Im q K (ev_dn b z M pc' lo (.int (m a (ix x)) :: st) (nx, mem L nx m))) : Im (if ev_in x (sh_n a) = true then q else none) K (ev_dn b z M pc lo (.int x :: .ref a :: st) (nx, mem L nx m)) := by
  refine i_st (n_al (at1 hd.1)) ?_
  rw [show (nx, mem L nx m).2 a = some (ev_ia 0 (sh_n a) (m a)) from cel_ia ho, hd.2]
  unfold eg_al
  dsimp only
  by_cases hi : ev_in x (sh_n a) = true
  · rw [if_pos hi, if_pos ⟨rfl, hi, fun h => nomatch h⟩]; exact h
  · rw [if_neg hi]; exact i_no
theorem i_aS {pc' : Nat} (N : Nat) (hd : ev_at M pc [(.iaload, 1)] = true ∧ pc + 1 = pc') (hl : (if a = 2 then L else sh_n a) = N) (ho : ok nx a 99) (h : Im q K (ev_dn b z M pc' lo (.int (m a (ix x)) :: st) (nx, mem L nx m))) : Im (if ev_in x N = true then q else none) K (ev_dn b z M pc lo (.int x :: .ref a :: st) (nx, mem L nx m)) := by
  subst hl
  refine i_st (n_al (at1 hd.1)) ?_
  rw [show (nx, mem L nx m).2 a = some (ev_ia 0 (if a = 2 then L else sh_n a) (m a)) from cel_sa ho, hd.2]
  unfold eg_al
  dsimp only
  by_cases hi : ev_in x (if a = 2 then L else sh_n a) = true
  · rw [if_pos hi, if_pos ⟨rfl, hi, fun h => nomatch h⟩]; exact h
  · rw [if_neg hi]; exact i_no
theorem i_ba {pc' : Nat} (hd : ev_at M pc [(.baload, 1)] = true ∧ pc + 1 = pc') (ho : ok nx a 101) (h : Im q K (ev_dn b z M pc' lo (.int (m a (ix x)) :: st) (nx, mem L nx m))) : Im (if ev_in x (sh_n a) = true then q else none) K (ev_dn b z M pc lo (.int x :: .ref a :: st) (nx, mem L nx m)) := by
  refine i_st (n_bl (at1 hd.1)) ?_
  rw [show (nx, mem L nx m).2 a = some (ev_ia 1 (sh_n a) (m a)) from cel_ba ho, hd.2]
  unfold eg_al
  dsimp only
  by_cases hi : ev_in x (sh_n a) = true
  · rw [if_pos hi, if_pos ⟨rfl, hi, fun _ => sh_lo (Or.inr (by rw [ho.1]; decide))⟩]; exact h
  · rw [if_neg hi]; exact i_no
theorem i_as {pc' : Nat} {g : Mm → Option α} (hd : ev_at M pc [(.iastore, 1)] = true ∧ pc + 1 = pc') (ho : ok nx a 100) (h : ∀ m', Im (g m') K (ev_dn b z M pc' lo st (nx, mem L nx m'))) : Im (if ev_in x (sh_n a) = true then wb (wr m a (ix x) y) g else none) K (ev_dn b z M pc lo (.int y :: .int x :: .ref a :: st) (nx, mem L nx m)) := by
  refine i_st (n_as (at1 hd.1)) ?_
  rw [show (nx, mem L nx m).2 a = some (ev_ia 0 (sh_n a) (m a)) from cel_ia ho, hd.2]
  unfold eg_as
  dsimp only
  by_cases hi : ev_in x (sh_n a) = true
  · rw [if_pos hi, if_pos ⟨rfl, hi, sh_lo (Or.inr (by rw [ho.1]; decide))⟩, mem_up (cel_ia ho)]; exact h _
  · rw [if_neg hi]; exact i_no
theorem i_bs {pc' : Nat} {g : Mm → Option α} (hd : ev_at M pc [(.bastore, 1)] = true ∧ pc + 1 = pc') (ho : ok nx a 101) (h : ∀ m', Im (g m') K (ev_dn b z M pc' lo st (nx, mem L nx m'))) : Im (if ev_in x (sh_n a) = true then wb (wr m a (ix x) y.toInt8.toInt32) g else none) K (ev_dn b z M pc lo (.int y :: .int x :: .ref a :: st) (nx, mem L nx m)) := by
  refine i_st (n_bs (at1 hd.1)) ?_
  rw [show (nx, mem L nx m).2 a = some (ev_ia 1 (sh_n a) (m a)) from cel_ba ho, hd.2]
  unfold eg_as
  dsimp only
  by_cases hi : ev_in x (sh_n a) = true
  · rw [if_pos hi, if_pos ⟨rfl, hi, sh_lo (Or.inr (by rw [ho.1]; decide))⟩, mem_up (cel_ba ho)]; exact h _
  · rw [if_neg hi]; exact i_no
theorem i_rl {pc' : Nat} (hd : ev_at M pc [(.aaload, 1)] = true ∧ pc + 1 = pc') (ho : ok nx a 103) (h : ix x < sh_n a → Im q K (ev_dn b z M pc' lo (.ref (sh_r a (ix x)) :: st) (nx, mem L nx m))) : Im (if ev_in x (sh_n a) = true then q else none) K (ev_dn b z M pc lo (.int x :: .ref a :: st) (nx, mem L nx m)) := by
  refine i_st (n_rl (at1 hd.1)) ?_
  rw [show (nx, mem L nx m).2 a = some (ev_ra (sh_n a) (fun i => if i < sh_n a then some (sh_r a i) else none)) from cel_ra ho, hd.2]
  unfold eg_rl
  dsimp only
  by_cases hi : ev_in x (sh_n a) = true
  · have h1 : ix x < sh_n a := by
      unfold ev_in at hi
      have := of_decide_eq_true hi
      show x.toNatClampNeg < _
      omega
    rw [if_pos hi, if_pos ⟨hi, sh_lo (Or.inr (by rw [ho.1]; decide))⟩, if_pos h1]; exact h h1
  · rw [if_neg hi]; exact i_no
theorem i_ln {pc' c : Nat} (hd : ev_at M pc [(.arraylength, 1)] = true ∧ pc + 1 = pc' ∧ (c = 100 ∨ c = 101)) (ho : ok nx a c) (h : Im q K (ev_dn b z M pc' lo (.int (Int32.ofNat (sh_n a)) :: st) (nx, mem L nx m))) : Im q K (ev_dn b z M pc lo (.ref a :: st) (nx, mem L nx m)) := by
  refine i_st (n_ln (at1 hd.1)) ?_
  rw [hd.2.1]
  rcases hd.2.2 with rfl | rfl
  · rw [show (nx, mem L nx m).2 a = some (ev_ia 0 (sh_n a) (m a)) from cel_ia ho]; exact h
  · rw [show (nx, mem L nx m).2 a = some (ev_ia 1 (sh_n a) (m a)) from cel_ba ho]; exact h
theorem i_lS {pc' : Nat} (N : Nat) (hd : ev_at M pc [(.arraylength, 1)] = true ∧ pc + 1 = pc') (hl : (if a = 2 then L else sh_n a) = N) (ho : ok nx a 99) (h : Im q K (ev_dn b z M pc' lo (.int (Int32.ofNat N) :: st) (nx, mem L nx m))) : Im q K (ev_dn b z M pc lo (.ref a :: st) (nx, mem L nx m)) := by
  subst hl
  refine i_st (n_ln (at1 hd.1)) ?_
  rw [hd.2, show (nx, mem L nx m).2 a = some (ev_ia 0 (if a = 2 then L else sh_n a) (m a)) from cel_sa ho]; exact h
theorem i_gs {idx w pc' : Nat} (hd : ev_at M pc [(.getstatic idx, 3)] = true ∧ (ev_ci M = 1 ∧ idx = 34 ∧ w = 0) ∧ pc + 3 = pc') (k : Im q K (ev_dn b z M pc' lo (.ref w :: st) μ)) : Im q K (ev_dn b z M pc lo st μ) := by
  refine i_st (n_gs (at1 hd.1) hd.2.1) ?_
  rw [hd.2.2]; exact k
theorem i_lc {idx p pc' : Nat} (hd : ev_at M pc [(.ldc idx, 2)] = true ∧ ev_ks (ev_ci M) idx = some (.int x, p) ∧ pc + 2 = pc') (k : Im q K (ev_dn b z M pc' lo (.int x :: st) μ)) : Im q K (ev_dn b z M pc lo st μ) := by
  refine i_st (n_lc (at1 hd.1) hd.2.1) ?_
  rw [hd.2.2]; exact k
theorem i_lcw {idx p pc' : Nat} (hd : ev_at M pc [(.ldc_w idx, 3)] = true ∧ ev_ks (ev_ci M) idx = some (.int x, p) ∧ pc + 3 = pc') (k : Im q K (ev_dn b z M pc' lo (.int x :: st) μ)) : Im q K (ev_dn b z M pc lo st μ) := by
  refine i_st (n_lcw (at1 hd.1) hd.2.1) ?_
  rw [hd.2.2]; exact k
theorem i_lt {idx p w pc' : Nat} {tx : String} (hd : ev_at M pc [(.ldc idx, 2)] = true ∧ ev_ks (ev_ci M) idx = none ∧ ev_tx (ev_ci M) idx = some (tx, w, p) ∧ pc + 2 = pc') (k : Im q K (ev_dn b z M pc' lo (.ref w :: st) μ)) : Im q K (ev_dn b z M pc lo st μ) := by
  refine i_st (n_lt (at1 hd.1) hd.2.1 hd.2.2.1) ?_
  rw [hd.2.2.2]; exact k
theorem i_ltw {idx p w pc' : Nat} {tx : String} (hd : ev_at M pc [(.ldc_w idx, 3)] = true ∧ ev_ks (ev_ci M) idx = none ∧ ev_tx (ev_ci M) idx = some (tx, w, p) ∧ pc + 3 = pc') (k : Im q K (ev_dn b z M pc' lo (.ref w :: st) μ)) : Im q K (ev_dn b z M pc lo st μ) := by
  refine i_st (n_ltw (at1 hd.1) hd.2.1 hd.2.2.1) ?_
  rw [hd.2.2.2]; exact k
theorem i_l2 {idx p pc' : Nat} (hd : ev_at M pc [(.ldc2_w idx, 3)] = true ∧ ev_ks (ev_ci M) idx = some (.long x.toInt64, p) ∧ pc + 3 = pc') (k : Im q K (ev_dn b z M pc' lo (.long x.toInt64 :: st) μ)) : Im q K (ev_dn b z M pc lo st μ) := by
  refine i_st (n_l2 (at1 hd.1) hd.2.1) ?_
  rw [hd.2.2]; exact k
/-! long values that are ints -/
def ilg (x y : Int32) : Int32 := if y < x then 1 else if x = y then 0 else -1
theorem lg_i {x y : Int32} : lg_cmp x.toInt64 y.toInt64 = ilg x y := by
  unfold lg_cmp ilg
  have e1 : x.toInt64 > y.toInt64 ↔ y < x := by rw [gt_iff_lt, Int64.lt_iff_toInt_lt, Int32.lt_iff_toInt_lt, Int32.toInt_toInt64, Int32.toInt_toInt64]
  have e2 : x.toInt64 = y.toInt64 ↔ x = y := by rw [← Int64.toInt_inj, Int32.toInt_toInt64, Int32.toInt_toInt64, Int32.toInt_inj]
  by_cases h1 : y < x
  · rw [if_pos h1, if_pos (e1.mpr h1)]
  · rw [if_neg h1, if_neg (fun q => h1 (e1.mp q))]
    by_cases h2 : x = y
    · rw [if_pos h2, if_pos (e2.mpr h2)]
    · rw [if_neg h2, if_neg (fun q => h2 (e2.mp q))]
theorem i_lcm {pc' : Nat} (hd : ev_at M pc [(.lcmp, 1)] = true ∧ pc + 1 = pc') (k : Im q K (ev_dn b z M pc' lo (.int (ilg x y) :: st) μ)) : Im q K (ev_dn b z M pc lo (.long y.toInt64 :: .long x.toInt64 :: st) μ) := by
  refine i_st (n_pu (at1 hd.1) (rfl : ev_pu .lcmp 1 (.long y.toInt64 :: .long x.toInt64 :: st) = some (.int (lg_cmp x.toInt64 y.toInt64) :: st))) ?_
  rw [hd.2, lg_i]; exact k
theorem i_fd {w1 w2 : UInt32} {pc' : Nat} (hd : ev_at M pc [(.fdiv, 1)] = true ∧ pc + 1 = pc') (k : Im q K (ev_dn b z M pc' lo (.float (FP.fdiv w1 w2) :: st) μ)) : Im (if (FP.fdiv w1 w2) &&& 0x7fffffff ≤ 0x7f800000 then q else none) K (ev_dn b z M pc lo (.float w2 :: .float w1 :: st) μ) := by
  by_cases h : (FP.fdiv w1 w2) &&& 0x7fffffff ≤ 0x7f800000
  · rw [if_pos h]
    refine i_st (n_pu (at1 hd.1) (if_pos h : ev_pu .fdiv 1 (.float w2 :: .float w1 :: st) = some (.float (FP.fdiv w1 w2) :: st))) ?_
    rw [hd.2]; exact k
  · rw [if_neg h]; exact i_no
theorem i_dd {w1 w2 : UInt64} {pc' : Nat} (hd : ev_at M pc [(.ddiv, 1)] = true ∧ pc + 1 = pc') (k : Im q K (ev_dn b z M pc' lo (.double (FP.ddiv w1 w2) :: st) μ)) : Im (if (FP.ddiv w1 w2) &&& 0x7fffffffffffffff ≤ 0x7ff0000000000000 then q else none) K (ev_dn b z M pc lo (.double w2 :: .double w1 :: st) μ) := by
  by_cases h : (FP.ddiv w1 w2) &&& 0x7fffffffffffffff ≤ 0x7ff0000000000000
  · rw [if_pos h]
    refine i_st (n_pu (at1 hd.1) (if_pos h : ev_pu .ddiv 1 (.double w2 :: .double w1 :: st) = some (.double (FP.ddiv w1 w2) :: st))) ?_
    rw [hd.2]; exact k
  · rw [if_neg h]; exact i_no
theorem i_f2d {w : UInt32} {pc' : Nat} (hd : ev_at M pc [(.f2d, 1)] = true ∧ pc + 1 = pc') (k : Im q K (ev_dn b z M pc' lo (.double (FP.f2d w) :: st) μ)) : Im (if (FP.f2d w) &&& 0x7fffffffffffffff ≤ 0x7ff0000000000000 then q else none) K (ev_dn b z M pc lo (.float w :: st) μ) := by
  by_cases h : (FP.f2d w) &&& 0x7fffffffffffffff ≤ 0x7ff0000000000000
  · rw [if_pos h]
    refine i_st (n_pu (at1 hd.1) (if_pos h : ev_pu .f2d 1 (.float w :: st) = some (.double (FP.f2d w) :: st))) ?_
    rw [hd.2]; exact k
  · rw [if_neg h]; exact i_no
def jabs (x : Int32) : Int32 := if 0 ≤ x then x else 0 - x
def jmax (x y : Int32) : Int32 := if x < y then y else x
def jmin (x y : Int32) : Int32 := if y < x then y else x
/-! the JDK's own -/
theorem i_abs {idx pc' : Nat} (hd : ev_at M pc [(.invokestatic idx, 3)] = true ∧ ev_iv M (.invokestatic idx) 3 = some (1001, 0) ∧ ev_jk 1001 = 0 ∧ ev_jf 1001 ≤ ev_dp M ∧ ev_jl 1001 ≤ ev_lc M ∧ pc + 3 = pc') (hc : Nat.ble ((((.int x : Value) :: st).map Value.category).sum) 9 = true) (k : Im q K (ev_dn b z M pc' lo (.int (jabs x) :: st) μ)) : Im q K (ev_dn b z M pc lo (.int x :: st) μ) := by
  obtain ⟨h1, h2, h3, h4, h5, h6⟩ := hd
  refine i_st (n_abs (at1 h1) h2 ⟨h3, Nat.le_of_ble_eq_true hc, h4, h5⟩) ?_
  rw [h6]; exact k
theorem i_max {idx pc' : Nat} (hd : ev_at M pc [(.invokestatic idx, 3)] = true ∧ ev_iv M (.invokestatic idx) 3 = some (1002, 0) ∧ ev_jk 1002 = 0 ∧ ev_jf 1002 ≤ ev_dp M ∧ ev_jl 1002 ≤ ev_lc M ∧ pc + 3 = pc') (hc : Nat.ble ((((.int y : Value) :: .int x :: st).map Value.category).sum) 9 = true) (k : Im q K (ev_dn b z M pc' lo (.int (jmax x y) :: st) μ)) : Im q K (ev_dn b z M pc lo (.int y :: .int x :: st) μ) := by
  obtain ⟨h1, h2, h3, h4, h5, h6⟩ := hd
  refine i_st (n_max (at1 h1) h2 ⟨h3, Nat.le_of_ble_eq_true hc, h4, h5⟩) ?_
  rw [h6]; exact k
theorem i_min {idx pc' : Nat} (hd : ev_at M pc [(.invokestatic idx, 3)] = true ∧ ev_iv M (.invokestatic idx) 3 = some (1003, 0) ∧ ev_jk 1003 = 0 ∧ ev_jf 1003 ≤ ev_dp M ∧ ev_jl 1003 ≤ ev_lc M ∧ pc + 3 = pc') (hc : Nat.ble ((((.int y : Value) :: .int x :: st).map Value.category).sum) 9 = true) (k : Im q K (ev_dn b z M pc' lo (.int (jmin x y) :: st) μ)) : Im q K (ev_dn b z M pc lo (.int y :: .int x :: st) μ) := by
  obtain ⟨h1, h2, h3, h4, h5, h6⟩ := hd
  refine i_st (n_min (at1 h1) h2 ⟨h3, Nat.le_of_ble_eq_true hc, h4, h5⟩) ?_
  rw [h6]; exact k
theorem i_ac {idx a2 pc' : Nat} {w x y : Int32} {g : Mm → Option α} (hd : ev_at M pc [(.invokestatic idx, 3)] = true ∧ ev_iv M (.invokestatic idx) 3 = some (1000, 0) ∧ ev_jk 1000 = 0 ∧ ev_jf 1000 ≤ ev_dp M ∧ ev_jl 1000 ≤ ev_lc M ∧ pc + 3 = pc') (hc : Nat.ble ((((.int w : Value) :: .int y :: .ref a2 :: .int x :: .ref a :: st).map Value.category).sum) 9 = true) (ho : ok nx a 100) (ho2 : ok nx a2 100) (h : ∀ m', Im (g m') K (ev_dn b z M pc' lo st (nx, mem L nx m'))) : Im (if ¬ x < 0 ∧ ¬ y < 0 ∧ ¬ w < 0 ∧ ix x + ix w ≤ sh_n a ∧ ix y + ix w ≤ sh_n a2 then wb (wa m a2 (va_cpy (m a) (m a2) (ix x) (ix y) (ix w))) g else none) K (ev_dn b z M pc lo (.int w :: .int y :: .ref a2 :: .int x :: .ref a :: st) (nx, mem L nx m)) := by
  obtain ⟨h1, h2, h3, h4, h5, h6⟩ := hd
  refine i_st (n_ac (at1 h1) h2 ⟨h3, Nat.le_of_ble_eq_true hc, h4, h5⟩) ?_
  rw [show (nx, mem L nx m).2 a = some (ev_ia 0 (sh_n a) (m a)) from cel_ia ho, show (nx, mem L nx m).2 a2 = some (ev_ia 0 (sh_n a2) (m a2)) from cel_ia ho2, h6]
  unfold eg_ac
  dsimp only
  by_cases hi : ¬ x < 0 ∧ ¬ y < 0 ∧ ¬ w < 0 ∧ ix x + ix w ≤ sh_n a ∧ ix y + ix w ≤ sh_n a2
  · rw [if_pos hi, if_pos ⟨rfl, rfl, hi.1, hi.2.1, hi.2.2.1, hi.2.2.2.1, hi.2.2.2.2, sh_lo (Or.inr (by rw [ho.1]; decide)), sh_lo (Or.inr (by rw [ho2.1]; decide))⟩, mem_up (cel_ia ho2)]; exact h _
  · rw [if_neg hi]; exact i_no
theorem i_sl {idx pc' : Nat} (hd : ev_at M pc [(.invokevirtual idx, 3)] = true ∧ ev_iv M (.invokevirtual idx) 3 = some (1004, 1) ∧ ev_jk 1004 = 1 ∧ ev_jf 1004 ≤ ev_dp M ∧ ev_jl 1004 ≤ ev_lc M ∧ pc + 3 = pc') (hc : Nat.ble ((((.ref a : Value) :: st).map Value.category).sum) 9 = true) (ho : ok nx a 109) (k : Im q K (ev_dn b z M pc' lo (.int (Int32.ofNat (sh_n a)) :: st) (nx, mem L nx m))) : Im q K (ev_dn b z M pc lo (.ref a :: st) (nx, mem L nx m)) := by
  obtain ⟨h1, h2, h3, h4, h5, h6⟩ := hd
  refine i_st (n_sl (at1 h1) h2 ⟨h3, Nat.le_of_ble_eq_true hc, h4, h5⟩) ?_
  rw [show (nx, mem L nx m).2 a = some (ev_ia 9 (sh_n a) (m a)) from cel_tx ho, h6]; exact k
theorem i_sx {idx pc' : Nat} (hd : ev_at M pc [(.invokevirtual idx, 3)] = true ∧ ev_iv M (.invokevirtual idx) 3 = some (1005, 1) ∧ ev_jk 1005 = 1 ∧ ev_jf 1005 ≤ ev_dp M ∧ ev_jl 1005 ≤ ev_lc M ∧ pc + 3 = pc') (hc : Nat.ble ((((.int x : Value) :: .ref a :: st).map Value.category).sum) 9 = true) (ho : ok nx a 109) (k : Im q K (ev_dn b z M pc' lo (.int (m a (ix x)) :: st) (nx, mem L nx m))) : Im (if ev_in x (sh_n a) = true then q else none) K (ev_dn b z M pc lo (.int x :: .ref a :: st) (nx, mem L nx m)) := by
  obtain ⟨h1, h2, h3, h4, h5, h6⟩ := hd
  refine i_st (n_sc (at1 h1) h2 ⟨h3, Nat.le_of_ble_eq_true hc, h4, h5⟩) ?_
  rw [show (nx, mem L nx m).2 a = some (ev_ia 9 (sh_n a) (m a)) from cel_tx ho, h6]
  unfold eg_sc
  dsimp only
  by_cases hi : ev_in x (sh_n a) = true
  · rw [if_pos hi, if_pos ⟨rfl, hi⟩]; exact k
  · rw [if_neg hi]; exact i_no
/-! calls -/
abbrev cd_ (M pc t k na ml k1 k2 pc' : Nat) (i : Instr) : Prop := ev_at M pc [(i, 3)] = true ∧ ev_iv M i 3 = some (t, k) ∧ t < 1000 ∧ ev_kd t = k ∧ ev_na t = na ∧ ev_ml t = ml ∧ ev_dp t + 1 ≤ ev_dp M ∧ 8 + (ml + 11) + ev_lc t ≤ ev_lc M ∧ ev_k1 t = k1 ∧ ev_k2 t = k2 ∧ pc + 3 = pc'
abbrev co_ (na ml : Nat) (st av st' : List Value) (en : ev_L) : Prop := (st.take na).reverse = av ∧ st.drop na = st' ∧ ev_ar av ++ List.replicate (ml - (ev_ar av).length) none = en ∧ Nat.ble na st.length = true ∧ Nat.ble ((st'.map Value.category).sum) 8 = true ∧ Nat.ble (ev_ar av).length ml = true
noncomputable def eh (b z M pc : Nat) (lo : ev_L) (e : Nat) (μ : ev_H) : ev_Q := match ev_hd M pc e with
  | some (pc', i) => ev_dn b z M pc' (ev_un lo i) [] μ
  | none => if (ev_eh M).isEmpty = true then some (.inr e, μ) else none
def eo {T : Type} (vo : T → Option Value) (r : T ⊕ Nat) : Option Value ⊕ Nat := match r with
  | .inl v => .inl (vo v)
  | .inr e => .inr e
def bE {T α : Type} (q : Option ((T ⊕ Nat) × Mm)) (f : T → Mm → Option α) (g : Nat → Mm → Option α) : Option α := match q with
  | none => none
  | some (.inl v, m') => f v m'
  | some (.inr e, m') => g e m'
theorem i_c0 {t k na ml k1 k2 pc' : Nat} {av : List Value} {en : ev_L} (hd : cd_ M pc t k na ml k1 k2 pc' i) (ho : co_ na ml st av st' en) (hp : ev_pu i 3 st = none) (hb : ev_br i 3 pc st = none) (hl : ev_ld i 3 lo = none) (hs : ev_so i 3 lo st = none) (hm : ev_me (ev_ci M) (ev_kd M) i 3 st μ = none) (hr : ev_rc t k av μ = true) (hz : k1 ≤ b ∧ k2 ≤ z) : ev_dn b z M pc lo st μ = ev_bh k (b - k1) (z - k2) M pc lo st' (ev_dn k1 k2 t 0 en [] μ) := by
  obtain ⟨h1, h2, h3, h4, h5, h6, h7, h8, h9, h10, -⟩ := hd
  obtain ⟨o1, o2, o3, o4, o5, o6⟩ := ho
  subst h5; subst h6
  rw [n_ck (at1 h1) hp hb hl hs hm h2 h3 ⟨h4, Nat.le_of_ble_eq_true o4, by rw [o2]; exact Nat.le_of_ble_eq_true o5, h7, h8, by rw [o1]; exact Nat.le_of_ble_eq_true o6⟩ o1 o2 (show ev_en t av = en from o3) h9 h10, if_pos hr, if_pos hz]
theorem ev_rc_ok {t k ci a : Nat} {av : List Value} (hk : k = 1 ∨ k = 2) (hc : ev_ci t = ci ∧ ci < 15) (ho : ok nx a ci) : ev_rc t k (.ref a :: av) (nx, mem L nx m) = true := by
  have e : mem L nx m a = some (ev_ob ci (sh_o ci a (m a))) := cel_ob ho hc.2
  have h : ev_S ≤ a := sh_lo (Or.inl (by rw [ho.1]; exact hc.2))
  rcases hk with rfl | rfl
  · simp only [ev_rc, e]; exact decide_eq_true ⟨hc.1.symm, h⟩
  · simp only [ev_rc, e]; exact decide_eq_true ⟨hc.1.symm, h⟩
theorem i_bR {β : Type} {qc : Option β} {f : β → Option α} {vo : β → Option Value} {mo : β → Mm} {s2 : β → List Value} {k pc' t : Nat} {en : ev_L} (hp : pc + 3 = pc') (hs : ∀ r, (vo r).toList ++ st' = s2 r) (hc : Im qc (fun r e => e = some (.inl (vo r), (nx, mem L nx (mo r)))) (ev_dn 0 0 t 0 en [] (nx, mem L nx m))) (h : ∀ r, Im (f r) K (ev_dn b z M pc' lo (s2 r) (nx, mem L nx (mo r)))) : Im (qc.bind f) K (ev_bh k b z M pc lo st' (ev_dn 0 0 t 0 en [] (nx, mem L nx m))) := by
  intro r hr
  cases hq : qc with
  | none => rw [hq] at hr; cases hr
  | some w =>
    rw [hq] at hr
    rw [hc w hq]
    unfold ev_bh
    dsimp only
    rw [hs, hp]
    exact h w r hr
theorem i_cs {β : Type} {qc : Option β} {f : β → Option α} {vo : β → Option Value} {mo : β → Mm} {s2 : β → List Value} {t na ml idx pc' : Nat} {av : List Value} {en : ev_L} (hd : cd_ M pc t 0 na ml 0 0 pc' (.invokestatic idx)) (ho : co_ na ml st av st' en) (hs : ∀ r, (vo r).toList ++ st' = s2 r) (hc : Im qc (fun r e => e = some (.inl (vo r), (nx, mem L nx (mo r)))) (ev_dn 0 0 t 0 en [] (nx, mem L nx m))) (h : ∀ r, Im (f r) K (ev_dn b z M pc' lo (s2 r) (nx, mem L nx (mo r)))) : Im (qc.bind f) K (ev_dn b z M pc lo st (nx, mem L nx m)) := by
  refine i_st (i_c0 hd ho rfl rfl rfl rfl rfl rfl ⟨Nat.zero_le _, Nat.zero_le _⟩) ?_
  exact i_bR hd.2.2.2.2.2.2.2.2.2.2 hs hc h
theorem i_cv {β : Type} {qc : Option β} {f : β → Option α} {vo : β → Option Value} {mo : β → Mm} {s2 : β → List Value} {t na ml idx pc' ci : Nat} {av : List Value} {en : ev_L} (hd : cd_ M pc t 1 na ml 0 0 pc' (.invokevirtual idx)) (hci : ev_ci t = ci ∧ ci < 15) (hok : ok nx a ci) (ho : co_ na ml st (.ref a :: av) st' en) (hs : ∀ r, (vo r).toList ++ st' = s2 r) (hc : Im qc (fun r e => e = some (.inl (vo r), (nx, mem L nx (mo r)))) (ev_dn 0 0 t 0 en [] (nx, mem L nx m))) (h : ∀ r, Im (f r) K (ev_dn b z M pc' lo (s2 r) (nx, mem L nx (mo r)))) : Im (qc.bind f) K (ev_dn b z M pc lo st (nx, mem L nx m)) := by
  refine i_st (i_c0 hd ho rfl rfl rfl rfl rfl (ev_rc_ok (Or.inl rfl) hci hok) ⟨Nat.zero_le _, Nat.zero_le _⟩) ?_
  exact i_bR hd.2.2.2.2.2.2.2.2.2.2 hs hc h
theorem i_bE {T : Type} {qc : Option ((T ⊕ Nat) × Mm)} {f : T → Mm → Option α} {g : Nat → Mm → Option α} {vo : T → Option Value} {s2 : T → List Value} {k pc' t k1 k2 : Nat} {en : ev_L} (hk : ¬ k = 2) (hp : pc + 3 = pc') (hs : ∀ r, (vo r).toList ++ st' = s2 r) (hc : Im qc (fun r e => e = some (eo vo r.1, (nx, mem L nx r.2))) (ev_dn k1 k2 t 0 en [] (nx, mem L nx m))) (h : ∀ v m', Im (f v m') K (ev_dn b z M pc' lo (s2 v) (nx, mem L nx m'))) (hh : ∀ e m', Im (g e m') K (eh b z M pc lo e (nx, mem L nx m'))) : Im (bE qc f g) K (ev_bh k b z M pc lo st' (ev_dn k1 k2 t 0 en [] (nx, mem L nx m))) := by
  intro r hr
  cases qc with
  | none => cases hr
  | some w =>
    obtain ⟨w1, m'⟩ := w
    cases w1 with
    | inl v =>
      rw [hc _ rfl]
      unfold ev_bh eo
      dsimp only
      rw [hs, hp]
      exact h v m' r hr
    | inr e =>
      rw [hc _ rfl]
      have := hh e m' r hr
      unfold eh at this
      unfold ev_bh eo
      dsimp only
      rw [if_neg hk]
      exact this
theorem i_es {T : Type} {qc : Option ((T ⊕ Nat) × Mm)} {f : T → Mm → Option α} {g : Nat → Mm → Option α} {vo : T → Option Value} {s2 : T → List Value} {t na ml idx pc' k1 k2 : Nat} {av : List Value} {en : ev_L} (hd : cd_ M pc t 0 na ml k1 k2 pc' (.invokestatic idx)) (ho : co_ na ml st av st' en) (hz : k1 ≤ b ∧ k2 ≤ z) (hs : ∀ r, (vo r).toList ++ st' = s2 r) (hc : Im qc (fun r e => e = some (eo vo r.1, (nx, mem L nx r.2))) (ev_dn k1 k2 t 0 en [] (nx, mem L nx m))) (h : ∀ v m', Im (f v m') K (ev_dn (b - k1) (z - k2) M pc' lo (s2 v) (nx, mem L nx m'))) (hh : ∀ e m', Im (g e m') K (eh (b - k1) (z - k2) M pc lo e (nx, mem L nx m'))) : Im (bE qc f g) K (ev_dn b z M pc lo st (nx, mem L nx m)) := by
  refine i_st (i_c0 hd ho rfl rfl rfl rfl rfl rfl hz) ?_
  exact i_bE (by decide) hd.2.2.2.2.2.2.2.2.2.2 hs hc h hh
theorem i_ev {T : Type} {qc : Option ((T ⊕ Nat) × Mm)} {f : T → Mm → Option α} {g : Nat → Mm → Option α} {vo : T → Option Value} {s2 : T → List Value} {t na ml idx pc' ci k1 k2 : Nat} {av : List Value} {en : ev_L} (hd : cd_ M pc t 1 na ml k1 k2 pc' (.invokevirtual idx)) (hci : ev_ci t = ci ∧ ci < 15) (hok : ok nx a ci) (ho : co_ na ml st (.ref a :: av) st' en) (hz : k1 ≤ b ∧ k2 ≤ z) (hs : ∀ r, (vo r).toList ++ st' = s2 r) (hc : Im qc (fun r e => e = some (eo vo r.1, (nx, mem L nx r.2))) (ev_dn k1 k2 t 0 en [] (nx, mem L nx m))) (h : ∀ v m', Im (f v m') K (ev_dn (b - k1) (z - k2) M pc' lo (s2 v) (nx, mem L nx m'))) (hh : ∀ e m', Im (g e m') K (eh (b - k1) (z - k2) M pc lo e (nx, mem L nx m'))) : Im (bE qc f g) K (ev_dn b z M pc lo st (nx, mem L nx m)) := by
  refine i_st (i_c0 hd ho rfl rfl rfl rfl rfl (ev_rc_ok (Or.inl rfl) hci hok) hz) ?_
  exact i_bE (by decide) hd.2.2.2.2.2.2.2.2.2.2 hs hc h hh
theorem i_h0 {e : Nat} {r : α} (hd : ev_eh M = []) (hK : K r (some (.inr e, μ))) : Im (some r) K (eh b z M pc lo e μ) := by
  intro r' hr
  cases hr
  unfold eh ev_hd
  rw [hd]
  exact hK
theorem i_h1 {e e1 pc' j : Nat} {q2 : Option α} (hd : ev_hd M pc e1 = some (pc', j)) (hl : ev_un lo j = lo') (h1 : Im q K (ev_dn b z M pc' lo' [] μ)) (h2 : Im q2 K (eh b z M pc lo e μ)) : Im (if e = e1 then q else q2) K (eh b z M pc lo e μ) := by
  by_cases h : e = e1
  · subst h
    rw [if_pos rfl]
    unfold eh
    rw [hd]
    dsimp only
    rw [hl]; exact h1
  · rw [if_neg h]; exact h2
theorem i_th {e k : Nat} {r : α} (hd : ev_f M pc = some (i, k) ∧ ev_th2 M pc = some e ∧ 8 ≤ ev_dp M ∧ 130 ≤ ev_lc M) (hz : 1 ≤ b ∧ 6 ≤ z) (hK : K r (some (.inr e, μ))) : Im (some r) K (ev_dn b z M pc lo [] μ) := by
  intro r' hr
  cases hr
  rw [n_th ⟨hd.1, hd.2.1⟩ hd.2.2, if_pos hz]; exact hK
theorem i_bW {β : Type} {qc : Option β} {f : β → Option α} {vo : β → Option Value} {mo : β → Mm} {s2 : β → List Value} {k pc' t k1 k2 : Nat} {en : ev_L} (hp : pc + 3 = pc') (hs : ∀ r, (vo r).toList ++ st' = s2 r) (hc : Im qc (fun r e => e = some (.inl (vo r), (nx, mem L nx (mo r)))) (ev_dn k1 k2 t 0 en [] (nx, mem L nx m))) (h : ∀ r, Im (f r) K (ev_dn b z M pc' lo (s2 r) (nx, mem L nx (mo r)))) : Im (qc.bind f) K (ev_bh k b z M pc lo st' (ev_dn k1 k2 t 0 en [] (nx, mem L nx m))) := by
  intro r hr
  cases hq : qc with
  | none => rw [hq] at hr; cases hr
  | some w =>
    rw [hq] at hr
    rw [hc w hq]
    unfold ev_bh
    dsimp only
    rw [hs, hp]
    exact h w r hr
theorem i_ck {β : Type} {qc : Option β} {f : β → Option α} {vo : β → Option Value} {mo : β → Mm} {s2 : β → List Value} {t na ml idx pc' k1 k2 : Nat} {av : List Value} {en : ev_L} (hd : cd_ M pc t 0 na ml k1 k2 pc' (.invokestatic idx)) (ho : co_ na ml st av st' en) (hz : k1 ≤ b ∧ k2 ≤ z) (hs : ∀ r, (vo r).toList ++ st' = s2 r) (hc : Im qc (fun r e => e = some (.inl (vo r), (nx, mem L nx (mo r)))) (ev_dn k1 k2 t 0 en [] (nx, mem L nx m))) (h : ∀ r, Im (f r) K (ev_dn (b - k1) (z - k2) M pc' lo (s2 r) (nx, mem L nx (mo r)))) : Im (qc.bind f) K (ev_dn b z M pc lo st (nx, mem L nx m)) := by
  refine i_st (i_c0 hd ho rfl rfl rfl rfl rfl rfl hz) ?_
  exact i_bW hd.2.2.2.2.2.2.2.2.2.2 hs hc h
theorem i_cA {cr : Nat} {qc : Option Nat} {f : Nat → Option α} {s2 : Nat → List Value} {t na ml idx pc' ci : Nat} {av : List Value} {en : ev_L} (hd : cd_ M pc t 1 na ml 0 0 pc' (.invokevirtual idx)) (hci : ev_ci t = ci ∧ ci < 15) (hok : ok nx a ci) (ho : co_ na ml st (.ref a :: av) st' en) (hs : ∀ r, (some (.ref r : Value)).toList ++ st' = s2 r) (hc : Im qc (fun r e => e = some (.inl (some (.ref r)), (nx, mem L nx m)) ∧ ok nx r cr) (ev_dn 0 0 t 0 en [] (nx, mem L nx m))) (h : ∀ r, ok nx r cr → Im (f r) K (ev_dn b z M pc' lo (s2 r) (nx, mem L nx m))) : Im (qc.bind f) K (ev_dn b z M pc lo st (nx, mem L nx m)) := by
  refine i_st (i_c0 hd ho rfl rfl rfl rfl rfl (ev_rc_ok (Or.inl rfl) hci hok) ⟨Nat.zero_le _, Nat.zero_le _⟩) ?_
  intro r hr
  cases hq : qc with
  | none => rw [hq] at hr; cases hr
  | some w =>
    rw [hq] at hr
    obtain ⟨h1, h2⟩ := hc w hq
    rw [h1]
    unfold ev_bh
    dsimp only
    rw [hs, hd.2.2.2.2.2.2.2.2.2.2]
    exact h w h2 r hr
/-- what a method's answer is held to -/
abbrev kI (L nx : Nat) (m : Mm) : Int32 → ev_Q → Prop := fun r e => e = some (.inl (some (.int r)), (nx, mem L nx m))
abbrev kZ (L nx : Nat) (m : Mm) : Bool → ev_Q → Prop := fun r e => e = some (.inl (some (.int (bi r))), (nx, mem L nx m))
abbrev kD (L nx : Nat) (m : Mm) : UInt64 → ev_Q → Prop := fun r e => e = some (.inl (some (.double r)), (nx, mem L nx m))
abbrev kF (L nx : Nat) (m : Mm) : UInt32 → ev_Q → Prop := fun r e => e = some (.inl (some (.float r)), (nx, mem L nx m))
abbrev kA (c L nx : Nat) (m : Mm) : Nat → ev_Q → Prop := fun r e => e = some (.inl (some (.ref r)), (nx, mem L nx m)) ∧ ok nx r c
abbrev wV (L nx : Nat) : Mm → ev_Q → Prop := fun r e => e = some (.inl none, (nx, mem L nx r))
abbrev wI (L nx : Nat) : Int32 × Mm → ev_Q → Prop := fun r e => e = some (.inl (some (.int r.1)), (nx, mem L nx r.2))
abbrev wZ (L nx : Nat) : Bool × Mm → ev_Q → Prop := fun r e => e = some (.inl (some (.int (bi r.1))), (nx, mem L nx r.2))
abbrev wD (L nx : Nat) : UInt64 × Mm → ev_Q → Prop := fun r e => e = some (.inl (some (.double r.1)), (nx, mem L nx r.2))
abbrev wF (L nx : Nat) : UInt32 × Mm → ev_Q → Prop := fun r e => e = some (.inl (some (.float r.1)), (nx, mem L nx r.2))
abbrev eI (L nx : Nat) : (Int32 ⊕ Nat) × Mm → ev_Q → Prop := fun r e => e = some (eo (fun v => some (.int v)) r.1, (nx, mem L nx r.2))
abbrev eZ (L nx : Nat) : (Bool ⊕ Nat) × Mm → ev_Q → Prop := fun r e => e = some (eo (fun v => some (.int (bi v))) r.1, (nx, mem L nx r.2))
abbrev eV (L nx : Nat) : (Unit ⊕ Nat) × Mm → ev_Q → Prop := fun r e => e = some (eo (fun _ => none) r.1, (nx, mem L nx r.2))
/-! answers -/
theorem i_rv {r : α} (hd : ev_at M pc [(.return_, 1)] = true ∧ ev_rt M = none) (hK : K r (some (.inl none, μ))) : Im (some r) K (ev_dn b z M pc lo [] μ) := by
  intro r' hr
  cases hr
  rw [n_rv (at1 hd.1) hd.2]; exact hK
theorem i_ri {r : α} (hd : ev_at M pc [(.ireturn, 1)] = true ∧ ev_rt M = some .int) (hK : K r (some (.inl (some (.int x)), μ))) : Im (some r) K (ev_dn b z M pc lo [.int x] μ) := by
  intro r' hr
  cases hr
  rw [n_ri (at1 hd.1) hd.2]; exact hK
theorem i_rz {B : Bool} {r : α} (hd : ev_at M pc [(.ireturn, 1)] = true ∧ ev_rt M = some .boolean) (hK : K r (some (.inl (some (.int (bi B))), μ))) : Im (some r) K (ev_dn b z M pc lo [.int (bi B)] μ) := by
  intro r' hr
  cases hr
  rw [n_rz (at1 hd.1) hd.2, if_pos (by cases B <;> rfl)]; exact hK
theorem i_ra {cn : String} {r : α} (hd : ev_at M pc [(.areturn, 1)] = true ∧ ev_rt M = some (.object cn)) (hK : K r (some (.inl (some (.ref a)), μ))) : Im (some r) K (ev_dn b z M pc lo [.ref a] μ) := by
  intro r' hr
  cases hr
  rw [n_ra (at1 hd.1) hd.2]; exact hK
theorem i_rf {w : UInt32} {r : α} (hd : ev_at M pc [(.freturn, 1)] = true ∧ ev_rt M = some .float) (hK : K r (some (.inl (some (.float w)), μ))) : Im (some r) K (ev_dn b z M pc lo [.float w] μ) := by
  intro r' hr
  cases hr
  rw [n_rf (at1 hd.1) hd.2]; exact hK
theorem i_rd {w : UInt64} {r : α} (hd : ev_at M pc [(.dreturn, 1)] = true ∧ ev_rt M = some .double) (hK : K r (some (.inl (some (.double w)), μ))) : Im (some r) K (ev_dn b z M pc lo [.double w] μ) := by
  intro r' hr
  cases hr
  rw [n_rd (at1 hd.1) hd.2]; exact hK
/-! loops -/
def itN {σ ρ : Type} (f : σ → Option (σ ⊕ ρ)) : Nat → σ → Option ρ
  | 0, _ => none
  | n + 1, s => match f s with
    | none => none
    | some (.inl s') => itN f n s'
    | some (.inr r) => some r
theorem itN_up {σ ρ : Type} {f : σ → Option (σ ⊕ ρ)} : ∀ (n : Nat) (s : σ) (r : ρ), itN f n s = some r → ∀ k, n ≤ k → itN f k s = some r := by
  intro n
  induction n with
  | zero => intro s r h; cases h
  | succ n ih =>
    intro s r h k hk
    cases k with
    | zero => omega
    | succ k =>
      unfold itN at h ⊢
      match hf : f s with
      | none => rw [hf] at h; cases h
      | some (.inl s') => rw [hf] at h; exact ih s' r h k (Nat.le_of_succ_le_succ hk)
      | some (.inr r') => rw [hf] at h; exact h
noncomputable def it {σ ρ : Type} (f : σ → Option (σ ⊕ ρ)) (s : σ) : Option ρ := Classical.epsilon (fun o => (∃ n, itN f n s = o ∧ o ≠ none) ∨ (o = none ∧ ∀ n, itN f n s = none))
theorem it_some {σ ρ : Type} {f : σ → Option (σ ⊕ ρ)} {s : σ} {r : ρ} : it f s = some r ↔ ∃ n, itN f n s = some r := by
  have key : ∃ o : Option ρ, (∃ n, itN f n s = o ∧ o ≠ none) ∨ (o = none ∧ ∀ n, itN f n s = none) := by
    by_cases h : ∃ n, itN f n s ≠ none
    · obtain ⟨n, hn⟩ := h
      exact ⟨_, Or.inl ⟨n, rfl, hn⟩⟩
    · exact ⟨none, Or.inr ⟨rfl, fun n => Classical.byContradiction fun q => h ⟨n, q⟩⟩⟩
  have hs := Classical.epsilon_spec key
  constructor
  · intro h
    have h' : Classical.epsilon (fun o => (∃ n, itN f n s = o ∧ o ≠ none) ∨ (o = none ∧ ∀ n, itN f n s = none)) = some r := h
    rw [h'] at hs
    rcases hs with ⟨n, hn, -⟩ | ⟨h1, -⟩
    · exact ⟨n, hn⟩
    · cases h1
  · intro ⟨n, hn⟩
    show Classical.epsilon _ = some r
    rcases hs with ⟨k, hk, hk2⟩ | ⟨-, h2⟩
    · rcases Nat.le_total n k with h | h
      · rw [← hk, itN_up n s r hn k h]
      · match ho : Classical.epsilon (fun o => (∃ n, itN f n s = o ∧ o ≠ none) ∨ (o = none ∧ ∀ n, itN f n s = none)) with
        | none => exact absurd ho hk2
        | some r' =>
          rw [ho] at hk
          rw [itN_up k s r' hk n h] at hn
          exact hn
    · rw [h2 n] at hn; cases hn
def oi {σ ρ : Type} (q : Option (σ ⊕ ρ)) (f : σ → Option ρ) : Option ρ := match q with
  | none => none
  | some (.inl s') => f s'
  | some (.inr r) => some r
theorem it_eq {σ ρ : Type} {f : σ → Option (σ ⊕ ρ)} (s : σ) : it f s = oi (f s) (it f) := by
  have ext : ∀ a b : Option ρ, (∀ r, a = some r ↔ b = some r) → a = b := by
    intro a b h
    cases a with
    | some r => exact ((h r).mp rfl).symm
    | none => cases b with
      | none => rfl
      | some r => exact (h r).mpr rfl
  refine ext _ _ fun r => ?_
  rw [it_some]
  constructor
  · intro ⟨n, hn⟩
    cases n with
    | zero => cases hn
    | succ n =>
      unfold itN at hn
      match hf : f s with
      | none => rw [hf] at hn; cases hn
      | some (.inl s') => rw [hf] at hn; exact it_some.mpr ⟨n, hn⟩
      | some (.inr r') => rw [hf] at hn; exact hn
  · intro h
    match hf : f s with
    | none => rw [hf] at h; cases h
    | some (.inl s') =>
      rw [hf] at h
      obtain ⟨n, hn⟩ := it_some.mp h
      exact ⟨n + 1, by unfold itN; rw [hf]; exact hn⟩
    | some (.inr r') =>
      rw [hf] at h
      exact ⟨1, by unfold itN; rw [hf]; exact h⟩
def kL {σ ρ δ : Type} (K : ρ → ev_Q → Prop) (E : δ → σ → ev_Q) : σ ⊕ ρ → ev_Q → Prop := fun r e => match r with
  | .inl s => ∃ d, e = E d s
  | .inr r => K r e
theorem i_it {σ ρ δ : Type} {f : σ → Option (σ ⊕ ρ)} {K : ρ → ev_Q → Prop} {E : δ → σ → ev_Q} (h : ∀ d s, Im (f s) (kL K E) (E d s)) (d : δ) (s : σ) : Im (it f s) K (E d s) := by
  intro r hr
  obtain ⟨n, hn⟩ := it_some.mp hr
  induction n generalizing d s with
  | zero => cases hn
  | succ n ih =>
    unfold itN at hn
    match hf : f s with
    | none => rw [hf] at hn; cases hn
    | some (.inl s') =>
      rw [hf] at hn
      obtain ⟨d', hd'⟩ : ∃ d', E d s = E d' s' := h d s _ hf
      rw [hd']
      exact ih d' s' (it_some.mpr ⟨n, hn⟩) hn
    | some (.inr r') =>
      rw [hf] at hn
      cases hn
      exact h d s _ hf
theorem i_co {σ ρ δ : Type} {K : ρ → ev_Q → Prop} {E : δ → σ → ev_Q} {s : σ} {e : ev_Q} (d : δ) (h : e = E d s) : Im (some (.inl s)) (kL K E) e := by
  intro r hr
  cases hr
  exact ⟨d, h⟩
theorem i_ir {σ ρ δ : Type} {K : ρ → ev_Q → Prop} {E : δ → σ → ev_Q} {r : ρ} {e : ev_Q} (h : Im (some r) K e) : Im (some (.inr r)) (kL K E) e := by
  intro r' hr
  cases hr
  exact h r rfl
theorem i_mr {σ ρ δ : Type} {K : ρ → ev_Q → Prop} {E : δ → σ → ev_Q} {q : Option ρ} {e : ev_Q} (h : Im q K e) : Im (q.map .inr) (kL K E) e := by
  intro r' hr
  cases q with
  | none => cases hr
  | some r => cases hr; exact h r rfl
/-- the law's own loop: its rooms shrink -/
def kM {σ ρ δ : Type} (K : ρ → ev_Q → Prop) (E : Nat → Nat → δ → σ → ev_Q) (b z : Nat) : σ ⊕ ρ → ev_Q → Prop := fun r e => match r with
  | .inl s => ∃ b' z' d, b ≤ b' + 4 ∧ z ≤ z' + 24 ∧ e = E b' z' d s
  | .inr r => K r e
theorem i_cL {σ ρ δ : Type} {K : ρ → ev_Q → Prop} {E : Nat → Nat → δ → σ → ev_Q} {b z : Nat} {s : σ} {e : ev_Q} (d : δ) (b' z' : Nat) (h1 : b ≤ b' + 4) (h2 : z ≤ z' + 24) (h : e = E b' z' d s) : Im (some (.inl s)) (kM K E b z) e := by
  intro r hr
  cases hr
  exact ⟨b', z', d, h1, h2, h⟩
theorem i_iM {σ ρ δ : Type} {K : ρ → ev_Q → Prop} {E : Nat → Nat → δ → σ → ev_Q} {b z : Nat} {r : ρ} {e : ev_Q} (h : Im (some r) K e) : Im (some (.inr r)) (kM K E b z) e := by
  intro r' hr
  cases hr
  exact h r rfl
theorem i_wb {β : Type} {w : β} {f : β → Option α} (F : β → ev_Q) (h : ∀ w, Im (f w) K (F w)) : Im (wb w f) K (F w) := h w
end RUL
end
