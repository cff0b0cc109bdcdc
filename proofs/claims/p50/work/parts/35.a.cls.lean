/-! The class's methods, called from a frame of the law's own. -/
section CLS
variable {p : Program} {l : Launch} {e : Env} {R : Room} {s : State} {m : MethodId} {args : Array Value} {below : List Frame} {meth : Method} {c : Code} {Q : State → Prop} {L : Nat} {xs : Nat → Int32} {D : va_G} {cA : Nat → ClassId} {A : Nat → Prop} {ad ad' : Nat → Nat} {H H1 : Heap} {locs locs1 : List Loc} {μ μ1 : ev_H} {v : Option Value} {cells slots : Nat}
/-- what the evaluator says of a method, as a contract -/
theorem eb_met (hst : l.stackTraces = false) {M : Nat} {y : MethodName} {cd : ByteArray} {ml fr lo mc ms : Nat} {rt : Option FieldType} {av : List Value} (ad : Nat → Nat) (L : Nat) (xs : Nat → Int32) (D : va_G) (cA : Nat → ClassId) (sz : Nat) (hM : M < ev_nm) (hl : M ≠ ev_lawM) (hE : ev_y M = y ∧ ev_wd M = .code y cd ml rt ∧ ev_rm M = ({ frames := fr, cells := mc, slots := ms, locals := lo } : Room)) (hr : ev_dn mc ms M 0 (ev_en M av) [] μ = some (.inl v, μ1)) (hs : ev_sl μ.1 av) (hal : (ev_ar av).length ≤ ev_ml M) : Met l y (.code y cd ml rt :: ev_gw) ({ frames := fr, cells := mc, slots := ms, locals := lo } : Room) (ev_Pc L xs D cA ad μ av sz) (ev_Qc L xs D cA (va_A (ev_ws ad cA μ) sz) ad μ.1 (.inl v) μ1) mc ms (va_A (ev_ws ad cA μ) sz) := by
  obtain ⟨n, hn⟩ := ev_dn_some.mp hr
  obtain ⟨e1, e2, e3⟩ := hE
  have k1 : ev_k1 M = mc := congrArg Room.cells e3
  have k2 : ev_k2 M = ms := congrArg Room.slots e3
  have h := ev_met (ev_Ct_of hst (ev_all hst n) M av μ (.inl v) μ1 ad L xs D cA sz hM hl (by rw [k1, k2]; exact hn) hs hal)
  rw [e1, e2, e3, k1, k2] at h
  exact h
/-- behind such a call -/
theorem eb_back {mc ms pc : Nat} {ls : Array Slot} {st0 rest : List Value} {a0 : Array Value} (run : va_Run p l e R s m args below meth c H locs cells slots mc ms (F0 m pc ls st0) rest (ev_Qc L xs D cA (va_A (ev_ws ad cA μ) H.size) ad μ.1 (.inl v) μ1 a0) (va_A (ev_ws ad cA μ) H.size)) (hI : ev_I L xs D cA A s ad μ H locs)
    (k : ∀ (ad' : Nat → Nat) (H' : Heap) (locs' : List Loc), (∀ a, a < μ.1 → ad' a = ad a) → ev_I L xs D cA A s ad' μ1 H' locs' → W p l e R s m args below meth c H' locs' (cells + mc) (slots + ms) Q (F0 m (pc + 3) ls ((v.map (ev_v ad')).toList ++ rest))) : W p l e R s m args below meth c H locs cells slots Q (F0 m pc ls st0) := by
  intro T hT X
  obtain ⟨v1, st₀, t1, T', L1, h0, X', hL, e1, e2, ⟨⟨v2, ad', hv2, hoc, hvl, hJ⟩, hF⟩, hgo⟩ := run T hT X
  cases hv2
  have hv1 : v1 = v.map (ev_v ad') := Outcome.returned.inj hoc
  subst hv1
  have hI' := ev_joinI hI h0 e1 hL hJ hF
  obtain ⟨t2, g1, g2⟩ := k ad' T'.heap (locs ++ L1) hJ.1 hI' T' rfl X'
  exact ⟨t2, hgo t2 g1, g2⟩
/-- the object that is called -/
theorem eb_rcv {m1 : Mm} (hI : ev_I L xs D cA A s ad (249, mem L 249 m1) H locs) : ∃ cell : Cell, H[ad 20]? = some cell ∧ cell.vm.isStatics = false ∧ s.vm.findClass "LanternChess" = some cell.cls := by
  have hm : mem L 249 m1 20 = some (ev_ob 10 (sh_o 10 20 (m1 20))) := by
    unfold mem cel
    rw [if_pos (by decide), if_pos (by decide +kernel), show sh_c 20 = 10 by decide +kernel]
  exact va_recv hI.2.2.1 hI.2.2.2.1 (ev_clget (show 10 < 12 by decide)) (ev_ws_get (ad := ad) (cA := cA) hI.1 (show ev_S ≤ 20 by decide) hm)
/-- what a method of the law leaves, seen from its caller -/
theorem eb_jn {t : State} (hI : ev_I L xs D cA A s ad μ H locs) (hJ : ev_Jn L xs D cA (va_A (ev_ws ad cA μ) H.size) ad ad' μ.1 μ1 t) (ht : t.heap = H1) (hS : va_S A s.heap H1 locs1) : ev_I L xs D cA A s ad' μ1 H1 locs1 := by
  have hn := ev_narrow hI
  obtain ⟨i1, i2, hK, hP, hD, -, hA, i8, i9⟩ := hI
  obtain ⟨j1, j2, j3, j4, j5, j6⟩ := hJ
  subst ht
  have hagS : ∀ a, a < ev_S → ad' a = ad a := fun a ha => j1 a (Nat.lt_of_lt_of_le ha i1.1)
  exact ⟨j3, j4, hK, j5, j6.weaken (fun k q _ h => hn q.1 h), hS, hA, i8.ad hagS, i9.ad hagS⟩
/-- cells that are not the class's come and go -/
theorem eb_Ikeep (hI : ev_I L xs D cA A s ad μ H locs) (hk : ∀ q : Nat, q < H.size → H1[q]? = H[q]?) (hS : va_S A s.heap H1 locs1) : ev_I L xs D cA A s ad μ H1 locs1 := by
  obtain ⟨i1, i2, hK, hP, hD, -, hA, i8, i9⟩ := hI
  exact ⟨i1, i2, hK, eb_keep hP (fun q h _ => hk q h), hD, hS, hA, i8, i9⟩
end CLS
/-- a row's last cell, set -/
theorem eb_set {ws : va_W} {x y : Nat × va_E} : (ws ++ [x]).set ws.length y = ws ++ [y] := by
  rw [List.set_append_right _ _ (Nat.le_refl _), Nat.sub_self]
  rfl
theorem eb_dv {a b : Nat} (h1 : a ≤ 2147483647) (h2 : b ≤ 2147483647) : nI a / nI b = nI (a / b) := by
  rw [show nI a = zI (a : Nat) from zI_on a, show nI b = zI (b : Nat) from zI_on b, zI_dv (by omega) (by omega) (by omega) (by omega), show nI (a / b) = zI ((a / b : Nat) : Int) from zI_on _]
  exact congrArg zI (by omega)
theorem eb_E120 : ev_y 120 = (⟨"LanternChess", "appendInput", "(IIIII)I"⟩ : MethodName) ∧ ev_wd 120 = .code ⟨"LanternChess", "appendInput", "(IIIII)I"⟩ prog_1_method_2_code 6 (some .int) ∧ ev_rm 120 = ({ frames := 2, cells := 0, slots := 0, locals := 52 } : Room) := ⟨rfl, by decide +kernel, rfl⟩
theorem eb_E121 : ev_y 121 = (⟨"LanternChess", "truncateInput", "(I)Z"⟩ : MethodName) ∧ ev_wd 121 = .code ⟨"LanternChess", "truncateInput", "(I)Z"⟩ prog_1_method_3_code 2 (some .boolean) ∧ ev_rm 121 = ({ frames := 1, cells := 0, slots := 0, locals := 30 } : Room) := ⟨rfl, by decide +kernel, rfl⟩
theorem eb_E119 : ev_y 119 = (⟨"LanternChess", "<init>", "()V"⟩ : MethodName) ∧ ev_wd 119 = .code ⟨"LanternChess", "<init>", "()V"⟩ prog_1_method_1_code 1 none ∧ ev_rm 119 = ({ frames := 6, cells := 228, slots := 10819, locals := 119 } : Room) := ⟨rfl, by decide +kernel, rfl⟩
theorem eb_E122 : ev_y 122 = (⟨"LanternChess", "loadGame", "()I"⟩ : MethodName) ∧ ev_wd 122 = .code ⟨"LanternChess", "loadGame", "()I"⟩ prog_1_method_4_code 1 (some .int) ∧ ev_rm 122 = ({ frames := 12, cells := 0, slots := 0, locals := 295 } : Room) := ⟨rfl, by decide +kernel, rfl⟩
