/-! Soundness of the evaluator's steps that need stack and locals alone. -/
section EVP
variable {p : Program} {l : Launch} {e : Env} {R : Room} {s : State} {m : MethodId} {args : Array Value} {below : List Frame} {meth : Method} {c : Code} {H : Heap} {locs : List Loc} {cells slots : Nat} {Q : State → Prop}
variable {pc : Nat} {ls : Array Slot} {cc : ByteArray} {ad : Nat → Nat}
set_option maxHeartbeats 4000000 in
theorem ev_pu_ok (hx : p.tables.exec = Jvm.exec) (hb : c.code = cc) {i : Instr} {n : Nat} {st st' : List Value} (h : ev_pu i n st = some st') (hdg : decode cc pc = .ok (i, n))
    (k : W p l e R s m args below meth c H locs cells slots Q (F0 m (pc + n) ls (st'.map (ev_v ad)))) : W p l e R s m args below meth c H locs cells slots Q (F0 m pc ls (st.map (ev_v ad))) := by
  unfold ev_pu at h
  split at h
  · cases h; exact lv_iconst hx hb hdg rfl k
  · cases h; exact lv_bipush hx hb hdg rfl k
  · cases h; exact lv_sipush hx hb hdg rfl k
  · cases h; exact lv_lconst hx hb hdg rfl k
  · cases h; exact lv_fconst0 hx hb hdg k
  · cases h; exact lv_dconst0 hx hb hdg k
  · cases h; exact lv_fconst1 hx hb hdg k
  · cases h; exact lv_dconst1 hx hb hdg k
  · cases h; exact lv_iadd hx hb hdg k
  · cases h; exact lv_isub hx hb hdg k
  · cases h; exact lv_imul hx hb hdg k
  · split at h
    · cases h
    · rename_i hy; cases h; exact lv_idiv hx hb hdg hy k
  · split at h
    · cases h
    · rename_i hy; cases h; exact lv_irem hx hb hdg hy k
  · cases h; exact lv_ineg hx hb hdg k
  · cases h; exact lv_iand hx hb hdg k
  · cases h; exact lv_ior hx hb hdg k
  · cases h; exact lv_ishl hx hb hdg k
  · cases h; exact lv_ishr hx hb hdg k
  · cases h; exact lv_iushr hx hb hdg rfl k
  · cases h; exact lv_i2l hx hb hdg rfl k
  · cases h; exact lv_i2b hx hb hdg rfl k
  · cases h; exact lv_i2c hx hb hdg rfl k
  · cases h; exact lv_i2f hx hb hdg k
  · cases h; exact lv_i2d hx hb hdg k
  · split at h
    · rename_i hy; cases h; exact lv_f2d hx hb hdg hy k
    · cases h
  · split at h
    · rename_i hy; cases h; exact lv_fdiv hx hb hdg hy k
    · cases h
  · split at h
    · rename_i hy; cases h; exact lv_ddiv hx hb hdg hy k
    · cases h
  · cases h; exact lv_dcmp hx hb hdg k
  · cases h; exact W.lcmp hx hb hdg k
  · cases h; exact lv_fcmp hx hb hdg k
  · split at h
    · rename_i hy; cases h; exact lv_dup2_11 hx hb hdg ((ev_v_cat _ _).trans hy.1) ((ev_v_cat _ _).trans hy.2) k
    · cases h
  · split at h
    · rename_i hy; cases h; exact lv_dup hx hb hdg ((ev_v_cat _ _).trans hy) k
    · cases h
  · split at h
    · rename_i hy; cases h; exact lv_pop hx hb hdg ((ev_v_cat _ _).trans hy) k
    · cases h
  · cases h
set_option maxHeartbeats 4000000 in
theorem ev_pu_lt {i : Instr} {n N : Nat} {st st' : List Value} (h : ev_pu i n st = some st') (hs : ev_sl N st) : ev_sl N st' := by
  have hi : ∀ {v : Value} {t : List Value}, (∀ a, v ≠ .ref a) → ev_sl N t → ev_sl N (v :: t) := fun hv ht w hw => by
    rcases List.mem_cons.mp hw with rfl | hw
    · exact fun a ha => absurd ha (hv a)
    · exact ht w hw
  have t1 : ∀ {v : Value} {t : List Value}, ev_sl N (v :: t) → ev_sl N t := fun ht w hw => ht w (List.mem_cons_of_mem _ hw)
  have d1 : ∀ {v : Value} {t : List Value}, ev_sl N (v :: t) → ev_sl N (v :: v :: t) := fun ht w hw => by
    rcases List.mem_cons.mp hw with rfl | hw
    · exact ht _ List.mem_cons_self
    · exact ht _ hw
  have d2 : ∀ {v u : Value} {t : List Value}, ev_sl N (v :: u :: t) → ev_sl N (v :: u :: v :: u :: t) := fun ht w hw => by
    rcases List.mem_cons.mp hw with rfl | hw
    · exact ht _ List.mem_cons_self
    · rcases List.mem_cons.mp hw with rfl | hw
      · exact ht _ (List.mem_cons_of_mem _ List.mem_cons_self)
      · exact ht _ hw
  unfold ev_pu at h
  split at h
  all_goals first
    | (cases h; exact hi (fun a ha => by cases ha) hs)
    | (cases h; exact hi (fun a ha => by cases ha) (t1 hs))
    | (cases h; exact hi (fun a ha => by cases ha) (t1 (t1 hs)))
    | (split at h
       · first
         | (cases h; done)
         | (cases h; exact hi (fun a ha => by cases ha) (t1 hs))
         | (cases h; exact hi (fun a ha => by cases ha) (t1 (t1 hs)))
         | (cases h; exact d1 hs)
         | (cases h; exact d2 hs)
         | (cases h; exact t1 hs)
       · first
         | (cases h; done)
         | (cases h; exact hi (fun a ha => by cases ha) (t1 (t1 hs))))
    | (cases h; done)
theorem ev_tg_ok {off : Int} {t : Nat} (h : ev_tg pc off = some t) : (pc : Int) + off = (t : Int) := by
  unfold ev_tg at h
  split at h
  · rename_i h1; cases h; omega
  · cases h
theorem ev_mp {o : Option Nat} {t st' : List Value} {pc' : Nat} (h : o.map (fun x => (x, t)) = some (pc', st')) : o = some pc' ∧ t = st' := by
  cases o with
  | none => cases h
  | some x => cases h; exact ⟨rfl, rfl⟩
set_option maxHeartbeats 4000000 in
theorem ev_br_ok (hx : p.tables.exec = Jvm.exec) (hb : c.code = cc) {i : Instr} {n pc' : Nat} {st st' : List Value} (h : ev_br i n pc st = some (pc', st')) (hdg : decode cc pc = .ok (i, n))
    (k : W p l e R s m args below meth c H locs cells slots Q (F0 m pc' ls (st'.map (ev_v ad)))) : W p l e R s m args below meth c H locs cells slots Q (F0 m pc ls (st.map (ev_v ad))) := by
  unfold ev_br at h
  split at h
  · rename_i cd off x st
    split at h
    · cases h
    · rename_i t ht
      have ht := ev_tg_ok ht
      cases cd
      all_goals
        simp only [ev_c1, decide_eq_true_eq] at h
        split at h
        · rename_i hc
          cases h
          first
          | exact lv_if_eq hx hb hdg ht (fun _ => k) (fun z => absurd hc z)
          | exact lv_if_ne hx hb hdg ht (fun _ => k) (fun z => absurd z hc)
          | exact lv_if_lt hx hb hdg ht (fun _ => k) (fun z => absurd hc z)
          | exact lv_if_ge hx hb hdg ht (fun _ => k) (fun z => absurd hc z)
          | exact lv_if_gt hx hb hdg ht (fun _ => k) (fun z => absurd hc z)
          | exact lv_if_le hx hb hdg ht (fun _ => k) (fun z => absurd hc z)
        · rename_i hc
          cases h
          first
          | exact lv_if_eq hx hb hdg ht (fun z => absurd z hc) (fun _ => k)
          | exact lv_if_ne hx hb hdg ht (fun z => absurd z hc) (fun _ => k)
          | exact lv_if_lt hx hb hdg ht (fun z => absurd z hc) (fun _ => k)
          | exact lv_if_ge hx hb hdg ht (fun z => absurd z hc) (fun _ => k)
          | exact lv_if_gt hx hb hdg ht (fun z => absurd z hc) (fun _ => k)
          | exact lv_if_le hx hb hdg ht (fun z => absurd z hc) (fun _ => k)
  · rename_i cd off y x st
    split at h
    · cases h
    · rename_i t ht
      have ht := ev_tg_ok ht
      cases cd
      all_goals
        simp only [ev_c2, decide_eq_true_eq] at h
        split at h
        · rename_i hc
          cases h
          first
          | exact lv_icmp_eq hx hb hdg ht (fun _ => k) (fun z => absurd hc z)
          | exact lv_icmp_ne hx hb hdg ht (fun _ => k) (fun z => absurd z hc)
          | exact lv_icmp_lt hx hb hdg ht (fun _ => k) (fun z => absurd hc z)
          | exact lv_icmp_ge hx hb hdg ht (fun _ => k) (fun z => absurd hc z)
          | exact lv_icmp_gt hx hb hdg ht (fun _ => k) (fun z => absurd hc z)
          | exact lv_icmp_le hx hb hdg ht (fun _ => k) (fun z => absurd hc z)
        · rename_i hc
          cases h
          first
          | exact lv_icmp_eq hx hb hdg ht (fun z => absurd z hc) (fun _ => k)
          | exact lv_icmp_ne hx hb hdg ht (fun z => absurd z hc) (fun _ => k)
          | exact lv_icmp_lt hx hb hdg ht (fun z => absurd z hc) (fun _ => k)
          | exact lv_icmp_ge hx hb hdg ht (fun z => absurd z hc) (fun _ => k)
          | exact lv_icmp_gt hx hb hdg ht (fun z => absurd z hc) (fun _ => k)
          | exact lv_icmp_le hx hb hdg ht (fun z => absurd z hc) (fun _ => k)
  · obtain ⟨ht, rfl⟩ := ev_mp h; exact lv_goto hx hb hdg (ev_tg_ok ht) k
  · cases h; exact lv_ifnull hx hb hdg k
  · obtain ⟨ht, rfl⟩ := ev_mp h; exact lv_ifnullN hx hb hdg (ev_tg_ok ht) k
  · split at h
    · rename_i hc
      obtain ⟨ht, rfl⟩ := ev_mp h; exact lv_tableOut hx hb hdg hc (ev_tg_ok ht) k
    · rename_i hc
      split at h
      · rename_i ho
        obtain ⟨ht, rfl⟩ := ev_mp h; exact lv_tableIn hx hb hdg (fun z => hc (Or.inl z)) (fun z => hc (Or.inr z)) ho (ev_tg_ok ht) k
      · cases h
  · split at h
    · rename_i hc
      obtain ⟨ht, rfl⟩ := ev_mp h; exact lv_lookup hx hb hdg hc rfl (ev_tg_ok ht) k
    · cases h
  · cases h
theorem ev_br_lt {i : Instr} {n N pc' : Nat} {st st' : List Value} (h : ev_br i n pc st = some (pc', st')) (hs : ev_sl N st) : ev_sl N st' := by
  have t1 : ∀ {v : Value} {t : List Value}, ev_sl N (v :: t) → ev_sl N t := fun ht w hw => ht w (List.mem_cons_of_mem _ hw)
  have mp : ∀ {o : Option Nat} {t : List Value}, o.map (fun x => (x, t)) = some (pc', st') → t = st' := fun {o t} h => by
    cases o with
    | none => cases h
    | some x => cases h; rfl
  unfold ev_br at h
  split at h
  · split at h
    · cases h
    · split at h <;> (cases h; exact t1 hs)
  · split at h
    · cases h
    · split at h <;> (cases h; exact t1 (t1 hs))
  · rw [← mp h]; exact hs
  · cases h; exact t1 hs
  · rw [← mp h]; exact t1 hs
  · split at h
    · rw [← mp h]; exact t1 hs
    · split at h
      · rw [← mp h]; exact t1 hs
      · cases h
  · split at h
    · rw [← mp h]; exact t1 hs
    · cases h
  · cases h
set_option maxHeartbeats 4000000 in
theorem ev_ld_ok (hx : p.tables.exec = Jvm.exec) (hb : c.code = cc) {i : Instr} {n : Nat} {lo : ev_L} {v : Value} {rest : List Value} (h : ev_ld i n lo = some v) (hl : ev_lr ad ls lo) (hdg : decode cc pc = .ok (i, n))
    (k : W p l e R s m args below meth c H locs cells slots Q (F0 m (pc + n) ls (ev_v ad v :: rest))) : W p l e R s m args below meth c H locs cells slots Q (F0 m pc ls rest) := by
  unfold ev_ld at h
  dsimp only at h
  split at h
  all_goals first
    | (split at h
       · rename_i x hg
         cases h
         have hq := ev_lr_get hl hg
         first
         | exact lv_iload hx hb hdg hq k
         | exact lv_iload_n hx hb hdg rfl hq k
         | exact lv_aload hx hb hdg hq k
         | exact lv_aload_n hx hb hdg rfl hq k
         | exact lv_lload hx hb hdg hq k
         | exact lv_lload_n hx hb hdg rfl hq k
         | exact lv_dload hx hb hdg hq k
         | exact lv_dload_n hx hb hdg rfl hq k
       · cases h)
    | cases h
theorem ev_ld_lt {i : Instr} {n N : Nat} {lo : ev_L} {v : Value} (h : ev_ld i n lo = some v) (hl : ev_ll N lo) : ev_vl N v := by
  unfold ev_ld at h
  dsimp only at h
  split at h
  all_goals first
    | (split at h
       · rename_i x hg
         cases h
         exact hl _ _ (ev_join hg)
       · cases h)
    | cases h
theorem ev_ll_s1 {N k : Nat} {lo : ev_L} {v : Value} (hl : ev_ll N lo) (hv : ev_vl N v) : ev_ll N (ev_s1 lo k v) := by
  intro j w h
  rcases ev_s1_get lo k v j w h with ⟨-, rfl⟩ | ⟨-, h2, -⟩
  · exact hv
  · exact hl j w h2
theorem ev_ll_s2 {N k : Nat} {lo : ev_L} {v : Value} (hl : ev_ll N lo) (hv : ev_vl N v) : ev_ll N (ev_s2 lo k v) := by
  intro j w h
  rcases ev_s2_get lo k v j w h with ⟨-, rfl⟩ | ⟨-, -, h2, -⟩
  · exact hv
  · exact hl j w h2
theorem ev_ll_un {N k : Nat} {lo : ev_L} (hl : ev_ll N lo) : ev_ll N (ev_un lo k) := fun j w h => hl j w (ev_un_get lo k j w h).2.1
set_option maxHeartbeats 4000000 in
theorem ev_so_ok (hx : p.tables.exec = Jvm.exec) (hb : c.code = cc) {i : Instr} {n : Nat} {lo lo' : ev_L} {st st' : List Value} (h : ev_so i n lo st = some (lo', st')) (hl : ev_lr ad ls lo) (hdg : decode cc pc = .ok (i, n))
    (k : ∀ ls', ev_lr ad ls' lo' → W p l e R s m args below meth c H locs cells slots Q (F0 m (pc + n) ls' (st'.map (ev_v ad)))) : W p l e R s m args below meth c H locs cells slots Q (F0 m pc ls (st.map (ev_v ad))) := by
  unfold ev_so at h
  split at h
  · split at h
    · rename_i hk; cases h; exact lv_istore hx hb hdg hl hk rfl (fun ls' hl' => k ls' (ev_lr_s1 (v := .int _) hl'))
    · cases h
  · split at h
    · rename_i hk; cases h; exact lv_istore_n hx hb hdg rfl hl hk rfl (fun ls' hl' => k ls' (ev_lr_s1 (v := .int _) hl'))
    · cases h
  · split at h
    · rename_i hk; cases h; exact lv_astore hx hb hdg hl hk rfl (fun ls' hl' => k ls' (ev_lr_s1 (v := .ref _) hl'))
    · cases h
  · split at h
    · rename_i hk; cases h; exact lv_astore_n hx hb hdg rfl hl hk rfl (fun ls' hl' => k ls' (ev_lr_s1 (v := .ref _) hl'))
    · cases h
  · split at h
    · rename_i hk; cases h; exact lv_dstore hx hb hdg hl hk rfl (fun ls' hl' => k ls' (ev_lr_s2 (v := .double _) hl'))
    · cases h
  · rename_i st kk d
    split at h
    · rename_i x hg
      cases h
      have hq := ev_join hg
      have hm : (kk, ev_v ad (.int x)) ∈ ev_al ad 0 lo := ev_al_mem.mpr ⟨kk, .int x, by simp, hq, rfl⟩
      obtain ⟨j, hj⟩ := List.getElem?_of_mem hm
      exact lv_iinc hx hb hdg hl hj rfl (List.getElem?_eq_some_iff.mp hq).1 rfl (fun ls' hl' => k ls' (ev_lr_s1 (v := .int _) hl'))
    · cases h
  · cases h
theorem ev_so_lt {i : Instr} {n N : Nat} {lo lo' : ev_L} {st st' : List Value} (h : ev_so i n lo st = some (lo', st')) (hl : ev_ll N lo) (hs : ev_sl N st) : ev_ll N lo' ∧ ev_sl N st' ∧ lo'.length = lo.length := by
  have t1 : ∀ {v : Value} {t : List Value}, ev_sl N (v :: t) → ev_sl N t := fun ht w hw => ht w (List.mem_cons_of_mem _ hw)
  unfold ev_so at h
  split at h
  all_goals first
    | (split at h
       · first
         | (cases h; exact ⟨ev_ll_s1 hl (hs _ List.mem_cons_self), t1 hs, ev_s1_len _ _ _⟩)
         | (cases h; exact ⟨ev_ll_s2 hl (hs _ List.mem_cons_self), t1 hs, ev_s2_len _ _ _⟩)
         | (cases h; exact ⟨ev_ll_s1 hl (fun a ha => by cases ha), hs, ev_s1_len _ _ _⟩)
       · cases h)
    | cases h
end EVP
