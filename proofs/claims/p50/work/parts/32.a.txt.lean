/-! The text that the law sets up, read: tokens. -/
section TB
variable {B : Nat → Int} {L : Nat} {A : (Nat → Int) × (Nat → Int)}
/-- from p on the text is l -/
def Sg (B : Nat → Int) (L p : Nat) (l : List Nat) : Prop := p + l.length = L ∧ ∀ i, i < l.length → B (p + i) = ((l.getD i 0 : Nat) : Int)
theorem gdr {a b : List Nat} {i : Nat} : (a ++ b).getD (a.length + i) 0 = b.getD i 0 := by
  rw [List.getD_eq_getElem?_getD, List.getD_eq_getElem?_getD, List.getElem?_append_right (by omega), Nat.add_sub_cancel_left]
theorem gdl {a b : List Nat} {i : Nat} (h : i < a.length) : (a ++ b).getD i 0 = a.getD i 0 := by
  rw [List.getD_eq_getElem?_getD, List.getD_eq_getElem?_getD, List.getElem?_append_left h]
theorem gdm {a : List Nat} {i : Nat} (h : i < a.length) : a.getD i 0 ∈ a := by
  rw [List.getD_eq_getElem?_getD, List.getElem?_eq_getElem h]
  exact List.getElem_mem h
theorem Sg.ap {p : Nat} {a b : List Nat} (h : Sg B L p (a ++ b)) : Sg B L (p + a.length) b := by
  obtain ⟨h1, h2⟩ := h
  rw [List.length_append] at h1 h2
  refine ⟨by omega, fun i hi => ?_⟩
  have := h2 (a.length + i) (by omega)
  rw [← Nat.add_assoc, gdr] at this
  exact this
theorem Sg.at {p : Nat} {a b : List Nat} (h : Sg B L p (a ++ b)) {i : Nat} (hi : i < a.length) : B (p + i) = ((a.getD i 0 : Nat) : Int) := by
  have := h.2 i (by rw [List.length_append]; omega)
  rw [gdl hi] at this
  exact this
def hdn (f : Int → Bool) (l : List Nat) : Prop := ∀ x t, l = x :: t → f (x : Nat) = false
theorem hdn_c {f : Int → Bool} {x : Nat} {t : List Nat} (h : f (x : Nat) = false) : hdn f (x :: t) := fun y u e => by
  cases e; exact h
theorem nxt_at {f : Int → Bool} {p : Nat} {a b : List Nat} (h : Sg B L p (a ++ b)) (ha : ∀ x ∈ a, f (x : Nat) = true) (hb : hdn f b) : nxt f B L p = p + a.length := by
  have h1 := h.1
  rw [List.length_append] at h1
  unfold nxt
  congr 1
  refine ff_eq (fun j hj => ?_) (by omega) (fun hk => ?_)
  · rw [h.at hj, ha _ (gdm hj)]; rfl
  · cases b with
    | nil => rw [List.length_nil] at h1; omega
    | cons x t =>
      have := h.ap.2 0 (by rw [List.length_cons]; omega)
      rw [Nat.add_zero] at this
      rw [this]
      show (!(f ((x : Nat) : Int))) = true
      rw [hb x t rfl]; rfl
/-- c is a token of kind k, l what comes behind it -/
def tkn (k : Nat) (c l : List Nat) : Prop := (k = 1 ∧ c ≠ [] ∧ (∀ x ∈ c, isL (x : Nat) = true) ∧ hdn isL l) ∨ (k = 2 ∧ c ≠ [] ∧ c.length ≤ 4 ∧ (∀ x ∈ c, isD (x : Nat) = true) ∧ hdn isD l) ∨ (k = 3 ∧ c = [59]) ∨ (k = 0 ∧ c = [] ∧ l = [])
theorem isL_S {x : Int} (h : isL x = true) : isS x = false := by
  have := of_decide_eq_true h
  exact decide_eq_false (by omega)
theorem isD_S {x : Int} (h : isD x = true) : isS x = false ∧ isL x = false := by
  have := of_decide_eq_true h
  exact ⟨decide_eq_false (by omega), decide_eq_false (by omega)⟩
theorem tk_at {p k : Nat} {sp c l : List Nat} (h : Sg B L p (sp ++ (c ++ l))) (hs : ∀ x ∈ sp, x = 32) (ht : tkn k c l) : tkS B L p = p + sp.length ∧ tkP B L p = p + sp.length + c.length ∧ tkK B L p = k := by
  have hS : ∀ x ∈ sp, isS (x : Nat) = true := fun x hx => by rw [hs x hx]; rfl
  have h2 := h.ap
  have hl := h2.1
  rw [List.length_append] at hl
  have first : c ≠ [] → ∃ x t, c = x :: t ∧ B (p + sp.length) = (x : Nat) := fun hc => by
    cases c with
    | nil => exact absurd rfl hc
    | cons x t =>
      refine ⟨x, t, rfl, ?_⟩
      have := h2.2 0 (by simp)
      rw [Nat.add_zero] at this
      exact this
  rcases ht with ⟨rfl, hc, h1, h3⟩ | ⟨rfl, hc, h4, h1, h3⟩ | ⟨rfl, rfl⟩ | ⟨rfl, rfl, rfl⟩
  · obtain ⟨x, t, rfl, eb⟩ := first hc
    have e1 : tkS B L p = p + sp.length := nxt_at h hS (hdn_c (isL_S (h1 x List.mem_cons_self)))
    have n1 : ¬ L ≤ p + sp.length := by rw [List.length_cons] at hl; omega
    have bl : isL (B (p + sp.length)) = true := by rw [eb]; exact h1 x List.mem_cons_self
    unfold tkP tkK
    rw [e1, if_neg n1, if_neg n1, if_pos bl, if_pos bl, nxt_at h2 h1 h3]
    exact ⟨rfl, rfl, rfl⟩
  · obtain ⟨x, t, rfl, eb⟩ := first hc
    obtain ⟨y1, y2⟩ := isD_S (h1 x List.mem_cons_self)
    have e1 : tkS B L p = p + sp.length := nxt_at h hS (hdn_c y1)
    have n1 : ¬ L ≤ p + sp.length := by rw [List.length_cons] at hl; omega
    have bl : isD (B (p + sp.length)) = true := by rw [eb]; exact h1 x List.mem_cons_self
    have bn : ¬ isL (B (p + sp.length)) = true := by rw [eb, y2]; decide
    unfold tkP tkK
    rw [e1, if_neg n1, if_neg n1, if_neg bn, if_neg bn, if_pos bl, if_pos bl, nxt_at h2 h1 h3, if_pos (by omega)]
    exact ⟨rfl, rfl, rfl⟩
  · obtain ⟨x, t, e, eb⟩ := first (by simp)
    cases e
    have e1 : tkS B L p = p + sp.length := nxt_at h hS (hdn_c (by decide))
    have n1 : ¬ L ≤ p + sp.length := by rw [List.length_singleton] at hl; omega
    unfold tkP tkK
    rw [e1, if_neg n1, if_neg n1, eb, if_neg (by decide), if_neg (by decide), if_neg (by decide), if_neg (by decide), if_pos (show ((59 : Nat) : Int) = 59 from rfl)]
    exact ⟨rfl, rfl, rfl⟩
  · have e1 : tkS B L p = p + sp.length := nxt_at h hS (fun x t e => by cases e)
    have n1 : L ≤ p + sp.length := by rw [List.length_nil] at hl; omega
    unfold tkP tkK
    rw [e1, if_pos n1, if_pos n1]
    exact ⟨rfl, rfl, rfl⟩
/-- the token that is looked at is c, of kind k, and l comes behind it; there is no error -/
def At (B : Nat → Int) (L : Nat) (A : (Nat → Int) × (Nat → Int)) (k : Nat) (c l : List Nat) : Prop := A.1 2 = 0 ∧ A.1 7 = (k : Nat) ∧ ∃ s : Nat, A.1 8 = (s : Nat) ∧ A.1 6 = ((s + c.length : Nat) : Int) ∧ Sg B L s (c ++ l)
/-- the same but for these -/
def sm_A (A A' : (Nat → Int) × (Nat → Int)) : Prop := A'.2 = A.2 ∧ A'.1 4 = A.1 4 ∧ A'.1 5 = A.1 5
theorem sm_A.tr {A1 A2 A3 : (Nat → Int) × (Nat → Int)} (h : sm_A A1 A2) (k : sm_A A2 A3) : sm_A A1 A3 := ⟨k.1.trans h.1, k.2.1.trans h.2.1, k.2.2.trans h.2.2⟩
theorem aT_at {k k' : Nat} {c sp c' l' l : List Nat} (h : At B L A k c l) (e : l = sp ++ (c' ++ l')) (hs : ∀ x ∈ sp, x = 32) (ht : tkn k' c' l') : At B L (aT B L A) k' c' l' ∧ sm_A A (aT B L A) := by
  subst e
  obtain ⟨h2, h7, s, h8, h6, hS⟩ := h
  obtain ⟨v2, v3, v4, v5, v6, v7, v8, v9, v0⟩ := aT_v (B := B) (L := L) (A := A)
  have e6 : (A.1 6).toNat = s + c.length := by omega
  obtain ⟨t1, t2, t3⟩ := tk_at hS.ap hs ht
  rw [e6] at v6 v7 v8
  rw [t1] at v8
  rw [t2] at v6
  rw [t3] at v7
  exact ⟨⟨by rw [v2]; exact h2, v7, s + c.length + sp.length, v8, v6, hS.ap.ap⟩, v0, v4, v5⟩
theorem aI_at {k : Nat} {c l : List Nat} {o : Int} (h : Sg B L 0 (c ++ l)) (ht : tkn k c l) : At B L (aI B L o) k c l := by
  obtain ⟨t1, t2, t3⟩ := tk_at (sp := []) (p := 0) h (fun x hx => nomatch hx) ht
  refine ⟨rfl, ?_, 0, ?_, ?_, h⟩
  · show ((tkK B L 0 : Nat) : Int) = _
    rw [t3]
  · show ((tkS B L 0 : Nat) : Int) = _
    rw [t1]; rfl
  · show ((tkP B L 0 : Nat) : Int) = _
    rw [t2]; rfl
theorem isw_at {c l : List Nat} (h : At B L A 1 c l) {k : Nat} : isw B k A = decide (c.map (fun x => zI (x : Nat)) = ev_tb k) := by
  obtain ⟨h2, h7, s, h8, h6, hS⟩ := h
  unfold isw
  rw [decide_eq_decide, h7, h8, h6, Int.toNat_natCast]
  constructor
  · rintro ⟨-, q1, q2⟩
    have len : c.length = (ev_tb k).length := by omega
    refine List.ext_getElem (by rw [List.length_map]; exact len) (fun i h1 h2 => ?_)
    have q3 := ff_lt (p := fun i => !(decide (zI (B (s + i)) = (ev_tb k).getD i 0))) (n := (ev_tb k).length) (k := i) (by rw [q2]; exact h2)
    have q4 : zI (B (s + i)) = (ev_tb k).getD i 0 := by simpa using q3
    rw [hS.at (by omega)] at q4
    rw [List.getElem_map]
    rw [List.getD_eq_getElem?_getD, List.getD_eq_getElem?_getD, List.getElem?_eq_getElem h2, List.getElem?_eq_getElem (by omega)] at q4
    exact q4
  · intro e
    have len : c.length = (ev_tb k).length := by rw [← e, List.length_map]
    refine ⟨rfl, by omega, ff_eq (fun i hi => ?_) (Nat.le_refl _) (fun h => absurd h (Nat.lt_irrefl _))⟩
    have q4 : zI (B (s + i)) = (ev_tb k).getD i 0 := by
      rw [hS.at (by omega), ← e, List.getD_eq_getElem?_getD, List.getD_eq_getElem?_getD, List.getElem?_map, List.getElem?_eq_getElem (show i < c.length by omega)]
      rfl
    rw [q4, decide_eq_true rfl]; rfl
theorem nv_cg {B' : Nat → Int} {s s' : Nat} : ∀ {k : Nat}, (∀ i, i < k → B (s + i) = B' (s' + i)) → nv B s k = nv B' s' k := by
  intro k
  induction k with
  | zero => intro _; rfl
  | succ k ih =>
    intro h
    show 10 * nv B s k + B (s + k) - 48 = 10 * nv B' s' k + B' (s' + k) - 48
    rw [ih (fun i hi => h i (by omega)), h k (by omega)]
/-- the number that digits tell -/
def dv (c : List Nat) : Int := nv (fun i => ((c.getD i 0 : Nat) : Int)) 0 c.length
/-- the digits of a number below a thousand -/
def dg (v : Nat) : List Nat := if v < 10 then [48 + v] else if v < 100 then [48 + v / 10, 48 + v % 10] else [48 + v / 100, 48 + v / 10 % 10, 48 + v % 10]
theorem dg_dv : ∀ v, v < 1000 → dv (dg v) = (v : Nat) := by decide +kernel
theorem dg_t {v : Nat} (hv : v < 1000) {l : List Nat} (hl : hdn isD l) : tkn 2 (dg v) l := by
  have key : ∀ v, v < 1000 → dg v ≠ [] ∧ (dg v).length ≤ 4 ∧ ∀ x ∈ dg v, isD (x : Nat) = true := by decide +kernel
  obtain ⟨a, b, c⟩ := key v hv
  exact Or.inr (Or.inl ⟨rfl, a, b, c, hl⟩)
theorem aN_at {v : Nat} (hv : v < 1000) {l : List Nat} (h : At B L A 2 (dg v) l) {lo hi : Int} (h1 : lo ≤ v) (h2 : ((v : Nat) : Int) ≤ hi) : aN1 B lo hi A = (v : Nat) ∧ aN2 B lo hi A = A := by
  obtain ⟨z2, h7, s, h8, h6, hS⟩ := h
  have e : nvA B A = (v : Nat) := by
    unfold nvA
    rw [h8, h6, Int.toNat_natCast, show (((s + (dg v).length : Nat) : Int) - (s : Nat)).toNat = (dg v).length by omega, ← dg_dv v hv]
    exact nv_cg (fun i hi => by rw [hS.at hi, Nat.zero_add])
  have h7' : A.1 7 = 2 := h7
  unfold aN1 aN2
  rw [if_pos h7', if_pos h7', e, if_pos ⟨h1, h2⟩, if_pos ⟨h1, h2⟩]
  exact ⟨rfl, rfl⟩
end TB
