/-! How a message is read. -/
def KU (W H : Nat) (b : Nat → Int) : Prop := ∀ s : Int, 0 ≤ s → s ≤ 1 → ∀ c c', c < W * H → c' < W * H → b c = 1 + 6 * s → b c' = 1 + 6 * s → c = c'
def BG (W H : Nat) (b : Nat → Int) : Prop := BD W H b ∧ KU W H b ∧ cnt W H b 0 ≤ 31 ∧ cnt W H b 1 ≤ 31
/-- what is so of a row of a game after so many calls -/
def RG (k : Int) (r : Nat → Int) (W H : Nat) : Prop := (r 0 = W ∧ r 1 = H ∧ WH W H) ∧ (0 ≤ r 2 ∧ r 2 ≤ 10000 * k) ∧ (0 ≤ r 3 ∧ r 3 ≤ 1) ∧ (0 ≤ r 4 ∧ r 4 ≤ 2) ∧ (1 ≤ r 5 ∧ r 5 ≤ 5) ∧ (0 ≤ r 6 ∧ r 6 ≤ 9) ∧ (1 ≤ r 7 ∧ r 7 ≤ 9) ∧ (0 ≤ r 13 ∧ r 13 ≤ 20) ∧ (0 ≤ r 14 ∧ r 14 ≤ 20) ∧
  (∀ s, s ≤ 1 → (0 ≤ r (9 + s) ∧ r (9 + s) ≤ 20 * k) ∧ (0 ≤ r (15 + s) ∧ r (15 + s) ≤ 9999) ∧ (-1 ≤ r (17 + s) ∧ r (17 + s) ≤ 1) ∧ (r (17 + s) ≠ -1 → (0 ≤ r (19 + s) ∧ r (19 + s) < (W * H : Nat)) ∧ (0 ≤ r (21 + s) ∧ r (21 + s) < (W * H : Nat))) ∧ BG W H (fun c => r (24 + 64 * s + c)) ∧ BG W H (fun c => r (152 + 64 * s + c))) ∧
  (0 ≤ r 8 ∧ FB (r 8).toNat (fun k => r (280 + 3 * k)) (fun k => r (281 + 3 * k)) (fun k => r (282 + 3 * k))) ∧
  (∀ j : Nat, (j : Int) < r 14 → (0 ≤ r (464 + 6 * j) ∧ r (464 + 6 * j) ≤ 1) ∧ (0 ≤ r (464 + 6 * j + 1) ∧ r (464 + 6 * j + 1) < (W * H : Nat)) ∧ (0 ≤ r (464 + 6 * j + 2) ∧ r (464 + 6 * j + 2) < (W * H : Nat)) ∧ (-1 ≤ r (464 + 6 * j + 3) ∧ r (464 + 6 * j + 3) ≤ 5) ∧ (1 ≤ r (464 + 6 * j + 4) ∧ r (464 + 6 * j + 4) ≤ 9))
def okm (W H : Nat) (l : Nat → Nat) : Prop := (l 0 = 1 ∨ l 0 = 2) ∧ (1 ≤ l 1 ∧ l 1 ≤ W) ∧ (1 ≤ l 2 ∧ l 2 ≤ H) ∧ (1 ≤ l 3 ∧ l 3 ≤ W) ∧ (1 ≤ l 4 ∧ l 4 ≤ H) ∧ l 5 = ck l
/-- the reading of what is seen, by the side q, of the side s -/
def rd0 (W : Nat) (bn bb : Nat → Int) (C S fr to : Int) (s : Nat) (tn : Int) (x y X Y : Nat) : Int :=
  if tn = 1 + C % 2 then (if mv W bn s x y X Y = true then 1 else 0)
  else if C = 0 then 0 else if ¬ S = (s : Int) then 0
  else if fr = ((x + W * y : Nat) : Int) ∧ to = ((X + W * Y : Nat) : Int) then 2
  else if mv W bb s x y X Y = true then 3 else 0
def rdg (W H : Nat) (r : Nat → Int) (s q : Nat) (l : Nat → Nat) [Decidable (okm W H l)] : Int :=
  if okm W H l then rd0 W (fun c => r (24 + 64 * q + c)) (fun c => r (152 + 64 * q + c)) (r (9 + q)) (r (17 + q)) (r (19 + q)) (r (21 + q)) s (l 0) (l 1 - 1) (l 2 - 1) (l 3 - 1) (l 4 - 1) else 0
noncomputable def rdx (W H : Nat) (r : Nat → Int) (s q : Nat) (l : Nat → Nat) : Int := @rdg W H r s q l (Classical.propDecidable _)
theorem rdx_y {W H : Nat} {r : Nat → Int} {s q : Nat} {l : Nat → Nat} (h : okm W H l) : rdx W H r s q l = rd0 W (fun c => r (24 + 64 * q + c)) (fun c => r (152 + 64 * q + c)) (r (9 + q)) (r (17 + q)) (r (19 + q)) (r (21 + q)) s (l 0) (l 1 - 1) (l 2 - 1) (l 3 - 1) (l 4 - 1) := by
  unfold rdx rdg; rw [if_pos h]
theorem rdx_n {W H : Nat} {r : Nat → Int} {s q : Nat} {l : Nat → Nat} (h : ¬ okm W H l) : rdx W H r s q l = 0 := by
  unfold rdx rdg; rw [if_neg h]
theorem rd0_r {W : Nat} {bn bb : Nat → Int} {C S fr to : Int} {s : Nat} {tn : Int} {x y X Y : Nat} : 0 ≤ rd0 W bn bb C S fr to s tn x y X Y ∧ rd0 W bn bb C S fr to s tn x y X Y ≤ 3 := by
  unfold rd0
  repeat' split
  all_goals omega
theorem rdx_r {W H : Nat} {r : Nat → Int} {s q : Nat} {l : Nat → Nat} : 0 ≤ rdx W H r s q l ∧ rdx W H r s q l ≤ 3 := by
  by_cases h : okm W H l
  · rw [rdx_y h]; exact rd0_r
  · rw [rdx_n h]; exact ⟨by decide, by decide⟩
section RR
variable {m : Mm} {r : Nat → Int} {W H : Nat}
theorem lk_c {W : Nat} {a b : Nat} (ha : 1 ≤ a) (hb : 1 ≤ b) : ((a : Int) - 1) + (W : Int) * ((b : Int) - 1) = (((a - 1) + W * (b - 1) : Nat) : Int) := by
  rw [← cc]
  rw [show ((a - 1 : Nat) : Int) = (a : Int) - 1 by omega, show ((b - 1 : Nat) : Int) = (b : Int) - 1 by omega]
end RR
