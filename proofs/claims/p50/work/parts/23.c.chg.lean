/-! Calls that change the game: resign, wind, set. -/
section HD
variable {m : Mm} {W H n : Nat} {r : Nat → Int}
theorem rs_n {r : Nat → Int} {k : Nat} {v : Int} (hk : pS k) : ∀ j, j < 584 → ¬ pS j → rs r k v j = r j := fun j _ hj => rs_ne (fun e => hj (by rw [e]; exact hk))
/-- what may be set: its bounds -/
def sLo (w : Int) : Int := if w = 6 then 0 else 1
def sHi (w : Int) : Int := if w = 5 then 5 else 9
end HD
