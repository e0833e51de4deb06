/-! the text stays as it is: no call of this law reads or writes it -/
def TX (I : zI) (tx : Nat → Int) (tl : Nat) : Prop := I 83 1 = tl ∧ tl ≤ 150 ∧ ∀ j, j < tl → I 84 j = tx j ∧ 0 ≤ tx j ∧ tx j ≤ 127
section TF
variable {tx : Nat → Int} {tl : Nat}
theorem TX.fr {I J : zI} (h : TX I tx tl) (h3 : J 83 1 = I 83 1) (h4 : J 84 = I 84) : TX J tx tl := ⟨by rw [h3]; exact h.1, h.2.1, fun j hj => by rw [h4]; exact h.2.2 j hj⟩
end TF
