/-! the static methods of the class -/
def b2i (b : Prop) [Decidable b] : Int := if b then 1 else 0
theorem b2i_t {b : Prop} [Decidable b] (h : b) : (1 : Int) = b2i b := by unfold b2i; rw [if_pos h]
theorem b2i_f {b : Prop} [Decidable b] (h : ¬ b) : (0 : Int) = b2i b := by unfold b2i; rw [if_neg h]
section ST
variable {L d : Nat} {I : zI}
theorem c_isWithin {x b : Int} (hx : rng x) (hb : rng b) : Ev L d k_X7_isWithin [vI x, vI b] I (some (vI (b2i (0 ≤ x ∧ x < b)))) I := by
  show Go L d k_X7_isWithin 0 [some (vI x), some (vI b)] [] I _
  refine g_l 1 rfl rfl ?_
  refine g_if_lt rfl (by omega) (fun h1 => ?_) (fun h1 => ?_)
  · refine g_p 14 rfl rfl ?_
    exact g_retb rfl rfl (Or.inl rfl) ⟨by rw [← b2i_f (by omega)], rfl⟩
  · refine g_l 5 rfl rfl ?_
    refine g_l 6 rfl rfl ?_
    refine g_ic_ge rfl (by omega) (by omega) (fun h2 => ?_) (fun h2 => ?_)
    · refine g_p 14 rfl rfl ?_
      exact g_retb rfl rfl (Or.inl rfl) ⟨by rw [← b2i_f (by omega)], rfl⟩
    · refine g_p 10 rfl rfl ?_
      refine g_goto rfl ?_
      exact g_retb rfl rfl (Or.inr rfl) ⟨by rw [← b2i_t (by omega)], rfl⟩
end ST
