/-! THE LAW: isTurned, from its entry -/
section TV
variable {L d hn : Nat} {I : zI} {v : Nat → Int} {hs : Nat → Nat → Int} {ct tx : Nat → Int} {tl : Nat}
theorem l_turned {p t : Nat} (hL : L + 512 ≤ 3072) (h : CI I v hs hn ct tx tl) (hp : (p : Int) < v 0) (ht : t < 4) : GD (d + 7) k_L_isTurned 0 (zent [vR 2, vI p, vI t] (zM_ k_L_isTurned).2.2.1) [] (mS L I) (fun r m => r = some (vI 1) ∧ ∃ (J : zI) (hs' : Nat → Nat → Int), m = mS (L + 512) J ∧ CI J v hs' (if hn ≤ 4 then hn else 4) ct tx tl ∧ J 1 = I 1) := by
  show GD (d + 7) k_L_isTurned 0 [some (vR 2), some (vI p), some (vI t), none, none, none, none, none, none, none, none, none, none] [] (Sh0 L, R0 ++ List.replicate (L / 512) [], I) _
  refine e_p 1 rfl rfl ?_
  refine e_newa 3 (137 + L / 512) 4 100 rfl (Or.inl ⟨rfl, rfl⟩) (Sh0_len L) (by decide) ?_
  rw [mS_ext]
  refine GD.go hL (tu_fill (I0 := I) (Sh_new L) (by omega) hp ht (zNw_ne (by omega)) (h.hi (fun q hq => zNw_ne (by omega)))) (fun r J hJ => ?_)
  obtain ⟨h1, ⟨hs', h2⟩, h3⟩ := hJ
  exact ⟨h1, J, hs', rfl, h2, h3⟩
end TV
