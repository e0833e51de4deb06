/-! THE LAW: the calls as it makes them -/
def Lst (J : zI) (v : Nat → Int) (n : Nat) : Prop := ∃ (hs : Nat → Nat → Int) (ct tx : Nat → Int) (tl : Nat), CI J v hs n ct tx tl
def Pst (I : zI) (a : Int) (u : Nat → Int) (n : Nat) : Option zV → zI → Prop := fun r J => r = some (vI a) ∧ Lst J u n ∧ FrC I J
def mh (n : Nat) : Nat := if n < 6 then n + 1 else 6
theorem Lst.ok {J : zI} {v : Nat → Int} {n : Nat} (h : Lst J v n) : OKv v := by
  obtain ⟨hs, ct, tx, tl, h⟩ := h
  exact h.2.1
theorem Lst.n6 {J : zI} {v : Nat → Int} {n : Nat} (h : Lst J v n) : n ≤ 6 := by
  obtain ⟨hs, ct, tx, tl, h⟩ := h
  exact h.2.2.1.1.2.1
theorem mh_le {n : Nat} (h : n ≤ 6) : n ≤ mh n ∧ mh n ≤ 6 ∧ (n < mh n ∨ mh n = 6) := by
  unfold mh
  split <;> omega
theorem Go.lv {L d y pc : Nat} {lv lv' : zLv} {st : List zV} {I : zI} {Q : Option zV → zI → Prop} (h : lv = lv') (k : Go L d y pc lv' st I Q) : Go L d y pc lv st I Q := by
  rw [h]
  exact k
section LC
variable {L d y n : Nat} {I : zI} {v : Nat → Int} {hs : Nat → Nat → Int} {ct tx : Nat → Int} {tl : Nat} {as : List zV}
theorem pq_l {q : Int × Int} {a : Int} (h : Ct L d y as I (PQ I q v hs n ct tx tl)) (e : q = (a, 0)) : Ct L d y as I (Pst I a v n) := Go.mono h (fun r J hJ => by
  obtain ⟨h1, h2, h3⟩ := hJ
  subst e
  exact ⟨h1, ⟨hs, ct, tx, tl, h2⟩, h3⟩)
theorem pz_l {z : Int × (Nat → Int)} {a : Int} {u : Nat → Int} (h : Ct L d y as I (PZ I z v hs n ct tx tl)) (e : z = (a, u)) (ha : 0 ≤ a) : Ct L d y as I (Pst I a u (mh n)) := Go.mono h (fun r J hJ => by
  obtain ⟨h1, h2, h3⟩ := hJ
  subst e
  have e1 : mhn a n = mh n := if_neg (by omega)
  refine ⟨h1, ⟨mhs a v hs n, mct a ct, tx, tl, ?_⟩, h3⟩
  rw [← e1]
  exact h2)
theorem q_of {x w : Int} (p : Nat) (h : Lst I v n) (hx : x = (p : Int)) (hp : (p : Int) < v 0) (hw : 0 ≤ w ∧ w < 5) : Ct L (d + 5) k_X7_of [vR 2, vI x, vI w] I (Pst I (ofA v p w) v n) := by
  obtain ⟨hs, ct, tx, tl, h⟩ := h
  have h0 := h.2.1.1
  subst hx
  refine pq_l (c_of h (by omega) (by omega)) ?_
  unfold qOf
  rw [if_pos ⟨⟨by omega, hp⟩, hw⟩, Int.toNat_natCast]
theorem q_edge {x z : Int} (p s : Nat) (h : Lst I v n) (hx : x = (p : Int)) (hz : z = (s : Int)) (hp : (p : Int) < v 0) (hs4 : s < 4) : Ct L (d + 5) k_X7_edge [vR 2, vI x, vI z] I (Pst I (fC v (4 * p + s)) v n) := by
  obtain ⟨hs, ct, tx, tl, h⟩ := h
  have h0 := h.2.1.1
  subst hx
  subst hz
  refine pq_l (c_edge h (by omega) (by omega)) ?_
  unfold qEdge
  rw [if_pos ⟨⟨by omega, hp⟩, by omega, by omega⟩, show (4 * (p : Int) + (s : Int)).toNat = 4 * p + s by omega]
theorem q_unl {x z x' z' : Int} (p s q t : Nat) (h : Lst I v n) (hx : x = (p : Int)) (hz : z = (s : Int)) (hx' : x' = (q : Int)) (hz' : z' = (t : Int)) (hp : (p : Int) < v 0) (hs4 : s < 4) (hq : (q : Int) < v 0) (ht4 : t < 4) (hpq : p ≠ q) : Ct L (d + 5) k_X7_unlike [vR 2, vI x, vI z, vI x', vI z'] I (Pst I (dif (fC v (4 * p + s)) (fC v (4 * q + t))) v n) := by
  obtain ⟨hs, ct, tx, tl, h⟩ := h
  have h0 := h.2.1.1
  subst hx
  subst hz
  subst hx'
  subst hz'
  refine pq_l (c_unlike h (by omega) (by omega) (by omega) (by omega)) ?_
  unfold qUnl
  rw [if_pos ⟨⟨by omega, hp⟩, ⟨by omega, by omega⟩, ⟨by omega, hq⟩, ⟨by omega, by omega⟩, by omega⟩, show (4 * (p : Int) + (s : Int)).toNat = 4 * p + s by omega, show (4 * (q : Int) + (t : Int)).toNat = 4 * q + t by omega]
theorem q_pairs (h : Lst I v n) : Ct L (d + 5) k_X7_pairs [vR 2, vI (-1)] I (Pst I (prA v (-1)) v n) := by
  obtain ⟨hs, ct, tx, tl, h⟩ := h
  exact pq_l (c_pairs h (by decide)) (if_neg (by decide))
theorem q_groups (h : Lst I v n) : Ct L (d + 5) k_X7_groups [vR 2] I (Pst I (gpA v) v n) := by
  obtain ⟨hs, ct, tx, tl, h⟩ := h
  exact pq_l (c_groups h) rfl
theorem q_edges {w : Int} (h : Lst I v n) (hw : w = 0 ∨ w = 1) : Ct L (d + 5) k_X7_edges [vR 2, vI w] I (Pst I (edA v w) v n) := by
  obtain ⟨hs, ct, tx, tl, h⟩ := h
  exact pq_l (c_edges h (by omega)) (if_pos hw)
theorem q_cost (h : Lst I v n) : Ct L (d + 5) k_X7_cost [vR 2] I (Pst I (csA v) v n) := by
  obtain ⟨hs, ct, tx, tl, h⟩ := h
  exact pq_l (c_cost h) rfl
theorem q_at {x : Int} (p : Nat) (h : Lst I v n) (hx : x = (p : Int)) (hp : (p : Int) < fS v) : Ct L (d + 2) k_X7_at [vR 2, vI x] I (Pst I (v (11 + p)) v n) := by
  obtain ⟨hs, ct, tx, tl, h⟩ := h
  have h0 := fS_rng h.2.1
  subst hx
  refine pq_l (c_at h (by omega)) ?_
  unfold qAt
  rw [if_pos ⟨by omega, hp⟩, Int.toNat_natCast]
theorem q_next {tu w : Int} (h : Lst I v n) (ht : tu = 0 ∨ tu = 1) (hw : 0 ≤ w ∧ w < 3) : Ct L (d + 5) k_X7_next [vR 2, vI tu, vI w] I (Pst I (nxA v tu w) v n) := by
  obtain ⟨hs, ct, tx, tl, h⟩ := h
  exact pq_l (c_next h (by omega) (by omega)) (if_pos ⟨ht, hw⟩)
theorem q_told {w : Int} (a : Int) (h : Lst I v n) (hw : w = 4 ∧ a = v 0 ∨ w = 5 ∧ a = v 9 ∨ w = 6 ∧ a = v 10 ∨ w = 7 ∧ a = (n : Int)) : Ct L (d + 1) k_X7_told [vR 2, vI w] I (Pst I a v n) := by
  obtain ⟨hs, ct, tx, tl, h⟩ := h
  refine pq_l (c_told h (by omega)) ?_
  unfold qTold
  rw [if_pos (by omega)]
  rcases hw with ⟨rfl, rfl⟩ | ⟨rfl, rfl⟩ | ⟨rfl, rfl⟩ | ⟨rfl, rfl⟩ <;> rfl
theorem q_joins {w g tu fr : Int} (h : Lst I v n) (hw : 1 ≤ w ∧ w ≤ 8) (hg : 1 ≤ g ∧ g ≤ 8) (hwg : w * g = v 0) (ht : tu = 0 ∨ (tu = 1 ∧ v 0 ≤ 4)) (hf : fr = 0 ∨ fr = 1) : Ct L (d + 13) k_X7_joins [vR 2, vI w, vI g, vI tu, vI fr, vI (-1)] I (Pst I (jnA v w tu fr (-1)) v n) := by
  obtain ⟨hs, ct, tx, tl, h⟩ := h
  refine pq_l (c_joins h (by omega) (by omega) (by omega) (by omega) (by decide)) ?_
  unfold qJoins
  rw [if_pos ⟨hw, hg, by omega, hf, Or.inl rfl⟩, if_neg (fun z => by
    rcases z with z | z
    · exact z hwg
    · omega)]
theorem z_piece {c : Int} (h : Lst I v n) (hc : rng c) (h8 : v 0 < 8) : Ct L (d + 5) k_X7_piece [vR 2, vI c] I (Pst I (v 0) (vAdd v c) (mh n)) := by
  obtain ⟨hs, ct, tx, tl, h⟩ := h
  exact pz_l (c_piece h hc) (if_pos h8) h.2.1.1.1
theorem z_table {w g : Int} (h : Lst I v n) (ht : tsz w g) : Ct L (d + 5) k_X7_table [vR 2, vI w, vI g] I (Pst I (lyg v) (vTab v w g) (mh n)) := by
  have hr := ly_rng h.ok
  obtain ⟨hs, ct, tx, tl, h⟩ := h
  exact pz_l (c_table h (by omega) (by omega)) (if_pos ht) hr.1
theorem z_puts {x y z : Int} (p k t : Nat) (h : Lst I v n) (hx : x = (p : Int)) (hy : y = (k : Int)) (hz : z = (t : Int)) (hp : (p : Int) < fS v) (hk : k < fN v) (ht : t < 4) (hv : v (11 + p) = -1) (hf : frP v ((k : Nat) : Int)) : Ct L (d + 6) k_X7_puts [vR 2, vI x, vI y, vI z] I (Pst I (adA v p ((4 * k + t : Nat) : Int)) (vPut v p ((4 * k + t : Nat) : Int)) (mh n)) := by
  obtain ⟨hs, ct, tx, tl, h⟩ := h
  have h0 := fS_rng h.2.1
  have h1 := fN_le h.2.1
  subst hx
  subst hy
  subst hz
  refine pz_l (c_puts h (by omega) (by omega) (by omega)) ?_ (adA_nn _ _ _).1
  unfold sPut
  rw [if_pos ⟨⟨by omega, hp⟩, ⟨by omega, by omega⟩, by omega, by omega⟩, Int.toNat_natCast, if_pos ⟨hv, hf⟩, show 4 * (k : Int) + (t : Int) = ((4 * k + t : Nat) : Int) by omega]
  rfl
theorem z_takes {x : Int} (p : Nat) (h : Lst I v n) (hx : x = (p : Int)) (hp : (p : Int) < fS v) (hv : v (11 + p) ≠ -1) : Ct L (d + 5) k_X7_takes [vR 2, vI x] I (Pst I (v (11 + p) / 4) (zup v (11 + p) (-1)) (mh n)) := by
  obtain ⟨hs, ct, tx, tl, h⟩ := h
  have h0 := fS_rng h.2.1
  have h1 := h.2.1.2.2.2.1 p (by omega)
  subst hx
  refine pz_l (c_takes h (by omega)) ?_ (show 0 ≤ v (11 + p) / 4 by omega)
  unfold sTake
  rw [if_pos ⟨by omega, hp⟩, Int.toNat_natCast, if_neg hv]
theorem z_makes {s w g tu : Int} (h : Lst I v n) (hk : mkOK s w g tu) : Ct L (d + 5) k_X7_makes [vR 2, vI s, vI w, vI g, vI tu] I (Pst I (w * g) (vMk v s w g tu) (mh n)) := by
  obtain ⟨hs, ct, tx, tl, h⟩ := h
  refine pz_l (c_makes h (by omega) (by omega) (by omega) (by omega)) (if_pos hk) (Int.mul_nonneg (by omega) (by omega))
end LC
