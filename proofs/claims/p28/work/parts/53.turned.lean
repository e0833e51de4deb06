/-! THE LAW: isTurned -/
theorem CI.hi {I J : zI} {v : Nat → Int} {hs : Nat → Nat → Int} {hn : Nat} {ct tx : Nat → Int} {tl : Nat} (h : CI I v hs hn ct tx tl) (hF : ∀ q, q < 137 → J q = I q) : CI J v hs hn ct tx tl := ⟨h.1.fq (fun q a b => hF q (by omega)), h.2.1, h.2.2.fr (fun q hq => hF q (by omega))⟩
theorem g_lsame {L d y pc : Nat} {lv : zLv} {st : List zV} {I : zI} {Q : Option zV → zI → Prop} {len A B K : Nat} {Z : Int} {a : Int} (n : Nat) (hf : zfn pc (zC y) = some (.lcmp, len, A, B, K, Z)) (k : Go L d y n lv (vI 0 :: st) I Q) (hn : pc + len = n := by rfl) : Go L d y pc lv (vL a :: vL a :: st) I Q := by
  refine Go.px hf rfl rfl rfl (fun _ => ?_) hn k
  simp [zpx, zlcmp]
theorem Sh0_len (L : Nat) : (Sh0 L).length = 137 + L / 512 := by
  have hl : Sh1.length = 135 := rfl
  rw [Sh0_cons, List.length_cons, List.length_cons, List.length_append, List.length_replicate, hl]
  omega
theorem mS_ext (L : Nat) (J : zI) : (Sh0 L ++ [(100, 4)], (R0 ++ List.replicate (L / 512) []) ++ [[]], J) = mS (L + 512) J := by
  have e1 : (L + 512) % 512 = L % 512 := by omega
  have e2 : (L + 512) / 512 = L / 512 + 1 := by omega
  unfold mS
  rw [Sh0_cons L, Sh0_cons (L + 512), e1, e2, List.replicate_succ', List.replicate_succ', List.cons_append, List.cons_append, List.append_assoc, List.append_assoc]
theorem Sh_new (L : Nat) : (Sh0 (L + 512))[137 + L / 512]? = some (100, 4) := by
  have hl : Sh1.length = 135 := rfl
  have e2 : (L + 512) / 512 = L / 512 + 1 := by omega
  rw [Sh0_cons, show 137 + L / 512 = (135 + L / 512) + 1 + 1 by omega, List.getElem?_cons_succ, List.getElem?_cons_succ, List.getElem?_append_right (by omega), hl, e2, List.getElem?_replicate, if_pos (by omega)]
theorem hp_2 {hs : Nat → Nat → Int} {hn : Nat} {v u : Nat → Int} (h : hn ≤ 6) : hpush (hpush hs hn v) (mh hn) u (if hn ≤ 4 then hn else 4) = v := by
  have hc : hn ≤ 4 ∨ hn = 5 ∨ hn = 6 := by omega
  rcases hc with hc | rfl | rfl
  · have e : mh hn = hn + 1 := if_pos (by omega)
    rw [e, if_pos hc]
    have a : hpush (hpush hs hn v) (hn + 1) u hn = hpush hs hn v hn := by
      show (if hn + 1 < 6 then (if hn = hn + 1 then u else hpush hs hn v hn) else if hn = 5 then u else hpush hs hn v (hn + 1)) = _
      rw [if_pos (by omega), if_neg (by omega)]
    have b : hpush hs hn v hn = v := by
      show (if hn < 6 then (if hn = hn then v else hs hn) else if hn = 5 then v else hs (hn + 1)) = v
      rw [if_pos (by omega), if_pos rfl]
    rw [a, b]
  · rfl
  · rfl
section TU
variable {L d hn : Nat} {I : zI} {v : Nat → Int} {hs : Nat → Nat → Int} {ct tx : Nat → Int} {tl : Nat} {as : List zV} {y : Nat} {Q : Option zV → zI → Prop}
theorem pq_c {q : Int × Int} {a : Int} (h : Ct L d y as I (PQ I q v hs hn ct tx tl)) (e : q = (a, 0)) : Ct L d y as I (PA I a v hs hn ct tx tl) := Go.mono h (fun r J hJ => by
  obtain ⟨h1, h2, h3⟩ := hJ
  subst e
  exact ⟨h1, h2, h3⟩)
theorem e_edge {x z : Int} (p s : Nat) (h : CI I v hs hn ct tx tl) (hx : x = (p : Int)) (hz : z = (s : Int)) (hp : (p : Int) < v 0) (hs4 : s < 4) : Ct L (d + 5) k_X7_edge [vR 2, vI x, vI z] I (PA I (fC v (4 * p + s)) v hs hn ct tx tl) := by
  have h0 := h.2.1.1
  subst hx
  subst hz
  refine pq_c (c_edge h (by omega) (by omega)) ?_
  unfold qEdge
  rw [if_pos ⟨⟨by omega, hp⟩, by omega, by omega⟩, show (4 * (p : Int) + (s : Int)).toNat = 4 * p + s by omega]
theorem e_of0 (p : Nat) (h : CI I v hs hn ct tx tl) (hp : (p : Int) < v 0) : Ct L (d + 5) k_X7_of [vR 2, vI p, vI 0] I (PA I (ofA v p 0) v hs hn ct tx tl) := by
  have h0 := h.2.1.1
  refine pq_c (c_of h (by omega) (by omega)) ?_
  unfold qOf
  rw [if_pos ⟨⟨by omega, hp⟩, by omega⟩, Int.toNat_natCast]
theorem e_edges (h : CI I v hs hn ct tx tl) : Ct L (d + 5) k_X7_edges [vR 2, vI 0] I (PA I (edA v 0) v hs hn ct tx tl) := pq_c (c_edges h (by omega)) (if_pos (Or.inl rfl))
theorem e_told7 (h : CI I v hs hn ct tx tl) : Ct L (d + 1) k_X7_told [vR 2, vI 7] I (PA I (hn : Int) v hs hn ct tx tl) := pq_c (c_told h (by omega)) rfl
/-- the row of the edges, and the script -/
def TA (I0 : zI) (a : Nat) (e : Nat → Int) (k : Nat) (J : zI) : Prop := (∀ s, s < k → J a s = e s) ∧ J 1 = I0 1
theorem TA.fr {I0 J J1 : zI} {a k : Nat} {e : Nat → Int} (h : TA I0 a e k J) (ha : 137 ≤ a) (hF : FrC J J1) : TA I0 a e k J1 := ⟨fun s hs => by rw [hF a (Or.inr ha)]; exact h.1 s hs, by rw [hF 1 (by omega)]; exact h.2⟩
theorem edA_rng (u : Nat → Int) (h : OKv u) : 0 ≤ edA u 0 ∧ edA u 0 ≤ 32 := by
  have h1 := (edA_01 u).2
  have h2 := fN_le h
  have h3 : 0 ≤ edA u 0 := by
    rw [edA_sg]
    exact sgF_0 _ (fun s _ => by rcases b2c_r (¬ sbF (fC u) 0 s s 0) with h | h <;> omega)
  omega
set_option maxRecDepth 16384 in
/-- behind the second loop -/
theorem tu_end {I0 : zI} {p t a : Nat} {bits bk : Int} {o12 : Option zV} (hv : OKv v) (h6 : hn ≤ 6) (hT : I 1 = I0 1) (hbits : rng bits) (hbk : rng bk) (hb : t = 0 → bits = bk) (ht : t < 4) (u w : Nat → Int) (h : CI I w (hpush (hpush hs hn v) (mh hn) u) (mh (mh hn)) ct tx tl) : Go L (d + 7) k_L_isTurned 193 ([some (vR 2), some (vI p), some (vI t), some (vR a), some (vI (edA v 0)), some (vI (ofA v p 0)), some (vL (dgA v hn ct tl)), none, some (vI (hn : Int)), some (vI bits), some (vI 1), some (vI bk), o12]) [] I (fun r J => r = some (vI 1) ∧ (∃ hs' : Nat → Nat → Int, CI J v hs' (if hn ≤ 4 then hn else 4) ct tx tl) ∧ J 1 = I0 1) := by
  have yes : ∀ J : zI, CI J v (hpush (hpush hs hn v) (mh hn) u) (if hn ≤ 4 then hn else 4) ct tx tl → J 1 = I0 1 → Go L (d + 7) k_L_isTurned 251 ([some (vR 2), some (vI p), some (vI t), some (vR a), some (vI (edA v 0)), some (vI (ofA v p 0)), some (vL (dgA v hn ct tl)), none, some (vI (hn : Int)), some (vI bits), some (vI 1), some (vI bk), o12]) [] J (fun r J => r = some (vI 1) ∧ (∃ hs' : Nat → Nat → Int, CI J v hs' (if hn ≤ 4 then hn else 4) ct tx tl) ∧ J 1 = I0 1) := fun J hJ hJ1 => by
    refine g_p 252 rfl rfl ?_
    refine g_goto rfl ?_
    exact g_retb rfl rfl (Or.inr rfl) ⟨rfl, ⟨_, hJ⟩, hJ1⟩
  have go : Go L (d + 7) k_L_isTurned 209 ([some (vR 2), some (vI p), some (vI t), some (vR a), some (vI (edA v 0)), some (vI (ofA v p 0)), some (vL (dgA v hn ct tl)), none, some (vI (hn : Int)), some (vI bits), some (vI 1), some (vI bk), o12]) [] I (fun r J => r = some (vI 1) ∧ (∃ hs' : Nat → Nat → Int, CI J v hs' (if hn ≤ 4 then hn else 4) ct tx tl) ∧ J 1 = I0 1) := by
    have hm : mh (mh hn) = (if hn ≤ 4 then hn else 4) + 1 + 1 := by
      unfold mh
      split <;> split <;> split <;> omega
    have hb4 : (if hn ≤ 4 then hn else 4) ≤ 4 := by split <;> omega
    have hlast := hp_2 (hs := hs) (hn := hn) (v := v) (u := u) h6
    rw [hm] at h
    refine g_p 210 rfl rfl ?_
    refine g_goto rfl ?_
    refine g_l 216 rfl rfl ?_
    refine Go.lv (rfl : _ = [_, _, _, _, _, _, _, _, _, _, _, _, _]) ?_
    refine g_l 218 rfl rfl ?_
    refine g_if_eq rfl (by omega) (fun g1 => ?_) (fun g1 => ?_)
    · exact absurd g1 (by omega)
    · refine g_l 222 rfl rfl ?_
      refine g_call rfl (c_back_y h) (fun r J1 hJ1 => ?_) (hr := rcv2 rfl)
      obtain ⟨rfl, hJ1, f1⟩ := hJ1
      refine g_if_lt rfl (by omega) (fun g2 => ?_) (fun g2 => ?_)
      · exact absurd g2 (by omega)
      · refine g_l 229 rfl rfl ?_
        refine g_call rfl (c_back_y hJ1) (fun r J2 hJ2 => ?_) (hr := rcv2 rfl)
        obtain ⟨rfl, hJ2, f2⟩ := hJ2
        rw [hlast] at hJ2
        have hX2 : J2 1 = I0 1 := by rw [f2 1 (by omega), f1 1 (by omega), hT]
        refine g_if_lt rfl (by omega) (fun g3 => ?_) (fun g3 => ?_)
        · exact absurd g3 (by omega)
        · refine g_l 237 rfl rfl ?_
          refine g_p 238 rfl rfl ?_
          refine g_ic_gt rfl (by omega) (by omega) (fun g4 => ?_) (fun g4 => ?_)
          · exact yes J2 hJ2 hX2
          · have e4 : (if hn ≤ 4 then hn else 4) = hn := if_pos (by omega)
            refine g_l 242 rfl rfl ?_
            refine g_call rfl (c_digest hJ2) (fun r J3 hJ3 => ?_) (hr := rcv2 rfl)
            obtain ⟨rfl, hJ3, f3⟩ := hJ3
            have e5 : dgA v (if hn ≤ 4 then hn else 4) ct tl = dgA v hn ct tl := by rw [e4]
            rw [e5]
            refine g_l 247 rfl rfl ?_
            refine g_lsame 248 rfl ?_
            refine g_if_ne rfl (by omega) (fun g5 => ?_) (fun g5 => ?_)
            · exact absurd rfl g5
            · refine yes J3 hJ3 ?_
              rw [f3 1 (by omega)]
              exact hX2
  refine g_l 195 rfl rfl ?_
  refine g_if_eq rfl (by omega) (fun g1 => ?_) (fun g1 => ?_)
  · exact absurd g1 (by omega)
  · refine g_l 199 rfl rfl ?_
    refine g_if_ne rfl (by omega) (fun g2 => ?_) (fun g2 => ?_)
    · exact go
    · refine g_l 204 rfl rfl ?_
      refine g_l 206 rfl rfl ?_
      refine g_ic_ne rfl (by omega) (by omega) (fun g3 => ?_) (fun g3 => ?_)
      · exact absurd (hb (by omega)) g3
      · exact go
set_option maxRecDepth 16384 in
/-- the second turn and what follows -/
theorem tu_back {I0 : zI} {p t a : Nat} {o11 o12 : Option zV} (hs4 : (Sh0 L)[a]? = some (100, 4)) (ha : 137 ≤ a) (hv : OKv v) (h6 : hn ≤ 6) (hp : (p : Int) < v 0) (ht : t < 4) (hT : TA I0 a (fun s => fC v (4 * p + s)) 4 I) (h : CI I (vTrn v p t) (hpush hs hn v) (mh hn) ct tx tl) : Go L (d + 7) k_L_isTurned 140 ([some (vR 2), some (vI p), some (vI t), some (vR a), some (vI (edA v 0)), some (vI (ofA v p 0)), some (vL (dgA v hn ct tl)), none, some (vI (hn : Int)), some (vI (tqs (v (1 + p)) t)), some (vI 1), o11, o12]) [] I (fun r J => r = some (vI 1) ∧ (∃ hs' : Nat → Nat → Int, CI J v hs' (if hn ≤ 4 then hn else 4) ct tx tl) ∧ J 1 = I0 1) := by
  have h0 := hv.1
  have hfN := fN_le hv
  have hpv : (p : Int) < vTrn v p t 0 := by rw [vTrn_0]; exact hp
  have et : (4 - (t : Int)) % 4 = (((4 - t) % 4 : Nat) : Int) := by omega
  have r1 : rng (tqs (v (1 + p)) t) := tqs_rng (hv.2.1 p (by omega)) t
  have e1 : vTrn v p t (1 + p) = tqs (v (1 + p)) t := zup_s
  have r2 : rng (tqs (vTrn v p t (1 + p)) ((4 - t) % 4)) := tqs_rng (by rw [e1]; exact r1) _
  have hfc : ∀ s, s < 4 → fC (vTrn (vTrn v p t) p ((4 - t) % 4)) (4 * p + s) = fC v (4 * p + s) := fun s hs => by
    have a1 := fC_trn (v := vTrn v p t) (p := p) (t := (4 - t) % 4) (s := (s + t) % 4) (by rw [fN_trn]; omega) (by omega)
    rw [fC_trn (by omega) hs, show ((s + t) % 4 + (4 - t) % 4) % 4 = s by omega] at a1
    exact a1
  have key : ∀ (m s : Nat) (J : zI) (o12 : Option zV), s + m = 4 → CI J (vTrn (vTrn v p t) p ((4 - t) % 4)) (hpush (hpush hs hn v) (mh hn) (vTrn v p t)) (mh (mh hn)) ct tx tl → TA I0 a (fun s => fC v (4 * p + s)) 4 J → Go L (d + 7) k_L_isTurned 155 ([some (vR 2), some (vI p), some (vI t), some (vR a), some (vI (edA v 0)), some (vI (ofA v p 0)), some (vL (dgA v hn ct tl)), none, some (vI (hn : Int)), some (vI (tqs (v (1 + p)) t)), some (vI 1), some (vI (tqs (vTrn v p t (1 + p)) ((4 - t) % 4))), some (vI s)]) [] J (fun r J => r = some (vI 1) ∧ (∃ hs' : Nat → Nat → Int, CI J v hs' (if hn ≤ 4 then hn else 4) ct tx tl) ∧ J 1 = I0 1) := by
    intro m
    induction m with
    | zero =>
      intro s J o12 hs hJ hTJ
      refine g_l 157 rfl rfl ?_
      refine g_p 158 rfl rfl ?_
      refine g_ic_ge rfl (by omega) (by omega) (fun g => ?_) (fun g => ?_)
      · refine tu_end hv h6 hTJ.2 r1 r2 (fun z => ?_) ht _ _ hJ
        subst z
        rw [e1]
        rfl
      · exact absurd (show (4 : Int) ≤ (s : Int) by omega) g
    | succ m ih =>
      intro s J o12 hs hJ hTJ
      refine g_l 157 rfl rfl ?_
      refine g_p 158 rfl rfl ?_
      refine g_ic_ge rfl (by omega) (by omega) (fun g => ?_) (fun g => ?_)
      · exact absurd g (by omega)
      · refine g_l 163 rfl rfl ?_
        refine g_if_eq rfl (by omega) (fun g2 => ?_) (fun g2 => ?_)
        · exact absurd g2 (by omega)
        · refine g_l 167 rfl rfl ?_
          refine g_l 168 rfl rfl ?_
          refine g_l 170 rfl rfl ?_
          refine g_call rfl (e_edge p s hJ rfl rfl (by rw [vTrn_0]; exact hpv) (by omega)) (fun r J1 hJ1 => ?_) (hr := rcv2 rfl)
          obtain ⟨rfl, hJ1, f1⟩ := hJ1
          rw [hfc s (by omega)]
          have hT1 := hTJ.fr ha f1
          refine g_l 174 rfl rfl ?_
          refine g_l 176 rfl rfl ?_
          refine g_ia s rfl hs4 rfl (by omega) ?_
          have eT : J1 a s = fC v (4 * p + s) := hT1.1 s (by omega)
          rw [eT]
          have rr := fC_rng v (4 * p + s)
          refine g_ic_ne rfl (by omega) (by omega) (fun g3 => ?_) (fun g3 => ?_)
          · exact absurd rfl g3
          · refine g_p 181 rfl rfl ?_
            refine g_goto rfl ?_
            refine g_l 187 rfl rfl ?_
            refine Go.lv (rfl : _ = [_, _, _, _, _, _, _, _, _, _, _, _, _]) ?_
            refine g_l 190 rfl rfl ?_
            refine Go.lv (rfl : _ = [_, _, _, _, _, _, _, _, _, _, _, _, _]) ?_
            refine g_goto rfl ?_
            exact ih (s + 1) J1 none (by omega) hJ1 hT1
  refine g_l 141 rfl rfl ?_
  refine g_l 142 rfl rfl ?_
  refine g_p 143 rfl rfl ?_
  refine g_l 144 rfl rfl ?_
  refine g_p 145 rfl rfl ?_
  refine g_p 146 rfl rfl ?_
  refine g_rem 147 rfl (by omega) (by omega) ?_
  rw [et]
  refine g_call rfl (c_turns_y h hpv (by omega)) (fun r J1 hJ1 => ?_) (hr := rcv2 rfl)
  obtain ⟨rfl, hJ1, f1⟩ := hJ1
  refine g_l 152 rfl rfl ?_
  refine Go.lv (rfl : _ = [_, _, _, _, _, _, _, _, _, _, _, _, _]) ?_
  refine g_p 153 rfl rfl ?_
  refine g_l 155 rfl rfl ?_
  refine Go.lv (rfl : _ = [_, _, _, _, _, _, _, _, _, _, _, _, _]) ?_
  exact key 4 0 J1 none (by omega) hJ1 (hT.fr ha f1)
set_option maxRecDepth 16384 in
/-- the first turn -/
theorem tu_first {I0 : zI} {p t a : Nat} {o8 o9 o10 o11 o12 : Option zV} {o6 : Int} (hs4 : (Sh0 L)[a]? = some (100, 4)) (ha : 137 ≤ a) (h6 : hn ≤ 6) (hp : (p : Int) < v 0) (ht : t < 4) (hT : TA I0 a (fun s => fC v (4 * p + s)) 4 I) (h : CI I v hs hn ct tx tl) : Go L (d + 7) k_L_isTurned 45 ([some (vR 2), some (vI p), some (vI t), some (vR a), some (vI (edA v 0)), some (vI (ofA v p 0)), some (vI o6), none, o8, o9, o10, o11, o12]) [] I (fun r J => r = some (vI 1) ∧ (∃ hs' : Nat → Nat → Int, CI J v hs' (if hn ≤ 4 then hn else 4) ct tx tl) ∧ J 1 = I0 1) := by
  have hv := h.2.1
  have h0 := hv.1
  have hfN := fN_le hv
  have rE := edA_rng v hv
  have hS := sort_le v p
  have key : ∀ (m s : Nat) (J : zI) (o12 : Option zV), s + m = 4 → CI J (vTrn v p t) (hpush hs hn v) (mh hn) ct tx tl → TA I0 a (fun s => fC v (4 * p + s)) 4 J → Go L (d + 7) k_L_isTurned 98 ([some (vR 2), some (vI p), some (vI t), some (vR a), some (vI (edA v 0)), some (vI (ofA v p 0)), some (vL (dgA v hn ct tl)), none, some (vI (hn : Int)), some (vI (tqs (v (1 + p)) t)), some (vI 1), some (vI s), o12]) [] J (fun r J => r = some (vI 1) ∧ (∃ hs' : Nat → Nat → Int, CI J v hs' (if hn ≤ 4 then hn else 4) ct tx tl) ∧ J 1 = I0 1) := by
    intro m
    induction m with
    | zero =>
      intro s J o12 hs hJ hTJ
      refine g_l 100 rfl rfl ?_
      refine g_p 101 rfl rfl ?_
      refine g_ic_ge rfl (by omega) (by omega) (fun g => ?_) (fun g => ?_)
      · exact tu_back hs4 ha hv h6 hp ht hTJ hJ
      · exact absurd (show (4 : Int) ≤ (s : Int) by omega) g
    | succ m ih =>
      intro s J o12 hs hJ hTJ
      refine g_l 100 rfl rfl ?_
      refine g_p 101 rfl rfl ?_
      refine g_ic_ge rfl (by omega) (by omega) (fun g => ?_) (fun g => ?_)
      · exact absurd g (by omega)
      · refine g_l 106 rfl rfl ?_
        refine g_if_eq rfl (by omega) (fun g2 => ?_) (fun g2 => ?_)
        · exact absurd g2 (by omega)
        · refine g_l 110 rfl rfl ?_
          refine g_l 111 rfl rfl ?_
          refine g_l 113 rfl rfl ?_
          refine g_l 114 rfl rfl ?_
          refine g_p 115 rfl rfl ?_
          refine g_p 116 rfl rfl ?_
          refine g_rem 117 rfl (by omega) (by omega) ?_
          refine g_call rfl (e_edge p ((s + t) % 4) hJ rfl (by omega) (by rw [vTrn_0]; exact hp) (by omega)) (fun r J1 hJ1 => ?_) (hr := rcv2 rfl)
          obtain ⟨rfl, hJ1, f1⟩ := hJ1
          rw [fC_trn (by omega) (by omega)]
          have hT1 := hTJ.fr ha f1
          refine g_l 121 rfl rfl ?_
          refine g_l 123 rfl rfl ?_
          refine g_ia s rfl hs4 rfl (by omega) ?_
          have eT : J1 a s = fC v (4 * p + s) := hT1.1 s (by omega)
          rw [eT]
          have rr := fC_rng v (4 * p + s)
          refine g_ic_ne rfl (by omega) (by omega) (fun g3 => ?_) (fun g3 => ?_)
          · exact absurd rfl g3
          · refine g_p 128 rfl rfl ?_
            refine g_goto rfl ?_
            refine g_l 134 rfl rfl ?_
            refine Go.lv (rfl : _ = [_, _, _, _, _, _, _, _, _, _, _, _, _]) ?_
            refine g_l 137 rfl rfl ?_
            refine Go.lv (rfl : _ = [_, _, _, _, _, _, _, _, _, _, _, _, _]) ?_
            refine g_goto rfl ?_
            exact ih (s + 1) J1 _ (by omega) hJ1 hT1
  refine g_l 46 rfl rfl ?_
  refine g_call rfl (c_digest h) (fun r J1 hJ1 => ?_) (hr := rcv2 rfl)
  obtain ⟨rfl, hJ1, f1⟩ := hJ1
  have hT1 := hT.fr ha f1
  refine g_l 51 rfl rfl ?_
  refine Go.lv (rfl : _ = [_, _, _, _, _, _, _, _, _, _, _, _, _]) ?_
  refine g_l 52 rfl rfl ?_
  refine g_p 54 rfl rfl ?_
  refine g_call rfl (e_told7 hJ1) (fun r J2 hJ2 => ?_) (hr := rcv2 rfl)
  obtain ⟨rfl, hJ2, f2⟩ := hJ2
  have hT2 := hT1.fr ha f2
  refine g_l 59 rfl rfl ?_
  refine Go.lv (rfl : _ = [_, _, _, _, _, _, _, _, _, _, _, _, _]) ?_
  refine g_l 60 rfl rfl ?_
  refine g_l 61 rfl rfl ?_
  refine g_l 62 rfl rfl ?_
  refine g_call rfl (c_turns_y hJ2 hp ht) (fun r J3 hJ3 => ?_) (hr := rcv2 rfl)
  obtain ⟨rfl, hJ3, f3⟩ := hJ3
  have hT3 := hT2.fr ha f3
  have hJ3 : CI J3 (vTrn v p t) (hpush hs hn v) (mh hn) ct tx tl := hJ3
  refine g_l 67 rfl rfl ?_
  refine Go.lv (rfl : _ = [_, _, _, _, _, _, _, _, _, _, _, _, _]) ?_
  refine g_l 68 rfl rfl ?_
  refine g_p 69 rfl rfl ?_
  refine g_call rfl (e_edges hJ3) (fun r J4 hJ4 => ?_) (hr := rcv2 rfl)
  obtain ⟨rfl, hJ4, f4⟩ := hJ4
  have hT4 := hT3.fr ha f4
  rw [edA_trn (by omega) ht]
  refine g_l 74 rfl rfl ?_
  refine g_ic_ne rfl (by omega) (by omega) (fun g1 => ?_) (fun g1 => ?_)
  · exact absurd rfl g1
  · refine g_l 78 rfl rfl ?_
    refine g_l 79 rfl rfl ?_
    refine g_p 80 rfl rfl ?_
    refine g_call rfl (e_of0 p hJ4 (by rw [vTrn_0]; exact hp)) (fun r J5 hJ5 => ?_) (hr := rcv2 rfl)
    obtain ⟨rfl, hJ5, f5⟩ := hJ5
    have hT5 := hT4.fr ha f5
    rw [sort_trn (by omega) ht]
    refine g_l 85 rfl rfl ?_
    refine g_ic_ne rfl (by omega) (by omega) (fun g2 => ?_) (fun g2 => ?_)
    · exact absurd rfl g2
    · refine g_p 89 rfl rfl ?_
      refine g_goto rfl ?_
      refine g_l 95 rfl rfl ?_
      refine Go.lv (rfl : _ = [_, _, _, _, _, _, _, _, _, _, _, _, _]) ?_
      refine g_p 96 rfl rfl ?_
      refine g_l 98 rfl rfl ?_
      refine Go.lv (rfl : _ = [_, _, _, _, _, _, _, _, _, _, _, _, _]) ?_
      exact key 4 0 J5 _ (by omega) hJ5 hT5
set_option maxRecDepth 16384 in
theorem tu_fill {I0 : zI} {p t a : Nat} {o4 o5 o6 o8 o9 o10 o11 o12 : Option zV} (hs4 : (Sh0 L)[a]? = some (100, 4)) (ha : 137 ≤ a) (hp : (p : Int) < v 0) (ht : t < 4) (hT : I 1 = I0 1) (h : CI I v hs hn ct tx tl) : Go L (d + 7) k_L_isTurned 3 [some (vR 2), some (vI p), some (vI t), none, o4, o5, o6, none, o8, o9, o10, o11, o12] [vR a] I (fun r J => r = some (vI 1) ∧ (∃ hs' : Nat → Nat → Int, CI J v hs' (if hn ≤ 4 then hn else 4) ct tx tl) ∧ J 1 = I0 1) := by
  have h6 := h.2.2.1.1.2.1
  have key : ∀ (m s : Nat) (J : zI), s + m = 4 → CI J v hs hn ct tx tl → TA I0 a (fun s => fC v (4 * p + s)) s J → Go L (d + 7) k_L_isTurned 22 ([some (vR 2), some (vI p), some (vI t), some (vR a), some (vI (edA v 0)), some (vI (ofA v p 0)), some (vI s), none, o8, o9, o10, o11, o12]) [] J (fun r J => r = some (vI 1) ∧ (∃ hs' : Nat → Nat → Int, CI J v hs' (if hn ≤ 4 then hn else 4) ct tx tl) ∧ J 1 = I0 1) := by
    intro m
    induction m with
    | zero =>
      intro s J hs hJ hTJ
      refine g_l 24 rfl rfl ?_
      refine g_p 25 rfl rfl ?_
      refine g_ic_ge rfl (by omega) (by omega) (fun g => ?_) (fun g => ?_)
      · exact tu_first hs4 ha h6 hp ht (by rw [show s = 4 by omega] at hTJ; exact hTJ) hJ
      · exact absurd (show (4 : Int) ≤ (s : Int) by omega) g
    | succ m ih =>
      intro s J hs hJ hTJ
      refine g_l 24 rfl rfl ?_
      refine g_p 25 rfl rfl ?_
      refine g_ic_ge rfl (by omega) (by omega) (fun g => ?_) (fun g => ?_)
      · exact absurd g (by omega)
      · refine g_l 29 rfl rfl ?_
        refine g_l 31 rfl rfl ?_
        refine g_l 32 rfl rfl ?_
        refine g_l 33 rfl rfl ?_
        refine g_l 35 rfl rfl ?_
        refine g_call rfl (e_edge p s hJ rfl rfl hp (by omega)) (fun r J1 hJ1 => ?_) (hr := rcv2 rfl)
        obtain ⟨rfl, hJ1, f1⟩ := hJ1
        have hT1 := hTJ.fr ha f1
        refine g_ias s rfl hs4 (by omega) rfl (by omega) ?_
        refine g_l 42 rfl rfl ?_
        refine Go.lv (rfl : _ = [_, _, _, _, _, _, _, _, _, _, _, _, _]) ?_
        refine g_goto rfl ?_
        refine ih (s + 1) _ (by omega) (hJ1.hi (fun q hq => zup2_ne (by omega))) ⟨fun j hj => ?_, ?_⟩
        · by_cases hjs : j = s
          · rw [hjs, zup2_at]
          · rw [zup2_an hjs]
            exact hT1.1 j (by omega)
        · rw [zup2_ne (by omega)]
          exact hT1.2
  refine g_l 4 rfl rfl ?_
  refine Go.lv (rfl : _ = [_, _, _, _, _, _, _, _, _, _, _, _, _]) ?_
  refine g_l 5 rfl rfl ?_
  refine g_p 6 rfl rfl ?_
  refine g_call rfl (e_edges h) (fun r J1 hJ1 => ?_) (hr := rcv2 rfl)
  obtain ⟨rfl, hJ1, f1⟩ := hJ1
  refine g_l 11 rfl rfl ?_
  refine Go.lv (rfl : _ = [_, _, _, _, _, _, _, _, _, _, _, _, _]) ?_
  refine g_l 12 rfl rfl ?_
  refine g_l 13 rfl rfl ?_
  refine g_p 14 rfl rfl ?_
  refine g_call rfl (e_of0 p hJ1 hp) (fun r J2 hJ2 => ?_) (hr := rcv2 rfl)
  obtain ⟨rfl, hJ2, f2⟩ := hJ2
  refine g_l 19 rfl rfl ?_
  refine Go.lv (rfl : _ = [_, _, _, _, _, _, _, _, _, _, _, _, _]) ?_
  refine g_p 20 rfl rfl ?_
  refine g_l 22 rfl rfl ?_
  refine Go.lv (rfl : _ = [_, _, _, _, _, _, _, _, _, _, _, _, _]) ?_
  exact key 4 0 J2 (by omega) hJ2 ⟨fun s hs => absurd hs (by omega), by rw [f2 1 (by omega), f1 1 (by omega), hT]⟩
end TU
