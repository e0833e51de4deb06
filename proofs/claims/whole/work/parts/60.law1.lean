/-! THE LAW: the calls, one by one -/
/-- both sides hold the same state; the script is as it was -/
def LI (X : Nat → Int) (J : zI) (v : Nat → Int) (hs : Nat → Nat → Int) (hn : Nat) (ct tx : Nat → Int) (tl : Nat) : Prop := CI J v hs hn ct tx tl ∧ MI J v hs hn ct tx tl ∧ J 1 = X
theorem MI.c {I J : zI} {v : Nat → Int} {hs : Nat → Nat → Int} {hn : Nat} {ct tx : Nat → Int} {tl : Nat} (h : MI I v hs hn ct tx tl) (hF : FrC I J) : MI J v hs hn ct tx tl := ⟨fun k hk => by rw [hF 138 (by omega)]; exact h.1 k hk, h.2.1, h.2.2.fr (by rw [hF 137 (by omega)]) (by rw [hF 137 (by omega)]) (fun q hq => hF q (by omega))⟩
theorem CI.m {I J : zI} {v : Nat → Int} {hs : Nat → Nat → Int} {hn : Nat} {ct tx : Nat → Int} {tl : Nat} (h : CI I v hs hn ct tx tl) (hF : FrM I J) : CI J v hs hn ct tx tl := ⟨h.1.fq (fun q a b => hF q (by omega)), h.2.1, h.2.2.fr (fun q hq => hF q (by omega))⟩
theorem g_same {L d y pc : Nat} {lv : zLv} {st : List zV} {I : zI} {Q : Option zV → zI → Prop} {o : Int} {len A B K : Nat} {Z : Int} {a : Int} (hf : zfn pc (zC y) = some (.if_icmp .eq o, len, A, B, K, Z)) (k : Go L d y A lv st I Q) : Go L d y pc lv (vI a :: vI a :: st) I Q := by
  refine Go.jx (n := A) (j := some A) hf rfl rfl rfl (fun _ => ?_) rfl k
  simp [zpx, zcmp, zpA]
theorem g_lsame {L d y pc : Nat} {lv : zLv} {st : List zV} {I : zI} {Q : Option zV → zI → Prop} {len A B K : Nat} {Z : Int} {a : Int} (n : Nat) (hf : zfn pc (zC y) = some (.lcmp, len, A, B, K, Z)) (k : Go L d y n lv (vI 0 :: st) I Q) (hn : pc + len = n := by rfl) : Go L d y pc lv (vL a :: vL a :: st) I Q := by
  refine Go.px hf rfl rfl rfl (fun _ => ?_) hn k
  simp [zpx, zlcmp]
section L1
variable {L d i : Nat} {X : Nat → Int} {J : zI} {v : Nat → Int} {hs : Nat → Nat → Int} {hn : Nat} {ct tx : Nat → Int} {tl : Nat} {Q : Option zV → zI → Prop}
set_option maxRecDepth 16384 in
theorem l_piece (hX : ∀ j, rng (X j)) (hi : i + 6 ≤ L) (hL : L ≤ 3072) (h : LI X J v hs hn ct tx tl) (next : ∀ (M : zI) (v : Nat → Int) (hs : Nat → Nat → Int) (hn : Nat) (ct tx : Nat → Int) (tl : Nat), LI X M v hs hn ct tx tl → Go L (d + 20) k_L_law 864 [some (vR 1), some (vR 2), some (vR 137), some (vI i)] [] M Q) : Go L (d + 20) k_L_law 148 [some (vR 1), some (vR 2), some (vR 137), some (vI i)] [] J Q := by
  obtain ⟨hC, hM, h1⟩ := h
  refine g_l 149 rfl rfl ?_
  refine g_l 150 rfl rfl ?_
  refine g_l 151 rfl rfl ?_
  refine g_p 152 rfl rfl ?_
  refine g_p 153 rfl rfl ?_
  refine g_ia (i + 1) rfl rfl (by omega) (by omega) ?_
  rw [h1]
  refine g_call rfl (c_piece hC (hX _)) (fun r J1 hJ1 => ?_) (hr := rcv2 rfl)
  obtain ⟨rfl, a1, a2⟩ := hJ1
  have h1J : J1 1 = X := (a2 1 (by omega)).trans h1
  refine g_l 158 rfl rfl ?_
  refine g_l 159 rfl rfl ?_
  refine g_l 160 rfl rfl ?_
  refine g_p 161 rfl rfl ?_
  refine g_p 162 rfl rfl ?_
  refine g_ia (i + 1) rfl rfl (by omega) (by omega) ?_
  rw [h1J]
  refine g_call rfl (m_piece (hM.c a2) (hX _)) (fun r J2 hJ2 => ?_) (hr := rcvM rfl)
  obtain ⟨rfl, b1, b2⟩ := hJ2
  refine g_same rfl ?_
  exact next J2 _ _ _ _ _ _ ⟨a1.m b2, b1, (b2 1 (by omega)).trans h1J⟩
set_option maxRecDepth 16384 in
theorem l_turns (hX : ∀ j, rng (X j)) (hi : i + 6 ≤ L) (hL : L ≤ 3072) (h : LI X J v hs hn ct tx tl) (next : ∀ (M : zI) (v : Nat → Int) (hs : Nat → Nat → Int) (hn : Nat) (ct tx : Nat → Int) (tl : Nat), LI X M v hs hn ct tx tl → Go L (d + 20) k_L_law 864 [some (vR 1), some (vR 2), some (vR 137), some (vI i)] [] M Q) : Go L (d + 20) k_L_law 171 [some (vR 1), some (vR 2), some (vR 137), some (vI i)] [] J Q := by
  obtain ⟨hC, hM, h1⟩ := h
  by_cases hv : (0 ≤ X (i + 1) ∧ X (i + 1) < v 0) ∧ 0 ≤ X (i + 2) ∧ X (i + 2) < 4
  · obtain ⟨pn, hpn⟩ := Int.eq_ofNat_of_zero_le hv.1.1
    obtain ⟨tn, htn⟩ := Int.eq_ofNat_of_zero_le hv.2.1
    rw [hpn, htn] at hv
    refine g_l 172 rfl rfl ?_
    refine g_l 173 rfl rfl ?_
    refine g_l 174 rfl rfl ?_
    refine g_p 175 rfl rfl ?_
    refine g_p 176 rfl rfl ?_
    refine g_ia (i + 1) rfl rfl (by omega) (by omega) ?_
    rw [h1]
    refine g_l 178 rfl rfl ?_
    refine g_l 179 rfl rfl ?_
    refine g_p 180 rfl rfl ?_
    refine g_p 181 rfl rfl ?_
    refine g_ia (i + 2) rfl rfl (by omega) (by omega) ?_
    rw [h1]
    rw [hpn, htn]
    refine g_call rfl (c_turns_y hC hv.1.2 (by omega)) (fun r J1 hJ1 => ?_) (hr := rcv2 rfl)
    obtain ⟨rfl, a1, a2⟩ := hJ1
    have h1J : J1 1 = X := (a2 1 (by omega)).trans h1
    refine g_l 186 rfl rfl ?_
    refine g_l 187 rfl rfl ?_
    refine g_l 188 rfl rfl ?_
    refine g_p 189 rfl rfl ?_
    refine g_p 190 rfl rfl ?_
    refine g_ia (i + 1) rfl rfl (by omega) (by omega) ?_
    rw [h1J]
    refine g_l 192 rfl rfl ?_
    refine g_l 193 rfl rfl ?_
    refine g_p 194 rfl rfl ?_
    refine g_p 195 rfl rfl ?_
    refine g_ia (i + 2) rfl rfl (by omega) (by omega) ?_
    rw [h1J]
    rw [hpn, htn]
    refine g_call rfl (m_turns_y (hM.c a2) hv.1.2 (by omega)) (fun r J2 hJ2 => ?_) (hr := rcvM rfl)
    obtain ⟨rfl, b1, b2⟩ := hJ2
    refine g_same rfl ?_
    exact next J2 _ _ _ _ _ _ ⟨a1.m b2, b1, (b2 1 (by omega)).trans h1J⟩
  · refine g_l 172 rfl rfl ?_
    refine g_l 173 rfl rfl ?_
    refine g_l 174 rfl rfl ?_
    refine g_p 175 rfl rfl ?_
    refine g_p 176 rfl rfl ?_
    refine g_ia (i + 1) rfl rfl (by omega) (by omega) ?_
    rw [h1]
    refine g_l 178 rfl rfl ?_
    refine g_l 179 rfl rfl ?_
    refine g_p 180 rfl rfl ?_
    refine g_p 181 rfl rfl ?_
    refine g_ia (i + 2) rfl rfl (by omega) (by omega) ?_
    rw [h1]
    refine g_call rfl (c_turns_n hC (hX _) (hX _) hv) (fun r J1 hJ1 => ?_) (hr := rcv2 rfl)
    obtain ⟨rfl, a1, a2⟩ := hJ1
    have h1J : J1 1 = X := (a2 1 (by omega)).trans h1
    refine g_l 186 rfl rfl ?_
    refine g_l 187 rfl rfl ?_
    refine g_l 188 rfl rfl ?_
    refine g_p 189 rfl rfl ?_
    refine g_p 190 rfl rfl ?_
    refine g_ia (i + 1) rfl rfl (by omega) (by omega) ?_
    rw [h1J]
    refine g_l 192 rfl rfl ?_
    refine g_l 193 rfl rfl ?_
    refine g_p 194 rfl rfl ?_
    refine g_p 195 rfl rfl ?_
    refine g_ia (i + 2) rfl rfl (by omega) (by omega) ?_
    rw [h1J]
    refine g_call rfl (m_turns_n (hM.c a2) (hX _) (hX _) hv) (fun r J2 hJ2 => ?_) (hr := rcvM rfl)
    obtain ⟨rfl, b1, b2⟩ := hJ2
    refine g_same rfl ?_
    exact next J2 _ _ _ _ _ _ ⟨a1.m b2, b1, (b2 1 (by omega)).trans h1J⟩
set_option maxRecDepth 16384 in
theorem l_drops (hX : ∀ j, rng (X j)) (hi : i + 6 ≤ L) (hL : L ≤ 3072) (h : LI X J v hs hn ct tx tl) (next : ∀ (M : zI) (v : Nat → Int) (hs : Nat → Nat → Int) (hn : Nat) (ct tx : Nat → Int) (tl : Nat), LI X M v hs hn ct tx tl → Go L (d + 20) k_L_law 864 [some (vR 1), some (vR 2), some (vR 137), some (vI i)] [] M Q) : Go L (d + 20) k_L_law 204 [some (vR 1), some (vR 2), some (vR 137), some (vI i)] [] J Q := by
  obtain ⟨hC, hM, h1⟩ := h
  refine g_l 205 rfl rfl ?_
  refine g_l 206 rfl rfl ?_
  refine g_l 207 rfl rfl ?_
  refine g_p 208 rfl rfl ?_
  refine g_p 209 rfl rfl ?_
  refine g_ia (i + 1) rfl rfl (by omega) (by omega) ?_
  rw [h1]
  refine g_call rfl (c_drops hC (hX _)) (fun r J1 hJ1 => ?_) (hr := rcv2 rfl)
  obtain ⟨rfl, a1, a2⟩ := hJ1
  have h1J : J1 1 = X := (a2 1 (by omega)).trans h1
  refine g_l 214 rfl rfl ?_
  refine g_l 215 rfl rfl ?_
  refine g_l 216 rfl rfl ?_
  refine g_p 217 rfl rfl ?_
  refine g_p 218 rfl rfl ?_
  refine g_ia (i + 1) rfl rfl (by omega) (by omega) ?_
  rw [h1J]
  refine g_call rfl (m_drops (hM.c a2) (hX _)) (fun r J2 hJ2 => ?_) (hr := rcvM rfl)
  obtain ⟨rfl, b1, b2⟩ := hJ2
  refine g_same rfl ?_
  exact next J2 _ _ _ _ _ _ ⟨a1.m b2, b1, (b2 1 (by omega)).trans h1J⟩
set_option maxRecDepth 16384 in
theorem l_makes (hX : ∀ j, rng (X j)) (hi : i + 6 ≤ L) (hL : L ≤ 3072) (h : LI X J v hs hn ct tx tl) (next : ∀ (M : zI) (v : Nat → Int) (hs : Nat → Nat → Int) (hn : Nat) (ct tx : Nat → Int) (tl : Nat), LI X M v hs hn ct tx tl → Go L (d + 20) k_L_law 864 [some (vR 1), some (vR 2), some (vR 137), some (vI i)] [] M Q) : Go L (d + 20) k_L_law 227 [some (vR 1), some (vR 2), some (vR 137), some (vI i)] [] J Q := by
  obtain ⟨hC, hM, h1⟩ := h
  refine g_l 228 rfl rfl ?_
  refine g_l 229 rfl rfl ?_
  refine g_l 230 rfl rfl ?_
  refine g_p 231 rfl rfl ?_
  refine g_p 232 rfl rfl ?_
  refine g_ia (i + 1) rfl rfl (by omega) (by omega) ?_
  rw [h1]
  refine g_l 234 rfl rfl ?_
  refine g_l 235 rfl rfl ?_
  refine g_p 236 rfl rfl ?_
  refine g_p 237 rfl rfl ?_
  refine g_ia (i + 2) rfl rfl (by omega) (by omega) ?_
  rw [h1]
  refine g_l 239 rfl rfl ?_
  refine g_l 240 rfl rfl ?_
  refine g_p 241 rfl rfl ?_
  refine g_p 242 rfl rfl ?_
  refine g_ia (i + 3) rfl rfl (by omega) (by omega) ?_
  rw [h1]
  refine g_l 244 rfl rfl ?_
  refine g_l 245 rfl rfl ?_
  refine g_p 246 rfl rfl ?_
  refine g_p 247 rfl rfl ?_
  refine g_ia (i + 4) rfl rfl (by omega) (by omega) ?_
  rw [h1]
  refine g_call rfl (c_makes hC (hX _) (hX _) (hX _) (hX _)) (fun r J1 hJ1 => ?_) (hr := rcv2 rfl)
  obtain ⟨rfl, a1, a2⟩ := hJ1
  have h1J : J1 1 = X := (a2 1 (by omega)).trans h1
  refine g_l 252 rfl rfl ?_
  refine g_l 253 rfl rfl ?_
  refine g_l 254 rfl rfl ?_
  refine g_p 255 rfl rfl ?_
  refine g_p 256 rfl rfl ?_
  refine g_ia (i + 1) rfl rfl (by omega) (by omega) ?_
  rw [h1J]
  refine g_l 258 rfl rfl ?_
  refine g_l 259 rfl rfl ?_
  refine g_p 260 rfl rfl ?_
  refine g_p 261 rfl rfl ?_
  refine g_ia (i + 2) rfl rfl (by omega) (by omega) ?_
  rw [h1J]
  refine g_l 263 rfl rfl ?_
  refine g_l 264 rfl rfl ?_
  refine g_p 265 rfl rfl ?_
  refine g_p 266 rfl rfl ?_
  refine g_ia (i + 3) rfl rfl (by omega) (by omega) ?_
  rw [h1J]
  refine g_l 268 rfl rfl ?_
  refine g_l 269 rfl rfl ?_
  refine g_p 270 rfl rfl ?_
  refine g_p 271 rfl rfl ?_
  refine g_ia (i + 4) rfl rfl (by omega) (by omega) ?_
  rw [h1J]
  refine g_call rfl (m_makes (hM.c a2) (hX _) (hX _) (hX _) (hX _)) (fun r J2 hJ2 => ?_) (hr := rcvM rfl)
  obtain ⟨rfl, b1, b2⟩ := hJ2
  refine g_same rfl ?_
  exact next J2 _ _ _ _ _ _ ⟨a1.m b2, b1, (b2 1 (by omega)).trans h1J⟩
set_option maxRecDepth 16384 in
theorem l_cell (hX : ∀ j, rng (X j)) (hi : i + 6 ≤ L) (hL : L ≤ 3072) (h : LI X J v hs hn ct tx tl) (next : ∀ (M : zI) (v : Nat → Int) (hs : Nat → Nat → Int) (hn : Nat) (ct tx : Nat → Int) (tl : Nat), LI X M v hs hn ct tx tl → Go L (d + 20) k_L_law 864 [some (vR 1), some (vR 2), some (vR 137), some (vI i)] [] M Q) : Go L (d + 20) k_L_law 280 [some (vR 1), some (vR 2), some (vR 137), some (vI i)] [] J Q := by
  obtain ⟨hC, hM, h1⟩ := h
  refine g_l 281 rfl rfl ?_
  refine g_l 282 rfl rfl ?_
  refine g_l 283 rfl rfl ?_
  refine g_p 284 rfl rfl ?_
  refine g_p 285 rfl rfl ?_
  refine g_ia (i + 1) rfl rfl (by omega) (by omega) ?_
  rw [h1]
  refine g_l 287 rfl rfl ?_
  refine g_l 288 rfl rfl ?_
  refine g_p 289 rfl rfl ?_
  refine g_p 290 rfl rfl ?_
  refine g_ia (i + 2) rfl rfl (by omega) (by omega) ?_
  rw [h1]
  refine g_l 292 rfl rfl ?_
  refine g_l 293 rfl rfl ?_
  refine g_p 294 rfl rfl ?_
  refine g_p 295 rfl rfl ?_
  refine g_ia (i + 3) rfl rfl (by omega) (by omega) ?_
  rw [h1]
  refine g_call rfl (c_cell hC (hX _) (hX _) (hX _)) (fun r J1 hJ1 => ?_) (hr := rcv2 rfl)
  obtain ⟨rfl, a1, a2⟩ := hJ1
  have h1J : J1 1 = X := (a2 1 (by omega)).trans h1
  refine g_l 300 rfl rfl ?_
  refine g_l 301 rfl rfl ?_
  refine g_l 302 rfl rfl ?_
  refine g_p 303 rfl rfl ?_
  refine g_p 304 rfl rfl ?_
  refine g_ia (i + 1) rfl rfl (by omega) (by omega) ?_
  rw [h1J]
  refine g_l 306 rfl rfl ?_
  refine g_l 307 rfl rfl ?_
  refine g_p 308 rfl rfl ?_
  refine g_p 309 rfl rfl ?_
  refine g_ia (i + 2) rfl rfl (by omega) (by omega) ?_
  rw [h1J]
  refine g_l 311 rfl rfl ?_
  refine g_l 312 rfl rfl ?_
  refine g_p 313 rfl rfl ?_
  refine g_p 314 rfl rfl ?_
  refine g_ia (i + 3) rfl rfl (by omega) (by omega) ?_
  rw [h1J]
  refine g_call rfl (m_cell (hM.c a2) (hX _) (hX _) (hX _)) (fun r J2 hJ2 => ?_) (hr := rcvM rfl)
  obtain ⟨rfl, b1, b2⟩ := hJ2
  refine g_same rfl ?_
  exact next J2 _ _ _ _ _ _ ⟨a1.m b2, b1, (b2 1 (by omega)).trans h1J⟩
set_option maxRecDepth 16384 in
theorem l_of (hX : ∀ j, rng (X j)) (hi : i + 6 ≤ L) (hL : L ≤ 3072) (h : LI X J v hs hn ct tx tl) (next : ∀ (M : zI) (v : Nat → Int) (hs : Nat → Nat → Int) (hn : Nat) (ct tx : Nat → Int) (tl : Nat), LI X M v hs hn ct tx tl → Go L (d + 20) k_L_law 864 [some (vR 1), some (vR 2), some (vR 137), some (vI i)] [] M Q) : Go L (d + 20) k_L_law 323 [some (vR 1), some (vR 2), some (vR 137), some (vI i)] [] J Q := by
  obtain ⟨hC, hM, h1⟩ := h
  refine g_l 324 rfl rfl ?_
  refine g_l 325 rfl rfl ?_
  refine g_l 326 rfl rfl ?_
  refine g_p 327 rfl rfl ?_
  refine g_p 328 rfl rfl ?_
  refine g_ia (i + 1) rfl rfl (by omega) (by omega) ?_
  rw [h1]
  refine g_l 330 rfl rfl ?_
  refine g_l 331 rfl rfl ?_
  refine g_p 332 rfl rfl ?_
  refine g_p 333 rfl rfl ?_
  refine g_ia (i + 2) rfl rfl (by omega) (by omega) ?_
  rw [h1]
  refine g_call rfl (c_of hC (hX _) (hX _)) (fun r J1 hJ1 => ?_) (hr := rcv2 rfl)
  obtain ⟨rfl, a1, a2⟩ := hJ1
  have h1J : J1 1 = X := (a2 1 (by omega)).trans h1
  refine g_l 338 rfl rfl ?_
  refine g_l 339 rfl rfl ?_
  refine g_l 340 rfl rfl ?_
  refine g_p 341 rfl rfl ?_
  refine g_p 342 rfl rfl ?_
  refine g_ia (i + 1) rfl rfl (by omega) (by omega) ?_
  rw [h1J]
  refine g_l 344 rfl rfl ?_
  refine g_l 345 rfl rfl ?_
  refine g_p 346 rfl rfl ?_
  refine g_p 347 rfl rfl ?_
  refine g_ia (i + 2) rfl rfl (by omega) (by omega) ?_
  rw [h1J]
  refine g_call rfl (m_of (hM.c a2) (hX _) (hX _)) (fun r J2 hJ2 => ?_) (hr := rcvM rfl)
  obtain ⟨rfl, b1, b2⟩ := hJ2
  refine g_same rfl ?_
  exact next J2 _ _ _ _ _ _ ⟨a1.m b2, b1, (b2 1 (by omega)).trans h1J⟩
set_option maxRecDepth 16384 in
theorem l_edge (hX : ∀ j, rng (X j)) (hi : i + 6 ≤ L) (hL : L ≤ 3072) (h : LI X J v hs hn ct tx tl) (next : ∀ (M : zI) (v : Nat → Int) (hs : Nat → Nat → Int) (hn : Nat) (ct tx : Nat → Int) (tl : Nat), LI X M v hs hn ct tx tl → Go L (d + 20) k_L_law 864 [some (vR 1), some (vR 2), some (vR 137), some (vI i)] [] M Q) : Go L (d + 20) k_L_law 356 [some (vR 1), some (vR 2), some (vR 137), some (vI i)] [] J Q := by
  obtain ⟨hC, hM, h1⟩ := h
  refine g_l 357 rfl rfl ?_
  refine g_l 358 rfl rfl ?_
  refine g_l 359 rfl rfl ?_
  refine g_p 360 rfl rfl ?_
  refine g_p 361 rfl rfl ?_
  refine g_ia (i + 1) rfl rfl (by omega) (by omega) ?_
  rw [h1]
  refine g_l 363 rfl rfl ?_
  refine g_l 364 rfl rfl ?_
  refine g_p 365 rfl rfl ?_
  refine g_p 366 rfl rfl ?_
  refine g_ia (i + 2) rfl rfl (by omega) (by omega) ?_
  rw [h1]
  refine g_call rfl (c_edge hC (hX _) (hX _)) (fun r J1 hJ1 => ?_) (hr := rcv2 rfl)
  obtain ⟨rfl, a1, a2⟩ := hJ1
  have h1J : J1 1 = X := (a2 1 (by omega)).trans h1
  refine g_l 371 rfl rfl ?_
  refine g_l 372 rfl rfl ?_
  refine g_l 373 rfl rfl ?_
  refine g_p 374 rfl rfl ?_
  refine g_p 375 rfl rfl ?_
  refine g_ia (i + 1) rfl rfl (by omega) (by omega) ?_
  rw [h1J]
  refine g_l 377 rfl rfl ?_
  refine g_l 378 rfl rfl ?_
  refine g_p 379 rfl rfl ?_
  refine g_p 380 rfl rfl ?_
  refine g_ia (i + 2) rfl rfl (by omega) (by omega) ?_
  rw [h1J]
  refine g_call rfl (m_edge (hM.c a2) (hX _) (hX _)) (fun r J2 hJ2 => ?_) (hr := rcvM rfl)
  obtain ⟨rfl, b1, b2⟩ := hJ2
  refine g_same rfl ?_
  exact next J2 _ _ _ _ _ _ ⟨a1.m b2, b1, (b2 1 (by omega)).trans h1J⟩
set_option maxRecDepth 16384 in
theorem l_unlike (hX : ∀ j, rng (X j)) (hi : i + 6 ≤ L) (hL : L ≤ 3072) (h : LI X J v hs hn ct tx tl) (next : ∀ (M : zI) (v : Nat → Int) (hs : Nat → Nat → Int) (hn : Nat) (ct tx : Nat → Int) (tl : Nat), LI X M v hs hn ct tx tl → Go L (d + 20) k_L_law 864 [some (vR 1), some (vR 2), some (vR 137), some (vI i)] [] M Q) : Go L (d + 20) k_L_law 389 [some (vR 1), some (vR 2), some (vR 137), some (vI i)] [] J Q := by
  obtain ⟨hC, hM, h1⟩ := h
  refine g_l 390 rfl rfl ?_
  refine g_l 391 rfl rfl ?_
  refine g_l 392 rfl rfl ?_
  refine g_p 393 rfl rfl ?_
  refine g_p 394 rfl rfl ?_
  refine g_ia (i + 1) rfl rfl (by omega) (by omega) ?_
  rw [h1]
  refine g_l 396 rfl rfl ?_
  refine g_l 397 rfl rfl ?_
  refine g_p 398 rfl rfl ?_
  refine g_p 399 rfl rfl ?_
  refine g_ia (i + 2) rfl rfl (by omega) (by omega) ?_
  rw [h1]
  refine g_l 401 rfl rfl ?_
  refine g_l 402 rfl rfl ?_
  refine g_p 403 rfl rfl ?_
  refine g_p 404 rfl rfl ?_
  refine g_ia (i + 3) rfl rfl (by omega) (by omega) ?_
  rw [h1]
  refine g_l 406 rfl rfl ?_
  refine g_l 407 rfl rfl ?_
  refine g_p 408 rfl rfl ?_
  refine g_p 409 rfl rfl ?_
  refine g_ia (i + 4) rfl rfl (by omega) (by omega) ?_
  rw [h1]
  refine g_call rfl (c_unlike hC (hX _) (hX _) (hX _) (hX _)) (fun r J1 hJ1 => ?_) (hr := rcv2 rfl)
  obtain ⟨rfl, a1, a2⟩ := hJ1
  have h1J : J1 1 = X := (a2 1 (by omega)).trans h1
  refine g_l 414 rfl rfl ?_
  refine g_l 415 rfl rfl ?_
  refine g_l 416 rfl rfl ?_
  refine g_p 417 rfl rfl ?_
  refine g_p 418 rfl rfl ?_
  refine g_ia (i + 1) rfl rfl (by omega) (by omega) ?_
  rw [h1J]
  refine g_l 420 rfl rfl ?_
  refine g_l 421 rfl rfl ?_
  refine g_p 422 rfl rfl ?_
  refine g_p 423 rfl rfl ?_
  refine g_ia (i + 2) rfl rfl (by omega) (by omega) ?_
  rw [h1J]
  refine g_l 425 rfl rfl ?_
  refine g_l 426 rfl rfl ?_
  refine g_p 427 rfl rfl ?_
  refine g_p 428 rfl rfl ?_
  refine g_ia (i + 3) rfl rfl (by omega) (by omega) ?_
  rw [h1J]
  refine g_l 430 rfl rfl ?_
  refine g_l 431 rfl rfl ?_
  refine g_p 432 rfl rfl ?_
  refine g_p 433 rfl rfl ?_
  refine g_ia (i + 4) rfl rfl (by omega) (by omega) ?_
  rw [h1J]
  refine g_call rfl (m_unlike (hM.c a2) (hX _) (hX _) (hX _) (hX _)) (fun r J2 hJ2 => ?_) (hr := rcvM rfl)
  obtain ⟨rfl, b1, b2⟩ := hJ2
  refine g_same rfl ?_
  exact next J2 _ _ _ _ _ _ ⟨a1.m b2, b1, (b2 1 (by omega)).trans h1J⟩
set_option maxRecDepth 16384 in
theorem l_mate (hX : ∀ j, rng (X j)) (hi : i + 6 ≤ L) (hL : L ≤ 3072) (h : LI X J v hs hn ct tx tl) (next : ∀ (M : zI) (v : Nat → Int) (hs : Nat → Nat → Int) (hn : Nat) (ct tx : Nat → Int) (tl : Nat), LI X M v hs hn ct tx tl → Go L (d + 20) k_L_law 864 [some (vR 1), some (vR 2), some (vR 137), some (vI i)] [] M Q) : Go L (d + 20) k_L_law 442 [some (vR 1), some (vR 2), some (vR 137), some (vI i)] [] J Q := by
  obtain ⟨hC, hM, h1⟩ := h
  refine g_l 443 rfl rfl ?_
  refine g_l 444 rfl rfl ?_
  refine g_l 445 rfl rfl ?_
  refine g_p 446 rfl rfl ?_
  refine g_p 447 rfl rfl ?_
  refine g_ia (i + 1) rfl rfl (by omega) (by omega) ?_
  rw [h1]
  refine g_l 449 rfl rfl ?_
  refine g_l 450 rfl rfl ?_
  refine g_p 451 rfl rfl ?_
  refine g_p 452 rfl rfl ?_
  refine g_ia (i + 2) rfl rfl (by omega) (by omega) ?_
  rw [h1]
  refine g_call rfl (c_mate hC (hX _) (hX _)) (fun r J1 hJ1 => ?_) (hr := rcv2 rfl)
  obtain ⟨rfl, a1, a2⟩ := hJ1
  have h1J : J1 1 = X := (a2 1 (by omega)).trans h1
  refine g_l 457 rfl rfl ?_
  refine g_l 458 rfl rfl ?_
  refine g_l 459 rfl rfl ?_
  refine g_p 460 rfl rfl ?_
  refine g_p 461 rfl rfl ?_
  refine g_ia (i + 1) rfl rfl (by omega) (by omega) ?_
  rw [h1J]
  refine g_l 463 rfl rfl ?_
  refine g_l 464 rfl rfl ?_
  refine g_p 465 rfl rfl ?_
  refine g_p 466 rfl rfl ?_
  refine g_ia (i + 2) rfl rfl (by omega) (by omega) ?_
  rw [h1J]
  refine g_call rfl (m_mate (hM.c a2) (hX _) (hX _)) (fun r J2 hJ2 => ?_) (hr := rcvM rfl)
  obtain ⟨rfl, b1, b2⟩ := hJ2
  refine g_same rfl ?_
  exact next J2 _ _ _ _ _ _ ⟨a1.m b2, b1, (b2 1 (by omega)).trans h1J⟩
set_option maxRecDepth 16384 in
theorem l_pairs (hX : ∀ j, rng (X j)) (hi : i + 6 ≤ L) (hL : L ≤ 3072) (h : LI X J v hs hn ct tx tl) (next : ∀ (M : zI) (v : Nat → Int) (hs : Nat → Nat → Int) (hn : Nat) (ct tx : Nat → Int) (tl : Nat), LI X M v hs hn ct tx tl → Go L (d + 20) k_L_law 864 [some (vR 1), some (vR 2), some (vR 137), some (vI i)] [] M Q) : Go L (d + 20) k_L_law 475 [some (vR 1), some (vR 2), some (vR 137), some (vI i)] [] J Q := by
  obtain ⟨hC, hM, h1⟩ := h
  refine g_l 476 rfl rfl ?_
  refine g_l 477 rfl rfl ?_
  refine g_l 478 rfl rfl ?_
  refine g_p 479 rfl rfl ?_
  refine g_p 480 rfl rfl ?_
  refine g_ia (i + 1) rfl rfl (by omega) (by omega) ?_
  rw [h1]
  refine g_call rfl (c_pairs hC (hX _)) (fun r J1 hJ1 => ?_) (hr := rcv2 rfl)
  obtain ⟨rfl, a1, a2⟩ := hJ1
  have h1J : J1 1 = X := (a2 1 (by omega)).trans h1
  refine g_l 485 rfl rfl ?_
  refine g_l 486 rfl rfl ?_
  refine g_l 487 rfl rfl ?_
  refine g_p 488 rfl rfl ?_
  refine g_p 489 rfl rfl ?_
  refine g_ia (i + 1) rfl rfl (by omega) (by omega) ?_
  rw [h1J]
  refine g_call rfl (m_pairs (hM.c a2) (hX _)) (fun r J2 hJ2 => ?_) (hr := rcvM rfl)
  obtain ⟨rfl, b1, b2⟩ := hJ2
  refine g_same rfl ?_
  exact next J2 _ _ _ _ _ _ ⟨a1.m b2, b1, (b2 1 (by omega)).trans h1J⟩
set_option maxRecDepth 16384 in
theorem l_groups (hX : ∀ j, rng (X j)) (hi : i + 6 ≤ L) (hL : L ≤ 3072) (h : LI X J v hs hn ct tx tl) (next : ∀ (M : zI) (v : Nat → Int) (hs : Nat → Nat → Int) (hn : Nat) (ct tx : Nat → Int) (tl : Nat), LI X M v hs hn ct tx tl → Go L (d + 20) k_L_law 864 [some (vR 1), some (vR 2), some (vR 137), some (vI i)] [] M Q) : Go L (d + 20) k_L_law 498 [some (vR 1), some (vR 2), some (vR 137), some (vI i)] [] J Q := by
  obtain ⟨hC, hM, h1⟩ := h
  refine g_l 499 rfl rfl ?_
  refine g_call rfl (c_groups hC) (fun r J1 hJ1 => ?_) (hr := rcv2 rfl)
  obtain ⟨rfl, a1, a2⟩ := hJ1
  have h1J : J1 1 = X := (a2 1 (by omega)).trans h1
  refine g_l 503 rfl rfl ?_
  refine g_call rfl (m_groups (hM.c a2)) (fun r J2 hJ2 => ?_) (hr := rcvM rfl)
  obtain ⟨rfl, b1, b2⟩ := hJ2
  refine g_same rfl ?_
  exact next J2 _ _ _ _ _ _ ⟨a1.m b2, b1, (b2 1 (by omega)).trans h1J⟩
set_option maxRecDepth 16384 in
theorem l_edges (hX : ∀ j, rng (X j)) (hi : i + 6 ≤ L) (hL : L ≤ 3072) (h : LI X J v hs hn ct tx tl) (next : ∀ (M : zI) (v : Nat → Int) (hs : Nat → Nat → Int) (hn : Nat) (ct tx : Nat → Int) (tl : Nat), LI X M v hs hn ct tx tl → Go L (d + 20) k_L_law 864 [some (vR 1), some (vR 2), some (vR 137), some (vI i)] [] M Q) : Go L (d + 20) k_L_law 511 [some (vR 1), some (vR 2), some (vR 137), some (vI i)] [] J Q := by
  obtain ⟨hC, hM, h1⟩ := h
  refine g_l 512 rfl rfl ?_
  refine g_l 513 rfl rfl ?_
  refine g_l 514 rfl rfl ?_
  refine g_p 515 rfl rfl ?_
  refine g_p 516 rfl rfl ?_
  refine g_ia (i + 1) rfl rfl (by omega) (by omega) ?_
  rw [h1]
  refine g_call rfl (c_edges hC (hX _)) (fun r J1 hJ1 => ?_) (hr := rcv2 rfl)
  obtain ⟨rfl, a1, a2⟩ := hJ1
  have h1J : J1 1 = X := (a2 1 (by omega)).trans h1
  refine g_l 521 rfl rfl ?_
  refine g_l 522 rfl rfl ?_
  refine g_l 523 rfl rfl ?_
  refine g_p 524 rfl rfl ?_
  refine g_p 525 rfl rfl ?_
  refine g_ia (i + 1) rfl rfl (by omega) (by omega) ?_
  rw [h1J]
  refine g_call rfl (m_edges (hM.c a2) (hX _)) (fun r J2 hJ2 => ?_) (hr := rcvM rfl)
  obtain ⟨rfl, b1, b2⟩ := hJ2
  refine g_same rfl ?_
  exact next J2 _ _ _ _ _ _ ⟨a1.m b2, b1, (b2 1 (by omega)).trans h1J⟩
end L1
