/-! THE MAKING OF THE CELLS: the constructors -/
def iS_hist0 (L : Nat) : List (Nat × Nat) := [(100, 16), (100, L), (7, 10), (5, 3), (100, 8), (3, 3), (100, 8), (5, 3), (100, 8), (3, 3), (100, 8), (1, 3)]
def iR_hist0 : List (List (Option Nat)) := [[], [], [some 3, some 7, none, none, none, none, none, none, none, none], [none, some 4, some 5], [], [none, none, some 6], [], [none, some 8, some 9], [], [none, none, some 10], [], [none, none, none]]
def iS_hist1 (L : Nat) : List (Nat × Nat) := [(100, 16), (100, L), (7, 10), (5, 3), (100, 8), (3, 3), (100, 8), (5, 3), (100, 8), (3, 3), (100, 8), (1, 3), (104, 6), (5, 3), (100, 8), (3, 3), (100, 8), (5, 3), (100, 8), (3, 3), (100, 8), (5, 3), (100, 8), (3, 3), (100, 8), (5, 3), (100, 8), (3, 3), (100, 8), (5, 3), (100, 8), (3, 3), (100, 8), (5, 3), (100, 8), (3, 3), (100, 8)]
def iR_hist1 : List (List (Option Nat)) := [[], [], [some 3, some 7, none, none, none, none, none, none, none, none], [none, some 4, some 5], [], [none, none, some 6], [], [none, some 8, some 9], [], [none, none, some 10], [], [some 12, none, none], [some 13, some 17, some 21, some 25, some 29, some 33], [none, some 14, some 15], [], [none, none, some 16], [], [none, some 18, some 19], [], [none, none, some 20], [], [none, some 22, some 23], [], [none, none, some 24], [], [none, some 26, some 27], [], [none, none, some 28], [], [none, some 30, some 31], [], [none, none, some 32], [], [none, some 34, some 35], [], [none, none, some 36], []]
theorem i_hist {L d : Nat} {I : zI} : GD (d + 3) k_X1_init 0 [some (vR 11), none] [] (iS_hist0 L, iR_hist0, I) (fun r m => r = none ∧ m.1 = iS_hist1 L ∧ m.2.1 = iR_hist1 ∧ m.2.2 11 1 = 0 ∧ m.2.2 11 2 = 0 ∧ ∀ q, q < 11 → m.2.2 q = I q) := by
  refine e_l 1 rfl rfl ?_
  refine e_obj 4 rfl (by decide) ?_
  refine e_l 5 rfl rfl ?_
  refine e_p 7 rfl rfl ?_
  refine e_anew 10 12 6 rfl rfl (by decide) ?_
  refine e_wr [none, none, none] rfl rfl ⟨⟨by decide, by decide, by decide⟩, by decide⟩ rfl (by decide) ?_
  refine e_l 14 rfl rfl ?_
  refine e_p 15 rfl rfl ?_
  refine e_wi rfl rfl ⟨⟨by decide, by decide, by decide⟩, by decide⟩ ?_
  refine e_l 19 rfl rfl ?_
  refine e_p 20 rfl rfl ?_
  refine e_wi rfl rfl ⟨⟨by decide, by decide, by decide⟩, by decide⟩ ?_
  refine e_p 24 rfl rfl ?_
  refine e_l 25 rfl rfl ?_
  refine e_l 26 rfl rfl ?_
  refine e_p 28 rfl rfl ?_
  refine e_ic_ge rfl (by decide) (by decide) (fun g => absurd g (by decide)) (fun _ => ?_)
  refine e_l 32 rfl rfl ?_
  refine e_fr rfl rfl ⟨⟨by decide, by decide, by decide⟩, by decide⟩ rfl ?_
  refine e_l 36 rfl rfl ?_
  refine e_new 39 13 3 rfl (by decide) rfl rfl ?_
  refine e_p 40 rfl rfl ?_
  refine e_call rfl (i_state (a := 13) (n := 14) rfl (by decide) (by decide) rfl rfl rfl) rfl (fun r m hm => ?_)
  obtain ⟨S14, R14, I14⟩ := m
  obtain ⟨rfl, h1, h2, f14a, f14b, f14c, f14d, f14e, f14⟩ := hm
  dsimp only at h1 h2 f14a f14b f14c f14d f14e f14
  subst h1
  subst h2
  refine e_aas 0 [none, none, none, none, none, none] rfl rfl rfl ⟨by decide, by decide⟩ rfl (by decide) (by decide) rfl (by decide) ?_
  refine e_l 47 rfl rfl ?_
  refine e_goto rfl ?_
  refine e_l 26 rfl rfl ?_
  refine e_p 28 rfl rfl ?_
  refine e_ic_ge rfl (by decide) (by decide) (fun g => absurd g (by decide)) (fun _ => ?_)
  refine e_l 32 rfl rfl ?_
  refine e_fr rfl rfl ⟨⟨by decide, by decide, by decide⟩, by decide⟩ rfl ?_
  refine e_l 36 rfl rfl ?_
  refine e_new 39 17 3 rfl (by decide) rfl rfl ?_
  refine e_p 40 rfl rfl ?_
  refine e_call rfl (i_state (a := 17) (n := 18) rfl (by decide) (by decide) rfl rfl rfl) rfl (fun r m hm => ?_)
  obtain ⟨S18, R18, I18⟩ := m
  obtain ⟨rfl, h1, h2, f18a, f18b, f18c, f18d, f18e, f18⟩ := hm
  dsimp only at h1 h2 f18a f18b f18c f18d f18e f18
  subst h1
  subst h2
  refine e_aas 1 [some 13, none, none, none, none, none] rfl rfl rfl ⟨by decide, by decide⟩ rfl (by decide) (by decide) rfl (by decide) ?_
  refine e_l 47 rfl rfl ?_
  refine e_goto rfl ?_
  refine e_l 26 rfl rfl ?_
  refine e_p 28 rfl rfl ?_
  refine e_ic_ge rfl (by decide) (by decide) (fun g => absurd g (by decide)) (fun _ => ?_)
  refine e_l 32 rfl rfl ?_
  refine e_fr rfl rfl ⟨⟨by decide, by decide, by decide⟩, by decide⟩ rfl ?_
  refine e_l 36 rfl rfl ?_
  refine e_new 39 21 3 rfl (by decide) rfl rfl ?_
  refine e_p 40 rfl rfl ?_
  refine e_call rfl (i_state (a := 21) (n := 22) rfl (by decide) (by decide) rfl rfl rfl) rfl (fun r m hm => ?_)
  obtain ⟨S22, R22, I22⟩ := m
  obtain ⟨rfl, h1, h2, f22a, f22b, f22c, f22d, f22e, f22⟩ := hm
  dsimp only at h1 h2 f22a f22b f22c f22d f22e f22
  subst h1
  subst h2
  refine e_aas 2 [some 13, some 17, none, none, none, none] rfl rfl rfl ⟨by decide, by decide⟩ rfl (by decide) (by decide) rfl (by decide) ?_
  refine e_l 47 rfl rfl ?_
  refine e_goto rfl ?_
  refine e_l 26 rfl rfl ?_
  refine e_p 28 rfl rfl ?_
  refine e_ic_ge rfl (by decide) (by decide) (fun g => absurd g (by decide)) (fun _ => ?_)
  refine e_l 32 rfl rfl ?_
  refine e_fr rfl rfl ⟨⟨by decide, by decide, by decide⟩, by decide⟩ rfl ?_
  refine e_l 36 rfl rfl ?_
  refine e_new 39 25 3 rfl (by decide) rfl rfl ?_
  refine e_p 40 rfl rfl ?_
  refine e_call rfl (i_state (a := 25) (n := 26) rfl (by decide) (by decide) rfl rfl rfl) rfl (fun r m hm => ?_)
  obtain ⟨S26, R26, I26⟩ := m
  obtain ⟨rfl, h1, h2, f26a, f26b, f26c, f26d, f26e, f26⟩ := hm
  dsimp only at h1 h2 f26a f26b f26c f26d f26e f26
  subst h1
  subst h2
  refine e_aas 3 [some 13, some 17, some 21, none, none, none] rfl rfl rfl ⟨by decide, by decide⟩ rfl (by decide) (by decide) rfl (by decide) ?_
  refine e_l 47 rfl rfl ?_
  refine e_goto rfl ?_
  refine e_l 26 rfl rfl ?_
  refine e_p 28 rfl rfl ?_
  refine e_ic_ge rfl (by decide) (by decide) (fun g => absurd g (by decide)) (fun _ => ?_)
  refine e_l 32 rfl rfl ?_
  refine e_fr rfl rfl ⟨⟨by decide, by decide, by decide⟩, by decide⟩ rfl ?_
  refine e_l 36 rfl rfl ?_
  refine e_new 39 29 3 rfl (by decide) rfl rfl ?_
  refine e_p 40 rfl rfl ?_
  refine e_call rfl (i_state (a := 29) (n := 30) rfl (by decide) (by decide) rfl rfl rfl) rfl (fun r m hm => ?_)
  obtain ⟨S30, R30, I30⟩ := m
  obtain ⟨rfl, h1, h2, f30a, f30b, f30c, f30d, f30e, f30⟩ := hm
  dsimp only at h1 h2 f30a f30b f30c f30d f30e f30
  subst h1
  subst h2
  refine e_aas 4 [some 13, some 17, some 21, some 25, none, none] rfl rfl rfl ⟨by decide, by decide⟩ rfl (by decide) (by decide) rfl (by decide) ?_
  refine e_l 47 rfl rfl ?_
  refine e_goto rfl ?_
  refine e_l 26 rfl rfl ?_
  refine e_p 28 rfl rfl ?_
  refine e_ic_ge rfl (by decide) (by decide) (fun g => absurd g (by decide)) (fun _ => ?_)
  refine e_l 32 rfl rfl ?_
  refine e_fr rfl rfl ⟨⟨by decide, by decide, by decide⟩, by decide⟩ rfl ?_
  refine e_l 36 rfl rfl ?_
  refine e_new 39 33 3 rfl (by decide) rfl rfl ?_
  refine e_p 40 rfl rfl ?_
  refine e_call rfl (i_state (a := 33) (n := 34) rfl (by decide) (by decide) rfl rfl rfl) rfl (fun r m hm => ?_)
  obtain ⟨S34, R34, I34⟩ := m
  obtain ⟨rfl, h1, h2, f34a, f34b, f34c, f34d, f34e, f34⟩ := hm
  dsimp only at h1 h2 f34a f34b f34c f34d f34e f34
  subst h1
  subst h2
  refine e_aas 5 [some 13, some 17, some 21, some 25, some 29, none] rfl rfl rfl ⟨by decide, by decide⟩ rfl (by decide) (by decide) rfl (by decide) ?_
  refine e_l 47 rfl rfl ?_
  refine e_goto rfl ?_
  refine e_l 26 rfl rfl ?_
  refine e_p 28 rfl rfl ?_
  refine e_ic_ge rfl (by decide) (by decide) (fun _ => ?_) (fun g => absurd (by decide) g)
  refine e_ret rfl rfl ⟨rfl, rfl, rfl, ?_, ?_, fun q hq => ?_⟩
  · dsimp only
    rw [f34 11 (by decide) (by decide), zNw_ne (by decide), f30 11 (by decide) (by decide), zNw_ne (by decide), f26 11 (by decide) (by decide), zNw_ne (by decide), f22 11 (by decide) (by decide), zNw_ne (by decide), f18 11 (by decide) (by decide), zNw_ne (by decide), f14 11 (by decide) (by decide), zNw_ne (by decide), zup2_an (by decide), zup2_at]
  · dsimp only
    rw [f34 11 (by decide) (by decide), zNw_ne (by decide), f30 11 (by decide) (by decide), zNw_ne (by decide), f26 11 (by decide) (by decide), zNw_ne (by decide), f22 11 (by decide) (by decide), zNw_ne (by decide), f18 11 (by decide) (by decide), zNw_ne (by decide), f14 11 (by decide) (by decide), zNw_ne (by decide), zup2_at]
  · dsimp only
    rw [f34 q (by omega) (by omega), zNw_ne (by omega), f30 q (by omega) (by omega), zNw_ne (by omega), f26 q (by omega) (by omega), zNw_ne (by omega), f22 q (by omega) (by omega), zNw_ne (by omega), f18 q (by omega) (by omega), zNw_ne (by omega), f14 q (by omega) (by omega), zNw_ne (by omega), zup2_ne (by omega), zup2_ne (by omega), zNw_ne (by omega)]
def iS_sides0 (L : Nat) : List (Nat × Nat) := [(100, 16), (100, L), (7, 10), (5, 3), (100, 8), (3, 3), (100, 8), (5, 3), (100, 8), (3, 3), (100, 8), (1, 3), (104, 6), (5, 3), (100, 8), (3, 3), (100, 8), (5, 3), (100, 8), (3, 3), (100, 8), (5, 3), (100, 8), (3, 3), (100, 8), (5, 3), (100, 8), (3, 3), (100, 8), (5, 3), (100, 8), (3, 3), (100, 8), (5, 3), (100, 8), (3, 3), (100, 8), (4, 6)]
def iR_sides0 : List (List (Option Nat)) := [[], [], [some 3, some 7, some 11, none, none, none, none, none, none, none], [none, some 4, some 5], [], [none, none, some 6], [], [none, some 8, some 9], [], [none, none, some 10], [], [some 12, none, none], [some 13, some 17, some 21, some 25, some 29, some 33], [none, some 14, some 15], [], [none, none, some 16], [], [none, some 18, some 19], [], [none, none, some 20], [], [none, some 22, some 23], [], [none, none, some 24], [], [none, some 26, some 27], [], [none, none, some 28], [], [none, some 30, some 31], [], [none, none, some 32], [], [none, some 34, some 35], [], [none, none, some 36], [], [none, none, none, none, none, none]]
def iS_sides1 (L : Nat) : List (Nat × Nat) := [(100, 16), (100, L), (7, 10), (5, 3), (100, 8), (3, 3), (100, 8), (5, 3), (100, 8), (3, 3), (100, 8), (1, 3), (104, 6), (5, 3), (100, 8), (3, 3), (100, 8), (5, 3), (100, 8), (3, 3), (100, 8), (5, 3), (100, 8), (3, 3), (100, 8), (5, 3), (100, 8), (3, 3), (100, 8), (5, 3), (100, 8), (3, 3), (100, 8), (5, 3), (100, 8), (3, 3), (100, 8), (4, 6), (100, 8), (100, 32), (103, 32), (100, 32), (100, 32), (100, 32), (100, 32), (100, 32), (100, 32), (100, 32), (100, 32), (100, 32), (100, 32), (100, 32), (100, 32), (100, 32), (100, 32), (100, 32), (100, 32), (100, 32), (100, 32), (100, 32), (100, 32), (100, 32), (100, 32), (100, 32), (100, 32), (100, 32), (100, 32), (100, 32), (100, 32), (100, 32), (100, 32), (100, 32), (100, 32), (100, 32), (100, 8)]
def iR_sides1 : List (List (Option Nat)) := [[], [], [some 3, some 7, some 11, none, none, none, none, none, none, none], [none, some 4, some 5], [], [none, none, some 6], [], [none, some 8, some 9], [], [none, none, some 10], [], [some 12, none, none], [some 13, some 17, some 21, some 25, some 29, some 33], [none, some 14, some 15], [], [none, none, some 16], [], [none, some 18, some 19], [], [none, none, some 20], [], [none, some 22, some 23], [], [none, none, some 24], [], [none, some 26, some 27], [], [none, none, some 28], [], [none, some 30, some 31], [], [none, none, some 32], [], [none, some 34, some 35], [], [none, none, some 36], [], [none, some 38, some 39, some 40, some 73, some 74], [], [], [some 41, some 42, some 43, some 44, some 45, some 46, some 47, some 48, some 49, some 50, some 51, some 52, some 53, some 54, some 55, some 56, some 57, some 58, some 59, some 60, some 61, some 62, some 63, some 64, some 65, some 66, some 67, some 68, some 69, some 70, some 71, some 72], [], [], [], [], [], [], [], [], [], [], [], [], [], [], [], [], [], [], [], [], [], [], [], [], [], [], [], [], [], [], [], [], [], []]
theorem i_sides {L d : Nat} {I : zI} : GD (d + 3) k_X4_init 0 [some (vR 37)] [] (iS_sides0 L, iR_sides0, I) (fun r m => r = none ∧ m.1 = iS_sides1 L ∧ m.2.1 = iR_sides1 ∧ m.2.2 37 0 = 0 ∧ ∀ q, q < 37 → m.2.2 q = I q) := by
  refine e_l 1 rfl rfl ?_
  refine e_obj 4 rfl (by decide) ?_
  refine e_l 5 rfl rfl ?_
  refine e_p 6 rfl rfl ?_
  refine e_wi rfl rfl ⟨⟨by decide, by decide, by decide⟩, by decide⟩ ?_
  refine e_l 10 rfl rfl ?_
  refine e_p 12 rfl rfl ?_
  refine e_newa 14 38 8 100 rfl (Or.inl ⟨rfl, rfl⟩) rfl (by decide) ?_
  refine e_wr [none, none, none, none, none, none] rfl rfl ⟨⟨by decide, by decide, by decide⟩, by decide⟩ rfl (by decide) ?_
  refine e_l 18 rfl rfl ?_
  refine e_p 20 rfl rfl ?_
  refine e_newa 22 39 32 100 rfl (Or.inl ⟨rfl, rfl⟩) rfl (by decide) ?_
  refine e_wr [none, some 38, none, none, none, none] rfl rfl ⟨⟨by decide, by decide, by decide⟩, by decide⟩ rfl (by decide) ?_
  refine e_l 26 rfl rfl ?_
  refine e_p 28 rfl rfl ?_
  refine e_p 30 rfl rfl ?_
  refine e_multi 34 40 32 32 rfl rfl (by decide) (by decide) (fun J40 hJ40 => ?_)
  refine e_wr [none, some 38, some 39, none, none, none] rfl rfl ⟨⟨by decide, by decide, by decide⟩, by decide⟩ rfl (by decide) ?_
  refine e_l 38 rfl rfl ?_
  refine e_p 40 rfl rfl ?_
  refine e_newa 42 73 32 100 rfl (Or.inl ⟨rfl, rfl⟩) rfl (by decide) ?_
  refine e_wr [none, some 38, some 39, some 40, none, none] rfl rfl ⟨⟨by decide, by decide, by decide⟩, by decide⟩ rfl (by decide) ?_
  refine e_l 46 rfl rfl ?_
  refine e_p 48 rfl rfl ?_
  refine e_newa 50 74 8 100 rfl (Or.inl ⟨rfl, rfl⟩) rfl (by decide) ?_
  refine e_wr [none, some 38, some 39, some 40, some 73, none] rfl rfl ⟨⟨by decide, by decide, by decide⟩, by decide⟩ rfl (by decide) ?_
  refine e_ret rfl rfl ⟨rfl, rfl, rfl, ?_, fun q hq => ?_⟩
  · dsimp only
    rw [zNw_ne (by decide), zNw_ne (by decide), hJ40 37 (by decide), zNw_ne (by decide), zNw_ne (by decide), zup2_at]
  · dsimp only
    rw [zNw_ne (by omega), zNw_ne (by omega), hJ40 q (by omega), zNw_ne (by omega), zNw_ne (by omega), zup2_ne (by omega)]
def iS_arr0 (L : Nat) : List (Nat × Nat) := [(100, 16), (100, L), (7, 10), (5, 3), (100, 8), (3, 3), (100, 8), (5, 3), (100, 8), (3, 3), (100, 8), (1, 3), (104, 6), (5, 3), (100, 8), (3, 3), (100, 8), (5, 3), (100, 8), (3, 3), (100, 8), (5, 3), (100, 8), (3, 3), (100, 8), (5, 3), (100, 8), (3, 3), (100, 8), (5, 3), (100, 8), (3, 3), (100, 8), (5, 3), (100, 8), (3, 3), (100, 8), (4, 6), (100, 8), (100, 32), (103, 32), (100, 32), (100, 32), (100, 32), (100, 32), (100, 32), (100, 32), (100, 32), (100, 32), (100, 32), (100, 32), (100, 32), (100, 32), (100, 32), (100, 32), (100, 32), (100, 32), (100, 32), (100, 32), (100, 32), (100, 32), (100, 32), (100, 32), (100, 32), (100, 32), (100, 32), (100, 32), (100, 32), (100, 32), (100, 32), (100, 32), (100, 32), (100, 32), (100, 32), (100, 8), (0, 6)]
def iR_arr0 : List (List (Option Nat)) := [[], [], [some 3, some 7, some 11, some 37, none, none, none, none, none, none], [none, some 4, some 5], [], [none, none, some 6], [], [none, some 8, some 9], [], [none, none, some 10], [], [some 12, none, none], [some 13, some 17, some 21, some 25, some 29, some 33], [none, some 14, some 15], [], [none, none, some 16], [], [none, some 18, some 19], [], [none, none, some 20], [], [none, some 22, some 23], [], [none, none, some 24], [], [none, some 26, some 27], [], [none, none, some 28], [], [none, some 30, some 31], [], [none, none, some 32], [], [none, some 34, some 35], [], [none, none, some 36], [], [none, some 38, some 39, some 40, some 73, some 74], [], [], [some 41, some 42, some 43, some 44, some 45, some 46, some 47, some 48, some 49, some 50, some 51, some 52, some 53, some 54, some 55, some 56, some 57, some 58, some 59, some 60, some 61, some 62, some 63, some 64, some 65, some 66, some 67, some 68, some 69, some 70, some 71, some 72], [], [], [], [], [], [], [], [], [], [], [], [], [], [], [], [], [], [], [], [], [], [], [], [], [], [], [], [], [], [], [], [], [], [], [none, none, none, none, none, none]]
def iS_arr1 (L : Nat) : List (Nat × Nat) := [(100, 16), (100, L), (7, 10), (5, 3), (100, 8), (3, 3), (100, 8), (5, 3), (100, 8), (3, 3), (100, 8), (1, 3), (104, 6), (5, 3), (100, 8), (3, 3), (100, 8), (5, 3), (100, 8), (3, 3), (100, 8), (5, 3), (100, 8), (3, 3), (100, 8), (5, 3), (100, 8), (3, 3), (100, 8), (5, 3), (100, 8), (3, 3), (100, 8), (5, 3), (100, 8), (3, 3), (100, 8), (4, 6), (100, 8), (100, 32), (103, 32), (100, 32), (100, 32), (100, 32), (100, 32), (100, 32), (100, 32), (100, 32), (100, 32), (100, 32), (100, 32), (100, 32), (100, 32), (100, 32), (100, 32), (100, 32), (100, 32), (100, 32), (100, 32), (100, 32), (100, 32), (100, 32), (100, 32), (100, 32), (100, 32), (100, 32), (100, 32), (100, 32), (100, 32), (100, 32), (100, 32), (100, 32), (100, 32), (100, 32), (100, 8), (0, 6), (102, 8), (3, 3), (100, 8), (3, 3), (100, 8)]
def iR_arr1 : List (List (Option Nat)) := [[], [], [some 3, some 7, some 11, some 37, none, none, none, none, none, none], [none, some 4, some 5], [], [none, none, some 6], [], [none, some 8, some 9], [], [none, none, some 10], [], [some 12, none, none], [some 13, some 17, some 21, some 25, some 29, some 33], [none, some 14, some 15], [], [none, none, some 16], [], [none, some 18, some 19], [], [none, none, some 20], [], [none, some 22, some 23], [], [none, none, some 24], [], [none, some 26, some 27], [], [none, none, some 28], [], [none, some 30, some 31], [], [none, none, some 32], [], [none, some 34, some 35], [], [none, none, some 36], [], [none, some 38, some 39, some 40, some 73, some 74], [], [], [some 41, some 42, some 43, some 44, some 45, some 46, some 47, some 48, some 49, some 50, some 51, some 52, some 53, some 54, some 55, some 56, some 57, some 58, some 59, some 60, some 61, some 62, some 63, some 64, some 65, some 66, some 67, some 68, some 69, some 70, some 71, some 72], [], [], [], [], [], [], [], [], [], [], [], [], [], [], [], [], [], [], [], [], [], [], [], [], [], [], [], [], [], [], [], [], [], [], [none, none, some 76, some 77, some 79, none], [], [none, none, some 78], [], [none, none, some 80], []]
theorem i_arr {L d : Nat} {I : zI} : GD (d + 3) k_X0_init 0 [some (vR 75)] [] (iS_arr0 L, iR_arr0, I) (fun r m => r = none ∧ m.1 = iS_arr1 L ∧ m.2.1 = iR_arr1 ∧ ∀ q, q < 75 → m.2.2 q = I q) := by
  refine e_l 1 rfl rfl ?_
  refine e_obj 4 rfl (by decide) ?_
  refine e_l 5 rfl rfl ?_
  refine e_p 6 rfl rfl ?_
  refine e_wi rfl rfl ⟨⟨by decide, by decide, by decide⟩, by decide⟩ ?_
  refine e_l 10 rfl rfl ?_
  refine e_p 11 rfl rfl ?_
  refine e_wb rfl rfl ⟨⟨by decide, by decide, by decide⟩, by decide⟩ (Or.inl rfl) ?_
  refine e_l 15 rfl rfl ?_
  refine e_p 17 rfl rfl ?_
  refine e_newa 19 76 8 102 rfl (Or.inr (Or.inr ⟨rfl, rfl⟩)) rfl (by decide) ?_
  refine e_wr [none, none, none, none, none, none] rfl rfl ⟨⟨by decide, by decide, by decide⟩, by decide⟩ rfl (by decide) ?_
  refine e_l 23 rfl rfl ?_
  refine e_new 26 77 3 rfl (by decide) rfl rfl ?_
  refine e_p 27 rfl rfl ?_
  refine e_call rfl (i_rect (a := 77) (n := 78) rfl (by decide) (by decide) rfl rfl rfl) rfl (fun r m hm => ?_)
  obtain ⟨S78, R78, I78⟩ := m
  obtain ⟨rfl, h1, h2, f78a, f78b, f78c, f78⟩ := hm
  dsimp only at h1 h2 f78a f78b f78c f78
  subst h1
  subst h2
  refine e_wr [none, none, some 76, none, none, none] rfl rfl ⟨⟨by decide, by decide, by decide⟩, by decide⟩ rfl (by decide) ?_
  refine e_l 34 rfl rfl ?_
  refine e_new 37 79 3 rfl (by decide) rfl rfl ?_
  refine e_p 38 rfl rfl ?_
  refine e_call rfl (i_rect (a := 79) (n := 80) rfl (by decide) (by decide) rfl rfl rfl) rfl (fun r m hm => ?_)
  obtain ⟨S80, R80, I80⟩ := m
  obtain ⟨rfl, h1, h2, f80a, f80b, f80c, f80⟩ := hm
  dsimp only at h1 h2 f80a f80b f80c f80
  subst h1
  subst h2
  refine e_wr [none, none, some 76, some 77, none, none] rfl rfl ⟨⟨by decide, by decide, by decide⟩, by decide⟩ rfl (by decide) ?_
  refine e_l 45 rfl rfl ?_
  refine e_p 48 rfl rfl ?_
  refine e_wi rfl rfl ⟨⟨by decide, by decide, by decide⟩, by decide⟩ ?_
  refine e_ret rfl rfl ⟨rfl, rfl, rfl, fun q hq => ?_⟩
  · dsimp only
    rw [zup2_ne (by omega), f80 q (by omega) (by omega), zNw_ne (by omega), f78 q (by omega) (by omega), zNw_ne (by omega), zNw_ne (by omega), zup2_ne (by omega), zup2_ne (by omega)]
def iS_mk0 (L : Nat) : List (Nat × Nat) := [(100, 16), (100, L), (7, 10), (5, 3), (100, 8), (3, 3), (100, 8), (5, 3), (100, 8), (3, 3), (100, 8), (1, 3), (104, 6), (5, 3), (100, 8), (3, 3), (100, 8), (5, 3), (100, 8), (3, 3), (100, 8), (5, 3), (100, 8), (3, 3), (100, 8), (5, 3), (100, 8), (3, 3), (100, 8), (5, 3), (100, 8), (3, 3), (100, 8), (5, 3), (100, 8), (3, 3), (100, 8), (4, 6), (100, 8), (100, 32), (103, 32), (100, 32), (100, 32), (100, 32), (100, 32), (100, 32), (100, 32), (100, 32), (100, 32), (100, 32), (100, 32), (100, 32), (100, 32), (100, 32), (100, 32), (100, 32), (100, 32), (100, 32), (100, 32), (100, 32), (100, 32), (100, 32), (100, 32), (100, 32), (100, 32), (100, 32), (100, 32), (100, 32), (100, 32), (100, 32), (100, 32), (100, 32), (100, 32), (100, 32), (100, 8), (0, 6), (102, 8), (3, 3), (100, 8), (3, 3), (100, 8), (2, 2)]
def iR_mk0 : List (List (Option Nat)) := [[], [], [some 3, some 7, some 11, some 37, some 75, none, none, none, none, none], [none, some 4, some 5], [], [none, none, some 6], [], [none, some 8, some 9], [], [none, none, some 10], [], [some 12, none, none], [some 13, some 17, some 21, some 25, some 29, some 33], [none, some 14, some 15], [], [none, none, some 16], [], [none, some 18, some 19], [], [none, none, some 20], [], [none, some 22, some 23], [], [none, none, some 24], [], [none, some 26, some 27], [], [none, none, some 28], [], [none, some 30, some 31], [], [none, none, some 32], [], [none, some 34, some 35], [], [none, none, some 36], [], [none, some 38, some 39, some 40, some 73, some 74], [], [], [some 41, some 42, some 43, some 44, some 45, some 46, some 47, some 48, some 49, some 50, some 51, some 52, some 53, some 54, some 55, some 56, some 57, some 58, some 59, some 60, some 61, some 62, some 63, some 64, some 65, some 66, some 67, some 68, some 69, some 70, some 71, some 72], [], [], [], [], [], [], [], [], [], [], [], [], [], [], [], [], [], [], [], [], [], [], [], [], [], [], [], [], [], [], [], [], [], [], [none, none, some 76, some 77, some 79, none], [], [none, none, some 78], [], [none, none, some 80], [], [none, none]]
def iS_mk1 (L : Nat) : List (Nat × Nat) := [(100, 16), (100, L), (7, 10), (5, 3), (100, 8), (3, 3), (100, 8), (5, 3), (100, 8), (3, 3), (100, 8), (1, 3), (104, 6), (5, 3), (100, 8), (3, 3), (100, 8), (5, 3), (100, 8), (3, 3), (100, 8), (5, 3), (100, 8), (3, 3), (100, 8), (5, 3), (100, 8), (3, 3), (100, 8), (5, 3), (100, 8), (3, 3), (100, 8), (5, 3), (100, 8), (3, 3), (100, 8), (4, 6), (100, 8), (100, 32), (103, 32), (100, 32), (100, 32), (100, 32), (100, 32), (100, 32), (100, 32), (100, 32), (100, 32), (100, 32), (100, 32), (100, 32), (100, 32), (100, 32), (100, 32), (100, 32), (100, 32), (100, 32), (100, 32), (100, 32), (100, 32), (100, 32), (100, 32), (100, 32), (100, 32), (100, 32), (100, 32), (100, 32), (100, 32), (100, 32), (100, 32), (100, 32), (100, 32), (100, 32), (100, 8), (0, 6), (102, 8), (3, 3), (100, 8), (3, 3), (100, 8), (2, 2), (100, 100)]
def iR_mk1 : List (List (Option Nat)) := [[], [], [some 3, some 7, some 11, some 37, some 75, none, none, none, none, none], [none, some 4, some 5], [], [none, none, some 6], [], [none, some 8, some 9], [], [none, none, some 10], [], [some 12, none, none], [some 13, some 17, some 21, some 25, some 29, some 33], [none, some 14, some 15], [], [none, none, some 16], [], [none, some 18, some 19], [], [none, none, some 20], [], [none, some 22, some 23], [], [none, none, some 24], [], [none, some 26, some 27], [], [none, none, some 28], [], [none, some 30, some 31], [], [none, none, some 32], [], [none, some 34, some 35], [], [none, none, some 36], [], [none, some 38, some 39, some 40, some 73, some 74], [], [], [some 41, some 42, some 43, some 44, some 45, some 46, some 47, some 48, some 49, some 50, some 51, some 52, some 53, some 54, some 55, some 56, some 57, some 58, some 59, some 60, some 61, some 62, some 63, some 64, some 65, some 66, some 67, some 68, some 69, some 70, some 71, some 72], [], [], [], [], [], [], [], [], [], [], [], [], [], [], [], [], [], [], [], [], [], [], [], [], [], [], [], [], [], [], [], [], [], [], [none, none, some 76, some 77, some 79, none], [], [none, none, some 78], [], [none, none, some 80], [], [none, some 82], []]
theorem i_mk {L d : Nat} {I : zI} : GD (d + 3) k_X2_init 0 [some (vR 81)] [] (iS_mk0 L, iR_mk0, I) (fun r m => r = none ∧ m.1 = iS_mk1 L ∧ m.2.1 = iR_mk1 ∧ ∀ q, q < 81 → m.2.2 q = I q) := by
  refine e_l 1 rfl rfl ?_
  refine e_obj 4 rfl (by decide) ?_
  refine e_l 5 rfl rfl ?_
  refine e_p 6 rfl rfl ?_
  refine e_wl rfl rfl ⟨⟨by decide, by decide, by decide⟩, by decide⟩ ?_
  refine e_l 10 rfl rfl ?_
  refine e_p 12 rfl rfl ?_
  refine e_newa 14 82 100 100 rfl (Or.inl ⟨rfl, rfl⟩) rfl (by decide) ?_
  refine e_wr [none, none] rfl rfl ⟨⟨by decide, by decide, by decide⟩, by decide⟩ rfl (by decide) ?_
  refine e_ret rfl rfl ⟨rfl, rfl, rfl, fun q hq => ?_⟩
  · dsimp only
    rw [zNw_ne (by omega), zup2_ne (by omega)]
def iS_text0 (L : Nat) : List (Nat × Nat) := [(100, 16), (100, L), (7, 10), (5, 3), (100, 8), (3, 3), (100, 8), (5, 3), (100, 8), (3, 3), (100, 8), (1, 3), (104, 6), (5, 3), (100, 8), (3, 3), (100, 8), (5, 3), (100, 8), (3, 3), (100, 8), (5, 3), (100, 8), (3, 3), (100, 8), (5, 3), (100, 8), (3, 3), (100, 8), (5, 3), (100, 8), (3, 3), (100, 8), (5, 3), (100, 8), (3, 3), (100, 8), (4, 6), (100, 8), (100, 32), (103, 32), (100, 32), (100, 32), (100, 32), (100, 32), (100, 32), (100, 32), (100, 32), (100, 32), (100, 32), (100, 32), (100, 32), (100, 32), (100, 32), (100, 32), (100, 32), (100, 32), (100, 32), (100, 32), (100, 32), (100, 32), (100, 32), (100, 32), (100, 32), (100, 32), (100, 32), (100, 32), (100, 32), (100, 32), (100, 32), (100, 32), (100, 32), (100, 32), (100, 32), (100, 8), (0, 6), (102, 8), (3, 3), (100, 8), (3, 3), (100, 8), (2, 2), (100, 100), (6, 6)]
def iR_text0 : List (List (Option Nat)) := [[], [], [some 3, some 7, some 11, some 37, some 75, some 81, none, none, none, none], [none, some 4, some 5], [], [none, none, some 6], [], [none, some 8, some 9], [], [none, none, some 10], [], [some 12, none, none], [some 13, some 17, some 21, some 25, some 29, some 33], [none, some 14, some 15], [], [none, none, some 16], [], [none, some 18, some 19], [], [none, none, some 20], [], [none, some 22, some 23], [], [none, none, some 24], [], [none, some 26, some 27], [], [none, none, some 28], [], [none, some 30, some 31], [], [none, none, some 32], [], [none, some 34, some 35], [], [none, none, some 36], [], [none, some 38, some 39, some 40, some 73, some 74], [], [], [some 41, some 42, some 43, some 44, some 45, some 46, some 47, some 48, some 49, some 50, some 51, some 52, some 53, some 54, some 55, some 56, some 57, some 58, some 59, some 60, some 61, some 62, some 63, some 64, some 65, some 66, some 67, some 68, some 69, some 70, some 71, some 72], [], [], [], [], [], [], [], [], [], [], [], [], [], [], [], [], [], [], [], [], [], [], [], [], [], [], [], [], [], [], [], [], [], [], [none, none, some 76, some 77, some 79, none], [], [none, none, some 78], [], [none, none, some 80], [], [none, some 82], [], [none, none, none, none, none, none]]
def iS_text1 (L : Nat) : List (Nat × Nat) := [(100, 16), (100, L), (7, 10), (5, 3), (100, 8), (3, 3), (100, 8), (5, 3), (100, 8), (3, 3), (100, 8), (1, 3), (104, 6), (5, 3), (100, 8), (3, 3), (100, 8), (5, 3), (100, 8), (3, 3), (100, 8), (5, 3), (100, 8), (3, 3), (100, 8), (5, 3), (100, 8), (3, 3), (100, 8), (5, 3), (100, 8), (3, 3), (100, 8), (5, 3), (100, 8), (3, 3), (100, 8), (4, 6), (100, 8), (100, 32), (103, 32), (100, 32), (100, 32), (100, 32), (100, 32), (100, 32), (100, 32), (100, 32), (100, 32), (100, 32), (100, 32), (100, 32), (100, 32), (100, 32), (100, 32), (100, 32), (100, 32), (100, 32), (100, 32), (100, 32), (100, 32), (100, 32), (100, 32), (100, 32), (100, 32), (100, 32), (100, 32), (100, 32), (100, 32), (100, 32), (100, 32), (100, 32), (100, 32), (100, 32), (100, 8), (0, 6), (102, 8), (3, 3), (100, 8), (3, 3), (100, 8), (2, 2), (100, 100), (6, 6), (101, 150), (100, 50), (103, 50), (100, 4), (100, 4), (100, 4), (100, 4), (100, 4), (100, 4), (100, 4), (100, 4), (100, 4), (100, 4), (100, 4), (100, 4), (100, 4), (100, 4), (100, 4), (100, 4), (100, 4), (100, 4), (100, 4), (100, 4), (100, 4), (100, 4), (100, 4), (100, 4), (100, 4), (100, 4), (100, 4), (100, 4), (100, 4), (100, 4), (100, 4), (100, 4), (100, 4), (100, 4), (100, 4), (100, 4), (100, 4), (100, 4), (100, 4), (100, 4), (100, 4), (100, 4), (100, 4), (100, 4), (100, 4), (100, 4), (100, 4), (100, 4), (100, 4), (100, 4)]
def iR_text1 : List (List (Option Nat)) := [[], [], [some 3, some 7, some 11, some 37, some 75, some 81, none, none, none, none], [none, some 4, some 5], [], [none, none, some 6], [], [none, some 8, some 9], [], [none, none, some 10], [], [some 12, none, none], [some 13, some 17, some 21, some 25, some 29, some 33], [none, some 14, some 15], [], [none, none, some 16], [], [none, some 18, some 19], [], [none, none, some 20], [], [none, some 22, some 23], [], [none, none, some 24], [], [none, some 26, some 27], [], [none, none, some 28], [], [none, some 30, some 31], [], [none, none, some 32], [], [none, some 34, some 35], [], [none, none, some 36], [], [none, some 38, some 39, some 40, some 73, some 74], [], [], [some 41, some 42, some 43, some 44, some 45, some 46, some 47, some 48, some 49, some 50, some 51, some 52, some 53, some 54, some 55, some 56, some 57, some 58, some 59, some 60, some 61, some 62, some 63, some 64, some 65, some 66, some 67, some 68, some 69, some 70, some 71, some 72], [], [], [], [], [], [], [], [], [], [], [], [], [], [], [], [], [], [], [], [], [], [], [], [], [], [], [], [], [], [], [], [], [], [], [none, none, some 76, some 77, some 79, none], [], [none, none, some 78], [], [none, none, some 80], [], [none, some 82], [], [some 84, none, none, none, some 85, some 86], [], [], [some 87, some 88, some 89, some 90, some 91, some 92, some 93, some 94, some 95, some 96, some 97, some 98, some 99, some 100, some 101, some 102, some 103, some 104, some 105, some 106, some 107, some 108, some 109, some 110, some 111, some 112, some 113, some 114, some 115, some 116, some 117, some 118, some 119, some 120, some 121, some 122, some 123, some 124, some 125, some 126, some 127, some 128, some 129, some 130, some 131, some 132, some 133, some 134, some 135, some 136], [], [], [], [], [], [], [], [], [], [], [], [], [], [], [], [], [], [], [], [], [], [], [], [], [], [], [], [], [], [], [], [], [], [], [], [], [], [], [], [], [], [], [], [], [], [], [], [], [], []]
theorem i_text {L d : Nat} {I : zI} : GD (d + 3) k_X6_init 0 [some (vR 83)] [] (iS_text0 L, iR_text0, I) (fun r m => r = none ∧ m.1 = iS_text1 L ∧ m.2.1 = iR_text1 ∧ m.2.2 83 1 = 0 ∧ ∀ q, q < 83 → m.2.2 q = I q) := by
  refine e_l 1 rfl rfl ?_
  refine e_obj 4 rfl (by decide) ?_
  refine e_l 5 rfl rfl ?_
  refine e_p 8 rfl rfl ?_
  refine e_newa 10 84 150 101 rfl (Or.inr (Or.inl ⟨rfl, rfl⟩)) rfl (by decide) ?_
  refine e_wr [none, none, none, none, none, none] rfl rfl ⟨⟨by decide, by decide, by decide⟩, by decide⟩ rfl (by decide) ?_
  refine e_l 14 rfl rfl ?_
  refine e_p 15 rfl rfl ?_
  refine e_wi rfl rfl ⟨⟨by decide, by decide, by decide⟩, by decide⟩ ?_
  refine e_l 19 rfl rfl ?_
  refine e_p 20 rfl rfl ?_
  refine e_wi rfl rfl ⟨⟨by decide, by decide, by decide⟩, by decide⟩ ?_
  refine e_l 24 rfl rfl ?_
  refine e_p 25 rfl rfl ?_
  refine e_wi rfl rfl ⟨⟨by decide, by decide, by decide⟩, by decide⟩ ?_
  refine e_l 29 rfl rfl ?_
  refine e_p 31 rfl rfl ?_
  refine e_newa 33 85 50 100 rfl (Or.inl ⟨rfl, rfl⟩) rfl (by decide) ?_
  refine e_wr [some 84, none, none, none, none, none] rfl rfl ⟨⟨by decide, by decide, by decide⟩, by decide⟩ rfl (by decide) ?_
  refine e_l 37 rfl rfl ?_
  refine e_p 39 rfl rfl ?_
  refine e_p 40 rfl rfl ?_
  refine e_multi 44 86 50 4 rfl rfl (by decide) (by decide) (fun J86 hJ86 => ?_)
  refine e_wr [some 84, none, none, none, some 85, none] rfl rfl ⟨⟨by decide, by decide, by decide⟩, by decide⟩ rfl (by decide) ?_
  refine e_ret rfl rfl ⟨rfl, rfl, rfl, ?_, fun q hq => ?_⟩
  · dsimp only
    rw [hJ86 83 (by decide), zNw_ne (by decide), zup2_an (by decide), zup2_an (by decide), zup2_at]
  · dsimp only
    rw [hJ86 q (by omega), zNw_ne (by omega), zup2_ne (by omega), zup2_ne (by omega), zup2_ne (by omega), zNw_ne (by omega)]
def iS_join0 (L : Nat) : List (Nat × Nat) := [(100, 16), (100, L), (7, 10)]
def iR_join0 : List (List (Option Nat)) := [[], [], [none, none, none, none, none, none, none, none, none, none]]
def iS_join1 (L : Nat) : List (Nat × Nat) := [(100, 16), (100, L), (7, 10), (5, 3), (100, 8), (3, 3), (100, 8), (5, 3), (100, 8), (3, 3), (100, 8), (1, 3), (104, 6), (5, 3), (100, 8), (3, 3), (100, 8), (5, 3), (100, 8), (3, 3), (100, 8), (5, 3), (100, 8), (3, 3), (100, 8), (5, 3), (100, 8), (3, 3), (100, 8), (5, 3), (100, 8), (3, 3), (100, 8), (5, 3), (100, 8), (3, 3), (100, 8), (4, 6), (100, 8), (100, 32), (103, 32), (100, 32), (100, 32), (100, 32), (100, 32), (100, 32), (100, 32), (100, 32), (100, 32), (100, 32), (100, 32), (100, 32), (100, 32), (100, 32), (100, 32), (100, 32), (100, 32), (100, 32), (100, 32), (100, 32), (100, 32), (100, 32), (100, 32), (100, 32), (100, 32), (100, 32), (100, 32), (100, 32), (100, 32), (100, 32), (100, 32), (100, 32), (100, 32), (100, 32), (100, 8), (0, 6), (102, 8), (3, 3), (100, 8), (3, 3), (100, 8), (2, 2), (100, 100), (6, 6), (101, 150), (100, 50), (103, 50), (100, 4), (100, 4), (100, 4), (100, 4), (100, 4), (100, 4), (100, 4), (100, 4), (100, 4), (100, 4), (100, 4), (100, 4), (100, 4), (100, 4), (100, 4), (100, 4), (100, 4), (100, 4), (100, 4), (100, 4), (100, 4), (100, 4), (100, 4), (100, 4), (100, 4), (100, 4), (100, 4), (100, 4), (100, 4), (100, 4), (100, 4), (100, 4), (100, 4), (100, 4), (100, 4), (100, 4), (100, 4), (100, 4), (100, 4), (100, 4), (100, 4), (100, 4), (100, 4), (100, 4), (100, 4), (100, 4), (100, 4), (100, 4), (100, 4), (100, 4)]
def iR_join1 : List (List (Option Nat)) := [[], [], [some 3, some 7, some 11, some 37, some 75, some 81, some 83, none, none, none], [none, some 4, some 5], [], [none, none, some 6], [], [none, some 8, some 9], [], [none, none, some 10], [], [some 12, none, none], [some 13, some 17, some 21, some 25, some 29, some 33], [none, some 14, some 15], [], [none, none, some 16], [], [none, some 18, some 19], [], [none, none, some 20], [], [none, some 22, some 23], [], [none, none, some 24], [], [none, some 26, some 27], [], [none, none, some 28], [], [none, some 30, some 31], [], [none, none, some 32], [], [none, some 34, some 35], [], [none, none, some 36], [], [none, some 38, some 39, some 40, some 73, some 74], [], [], [some 41, some 42, some 43, some 44, some 45, some 46, some 47, some 48, some 49, some 50, some 51, some 52, some 53, some 54, some 55, some 56, some 57, some 58, some 59, some 60, some 61, some 62, some 63, some 64, some 65, some 66, some 67, some 68, some 69, some 70, some 71, some 72], [], [], [], [], [], [], [], [], [], [], [], [], [], [], [], [], [], [], [], [], [], [], [], [], [], [], [], [], [], [], [], [], [], [], [none, none, some 76, some 77, some 79, none], [], [none, none, some 78], [], [none, none, some 80], [], [none, some 82], [], [some 84, none, none, none, some 85, some 86], [], [], [some 87, some 88, some 89, some 90, some 91, some 92, some 93, some 94, some 95, some 96, some 97, some 98, some 99, some 100, some 101, some 102, some 103, some 104, some 105, some 106, some 107, some 108, some 109, some 110, some 111, some 112, some 113, some 114, some 115, some 116, some 117, some 118, some 119, some 120, some 121, some 122, some 123, some 124, some 125, some 126, some 127, some 128, some 129, some 130, some 131, some 132, some 133, some 134, some 135, some 136], [], [], [], [], [], [], [], [], [], [], [], [], [], [], [], [], [], [], [], [], [], [], [], [], [], [], [], [], [], [], [], [], [], [], [], [], [], [], [], [], [], [], [], [], [], [], [], [], [], []]
/-- what the class's constructor leaves -/
def JP (I : zI) (m : zI) : Prop := (m 3 0 = 0 ∧ (∀ j, m 4 j = 0) ∧ m 5 0 = 4 ∧ m 5 1 = 2 ∧ ∀ j, j < 8 → m 6 j = -1) ∧ (m 11 1 = 0 ∧ m 11 2 = 0) ∧ m 37 0 = 0 ∧ m 83 1 = 0 ∧ (m 2 7 = 0 ∧ m 2 8 = 0 ∧ m 2 9 = 0) ∧ ∀ q, q < 2 → m q = I q
theorem i_join {L d : Nat} {I : zI} : GD (d + 4) k_X7_init 0 [some (vR 2)] [] (iS_join0 L, iR_join0, I) (fun r m => r = none ∧ m.1 = iS_join1 L ∧ m.2.1 = iR_join1 ∧ JP I m.2.2) := by
  refine e_l 1 rfl rfl ?_
  refine e_obj 4 rfl (by decide) ?_
  refine e_l 5 rfl rfl ?_
  refine e_new 8 3 3 rfl (by decide) rfl rfl ?_
  refine e_p 9 rfl rfl ?_
  refine e_call rfl (i_state (a := 3) (n := 4) rfl (by decide) (by decide) rfl rfl rfl) rfl (fun r m hm => ?_)
  obtain ⟨S4, R4, I4⟩ := m
  obtain ⟨rfl, h1, h2, f4a, f4b, f4c, f4d, f4e, f4⟩ := hm
  dsimp only at h1 h2 f4a f4b f4c f4d f4e f4
  subst h1
  subst h2
  refine e_wr [none, none, none, none, none, none, none, none, none, none] rfl rfl ⟨⟨by decide, by decide, by decide⟩, by decide⟩ rfl (by decide) ?_
  refine e_l 16 rfl rfl ?_
  refine e_new 19 7 3 rfl (by decide) rfl rfl ?_
  refine e_p 20 rfl rfl ?_
  refine e_call rfl (i_state (a := 7) (n := 8) rfl (by decide) (by decide) rfl rfl rfl) rfl (fun r m hm => ?_)
  obtain ⟨S8, R8, I8⟩ := m
  obtain ⟨rfl, h1, h2, f8a, f8b, f8c, f8d, f8e, f8⟩ := hm
  dsimp only at h1 h2 f8a f8b f8c f8d f8e f8
  subst h1
  subst h2
  refine e_wr [some 3, none, none, none, none, none, none, none, none, none] rfl rfl ⟨⟨by decide, by decide, by decide⟩, by decide⟩ rfl (by decide) ?_
  refine e_l 27 rfl rfl ?_
  refine e_new 30 11 3 rfl (by decide) rfl rfl ?_
  refine e_p 31 rfl rfl ?_
  refine e_call rfl (i_hist (L := L)) rfl (fun r m hm => ?_)
  obtain ⟨S12, R12, I12⟩ := m
  obtain ⟨rfl, h1, h2, f12a, f12b, f12⟩ := hm
  dsimp only at h1 h2 f12a f12b f12
  subst h1
  subst h2
  refine e_wr [some 3, some 7, none, none, none, none, none, none, none, none] rfl rfl ⟨⟨by decide, by decide, by decide⟩, by decide⟩ rfl (by decide) ?_
  refine e_l 38 rfl rfl ?_
  refine e_new 41 37 6 rfl (by decide) rfl rfl ?_
  refine e_p 42 rfl rfl ?_
  refine e_call rfl (i_sides (L := L)) rfl (fun r m hm => ?_)
  obtain ⟨S38, R38, I38⟩ := m
  obtain ⟨rfl, h1, h2, f38a, f38⟩ := hm
  dsimp only at h1 h2 f38a f38
  subst h1
  subst h2
  refine e_wr [some 3, some 7, some 11, none, none, none, none, none, none, none] rfl rfl ⟨⟨by decide, by decide, by decide⟩, by decide⟩ rfl (by decide) ?_
  refine e_l 49 rfl rfl ?_
  refine e_new 52 75 6 rfl (by decide) rfl rfl ?_
  refine e_p 53 rfl rfl ?_
  refine e_call rfl (i_arr (L := L)) rfl (fun r m hm => ?_)
  obtain ⟨S76, R76, I76⟩ := m
  obtain ⟨rfl, h1, h2, f76⟩ := hm
  dsimp only at h1 h2  f76
  subst h1
  subst h2
  refine e_wr [some 3, some 7, some 11, some 37, none, none, none, none, none, none] rfl rfl ⟨⟨by decide, by decide, by decide⟩, by decide⟩ rfl (by decide) ?_
  refine e_l 60 rfl rfl ?_
  refine e_new 63 81 2 rfl (by decide) rfl rfl ?_
  refine e_p 64 rfl rfl ?_
  refine e_call rfl (i_mk (L := L)) rfl (fun r m hm => ?_)
  obtain ⟨S82, R82, I82⟩ := m
  obtain ⟨rfl, h1, h2, f82⟩ := hm
  dsimp only at h1 h2  f82
  subst h1
  subst h2
  refine e_wr [some 3, some 7, some 11, some 37, some 75, none, none, none, none, none] rfl rfl ⟨⟨by decide, by decide, by decide⟩, by decide⟩ rfl (by decide) ?_
  refine e_l 71 rfl rfl ?_
  refine e_new 74 83 6 rfl (by decide) rfl rfl ?_
  refine e_p 75 rfl rfl ?_
  refine e_call rfl (i_text (L := L)) rfl (fun r m hm => ?_)
  obtain ⟨S84, R84, I84⟩ := m
  obtain ⟨rfl, h1, h2, f84a, f84⟩ := hm
  dsimp only at h1 h2 f84a f84
  subst h1
  subst h2
  refine e_wr [some 3, some 7, some 11, some 37, some 75, some 81, none, none, none, none] rfl rfl ⟨⟨by decide, by decide, by decide⟩, by decide⟩ rfl (by decide) ?_
  refine e_l 82 rfl rfl ?_
  refine e_p 83 rfl rfl ?_
  refine e_wi rfl rfl ⟨⟨by decide, by decide, by decide⟩, by decide⟩ ?_
  refine e_l 87 rfl rfl ?_
  refine e_p 88 rfl rfl ?_
  refine e_wi rfl rfl ⟨⟨by decide, by decide, by decide⟩, by decide⟩ ?_
  refine e_l 92 rfl rfl ?_
  refine e_p 93 rfl rfl ?_
  refine e_wi rfl rfl ⟨⟨by decide, by decide, by decide⟩, by decide⟩ ?_
  refine e_ret rfl rfl ⟨rfl, rfl, rfl, ⟨?_, fun j => ?_, ?_, ?_, fun j hj => ?_⟩, ⟨?_, ?_⟩, ?_, ?_, ⟨?_, ?_, ?_⟩, fun q hq => ?_⟩
  · dsimp only
    rw [zup2_ne (by decide), zup2_ne (by decide), zup2_ne (by decide), f84 3 (by decide), zNw_ne (by decide), f82 3 (by decide), zNw_ne (by decide), f76 3 (by decide), zNw_ne (by decide), f38 3 (by decide), zNw_ne (by decide), f12 3 (by decide), zNw_ne (by decide), f8 3 (by decide) (by decide), zNw_ne (by decide)]
    exact f4a
  · dsimp only
    rw [zup2_ne (by decide), zup2_ne (by decide), zup2_ne (by decide), f84 4 (by decide), zNw_ne (by decide), f82 4 (by decide), zNw_ne (by decide), f76 4 (by decide), zNw_ne (by decide), f38 4 (by decide), zNw_ne (by decide), f12 4 (by decide), zNw_ne (by decide), f8 4 (by decide) (by decide), zNw_ne (by decide)]
    exact f4b j
  · dsimp only
    rw [zup2_ne (by decide), zup2_ne (by decide), zup2_ne (by decide), f84 5 (by decide), zNw_ne (by decide), f82 5 (by decide), zNw_ne (by decide), f76 5 (by decide), zNw_ne (by decide), f38 5 (by decide), zNw_ne (by decide), f12 5 (by decide), zNw_ne (by decide), f8 5 (by decide) (by decide), zNw_ne (by decide)]
    exact f4c
  · dsimp only
    rw [zup2_ne (by decide), zup2_ne (by decide), zup2_ne (by decide), f84 5 (by decide), zNw_ne (by decide), f82 5 (by decide), zNw_ne (by decide), f76 5 (by decide), zNw_ne (by decide), f38 5 (by decide), zNw_ne (by decide), f12 5 (by decide), zNw_ne (by decide), f8 5 (by decide) (by decide), zNw_ne (by decide)]
    exact f4d
  · dsimp only
    rw [zup2_ne (by decide), zup2_ne (by decide), zup2_ne (by decide), f84 6 (by decide), zNw_ne (by decide), f82 6 (by decide), zNw_ne (by decide), f76 6 (by decide), zNw_ne (by decide), f38 6 (by decide), zNw_ne (by decide), f12 6 (by decide), zNw_ne (by decide), f8 6 (by decide) (by decide), zNw_ne (by decide)]
    exact f4e j hj
  · dsimp only
    rw [zup2_ne (by decide), zup2_ne (by decide), zup2_ne (by decide), f84 11 (by decide), zNw_ne (by decide), f82 11 (by decide), zNw_ne (by decide), f76 11 (by decide), zNw_ne (by decide), f38 11 (by decide), zNw_ne (by decide)]
    exact f12a
  · dsimp only
    rw [zup2_ne (by decide), zup2_ne (by decide), zup2_ne (by decide), f84 11 (by decide), zNw_ne (by decide), f82 11 (by decide), zNw_ne (by decide), f76 11 (by decide), zNw_ne (by decide), f38 11 (by decide), zNw_ne (by decide)]
    exact f12b
  · dsimp only
    rw [zup2_ne (by decide), zup2_ne (by decide), zup2_ne (by decide), f84 37 (by decide), zNw_ne (by decide), f82 37 (by decide), zNw_ne (by decide), f76 37 (by decide), zNw_ne (by decide)]
    exact f38a
  · dsimp only
    rw [zup2_ne (by decide), zup2_ne (by decide), zup2_ne (by decide)]
    exact f84a
  · dsimp only
    rw [zup2_an (by decide), zup2_an (by decide), zup2_at]
  · dsimp only
    rw [zup2_an (by decide), zup2_at]
  · dsimp only
    rw [zup2_at]
  · dsimp only
    rw [zup2_ne (by omega), zup2_ne (by omega), zup2_ne (by omega), f84 q (by omega), zNw_ne (by omega), f82 q (by omega), zNw_ne (by omega), f76 q (by omega), zNw_ne (by omega), f38 q (by omega), zNw_ne (by omega), f12 q (by omega), zNw_ne (by omega), f8 q (by omega) (by omega), zNw_ne (by omega), f4 q (by omega) (by omega), zNw_ne (by omega)]
