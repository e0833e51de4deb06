/-! the pure machine's step is the machine's -/
theorem z_catT {v : zV} {r : List zV} {n : Nat} (h : zcats (v :: r) ≤ n) : zcats r ≤ n := by
  unfold zcats at h ⊢
  rw [List.map_cons, List.sum_cons] at h
  omega
theorem z_b1 {x : Int} (h : n32 x = 0 ∨ n32 x = 1) : narrow .boolean (.int (Int32.ofInt x)) = .int (Int32.ofInt x) := by
  rcases h with h2 | h2
  · have e1 : Int32.ofInt x = 0 := Int32.toInt_inj.mp h2
    rw [e1]; decide +kernel
  · have e1 : Int32.ofInt x = 1 := Int32.toInt_inj.mp h2
    rw [e1]; decide +kernel
theorem z_b2 {x : Int} (h : n32 x = 0 ∨ n32 x = 1) : fits .boolean (.int (Int32.ofInt x)) = true := by
  rcases h with h2 | h2
  · have e1 : Int32.ofInt x = 0 := Int32.toInt_inj.mp h2
    rw [e1]; decide +kernel
  · have e1 : Int32.ofInt x = 1 := Int32.toInt_inj.mp h2
    rw [e1]; decide +kernel
theorem z_lkp {pc : Nat} {df : Int} {ps : Array (Int × Int)} (h0 : 0 ≤ (pc : Int) + df) (h : (ps.all fun o => decide (0 ≤ (pc : Int) + o.2)) = true) (x : Int) : 0 ≤ (pc : Int) + Op.lookupswitch.offset ps.toList df x := by
  have hall : ∀ o ∈ ps.toList, 0 ≤ (pc : Int) + o.2 := fun o ho => of_decide_eq_true (Array.all_eq_true_iff_forall_mem.mp h o (Array.mem_def.mpr ho))
  revert hall
  generalize ps.toList = l
  intro hall
  induction l with
  | nil => exact h0
  | cons q r ih =>
    have h5 := hall q List.mem_cons_self
    have h6 := ih (fun o ho => hall o (List.mem_cons_of_mem _ ho))
    obtain ⟨a, b⟩ := q
    by_cases e : x = a
    · simpa [Op.lookupswitch.offset, e] using h5
    · simpa [Op.lookupswitch.offset, e, Ne.symm e] using h6
theorem z_setI {g : zG} {c9 n k : Nat} {rs : List (Option Nat)} {f : Nat → Nat → Int} {a : Nat} {x : Int} (h3 : ¬ zty c9 k = 3) (h2 : ¬ zty c9 k = 2) : ((List.range n).map (zfv g c9 rs (f a))).set k (mv g (.inl x)) = (List.range n).map (zfv g c9 rs (zup2 f a k x a)) := by
  apply List.ext_getElem?
  intro i
  by_cases hi : i < n
  · by_cases e : i = k
    · subst e
      rw [List.getElem?_set_self (by simp [hi]), List.getElem?_map, List.getElem?_range hi]
      show _ = some (zfv g c9 rs _ i)
      unfold zfv
      split <;> simp_all [zup2, zup, mv]
    · rw [List.getElem?_set_ne (Ne.symm e), List.getElem?_map, List.getElem?_map, List.getElem?_range hi]
      show some (zfv g c9 rs _ i) = some (zfv g c9 rs _ i)
      unfold zfv
      simp [zup2, zup, e]
  · rw [List.getElem?_eq_none (by simp; omega), List.getElem?_eq_none (by simp; omega)]
theorem z_setL {g : zG} {c9 n k : Nat} {rs : List (Option Nat)} {f : Nat → Nat → Int} {a : Nat} {x : Int} (h2 : zty c9 k = 2) : ((List.range n).map (zfv g c9 rs (f a))).set k (mv g (.inr (.inl x))) = (List.range n).map (zfv g c9 rs (zup2 f a k x a)) := by
  apply List.ext_getElem?
  intro i
  by_cases hi : i < n
  · by_cases e : i = k
    · subst e
      rw [List.getElem?_set_self (by simp [hi]), List.getElem?_map, List.getElem?_range hi]
      show _ = some (zfv g c9 rs _ i)
      unfold zfv
      rw [h2]
      simp [zup2, zup, mv]
    · rw [List.getElem?_set_ne (Ne.symm e), List.getElem?_map, List.getElem?_map, List.getElem?_range hi]
      show some (zfv g c9 rs _ i) = some (zfv g c9 rs _ i)
      unfold zfv
      simp [zup2, zup, e]
  · rw [List.getElem?_eq_none (by simp; omega), List.getElem?_eq_none (by simp; omega)]
theorem z_setR {g : zG} {c9 n k : Nat} {rs : List (Option Nat)} {f : Nat → Int} {b : Nat} (h3 : zty c9 k = 3) (hl : k < rs.length) : ((List.range n).map (zfv g c9 rs f)).set k (mv g (.inr (.inr (some b)))) = (List.range n).map (zfv g c9 (rs.set k (some b)) f) := by
  apply List.ext_getElem?
  intro i
  by_cases hi : i < n
  · by_cases e : i = k
    · subst e
      rw [List.getElem?_set_self (by simp [hi]), List.getElem?_map, List.getElem?_range hi]
      show _ = some (zfv g c9 _ _ i)
      unfold zfv
      rw [h3]
      show some (va_rf (some (zad g b))) = some (va_rf (Option.map (zad g) ((rs.set i (some b)).getD i none)))
      rw [List.getD_eq_getElem?_getD, List.getElem?_set_self hl]
      rfl
    · rw [List.getElem?_set_ne (Ne.symm e), List.getElem?_map, List.getElem?_map, List.getElem?_range hi]
      show some (zfv g c9 rs _ i) = some (zfv g c9 _ _ i)
      unfold zfv
      rw [List.getD_eq_getElem?_getD (l := rs.set k (some b)), List.getElem?_set_ne (Ne.symm e), ← List.getD_eq_getElem?_getD]
  · rw [List.getElem?_eq_none (by simp; omega), List.getElem?_eq_none (by simp; omega)]
section ZS2
variable {p : Program} {l : Launch} {e : Env} {R : Room} {s : State} {m : MethodId} {args : Array Value} {below : List Frame} {meth : Method} {c : Code} {Q : State → Prop} {y d n0 s0 : Nat} {g : zG} {pc : Nat} {lv lv' : zLv} {mm mm' : zMem} {st st' : List zV} {j : Option Nat}
theorem z_len1 {y pc : Nat} {q : zP} {n : Nat} (h : zON y pc q = decide (q.2.1 = n)) (hn : zON y pc q = true) : q.2.1 = n := by
  rw [h] at hn
  exact of_decide_eq_true hn
theorem s_putfieldR (C0 : zCX p R s m args meth c y d g) (Cs : s.heap.size = gB g + (n0 - 2) ∧ 2 ≤ n0) {ix c9 k n a b : Nat} {kd : Nat} {r : List zV} (hd : decode (zM_ y).2.1 pc = .ok (.putfield ix, 3)) (ha : 2 ≤ a) (hc : c9 < 8) (hk : k < n ∧ k < (mm.2.1.getD a []).length) (hn : k < zN c9) (hs : mm.1[a]? = some (c9, n))
    (hl1 : kd = 2 ∧ (zF c9 k).2.2.2 = true ∧ (zM_ y).1.name = "<init>" ∧ (zM_ y).1.cls = (zCl.getD c9 zCd).1 ∧ (Cond.fieldLink (zM_ y).1.cls ix (zF c9 k).1 (zF c9 k).2.1 (zF c9 k).2.2.1).before args s = true ∨ (zF c9 k).2.2.2 = false ∧ (kd = 1 ∧ va_Nw (.fieldLinkNest (zM_ y).1.cls ix (zF c9 k).1 (zF c9 k).2.1 (zF c9 k).2.2.1 "EdgeJoin") s ∨ (Cond.fieldLink (zM_ y).1.cls ix (zF c9 k).1 (zF c9 k).2.1 (zF c9 k).2.2.1).before args s = true))
    (hrk : refKind (zft c9 k) = true) (ht : zty c9 k = 3) (kk : zW p l e R s m args below meth c Q y g n0 s0 (pc + 3) lv r (mm.1, mm.2.1.set a ((mm.2.1.getD a []).set k (some b)), mm.2.2)) : zW p l e R s m args below meth c Q y g n0 s0 pc lv (.inr (.inr (some b)) :: .inr (.inr (some a)) :: r) mm := by
  intro H locs ls hl hR hS
  have hla : a < mm.2.1.length := by
    rw [hR.2.2.1]
    exact (List.getElem?_eq_some_iff.mp hs).1
  have eg : ∀ q, (mm.2.1.set a ((mm.2.1.getD a []).set k (some b))).getD q [] = if q = a then (mm.2.1.getD a []).set k (some b) else mm.2.1.getD q [] := fun q => by
    by_cases h : q = a
    · subst h
      rw [if_pos rfl, List.getD_eq_getElem?_getD, List.getElem?_set_self hla]
      rfl
    · rw [if_neg h, List.getD_eq_getElem?_getD, List.getElem?_set_ne (Ne.symm h), ← List.getD_eq_getElem?_getD]
  have f1 : narrow (zft c9 k) (mv g (.inr (.inr (some b)))) = mv g (.inr (.inr (some b))) := by
    revert hrk
    cases zft c9 k <;> intro h <;> first | rfl | cases h
  have f2 : fits (zft c9 k) (mv g (.inr (.inr (some b)))) = true := by
    revert hrk
    cases zft c9 k <;> intro h <;> first | rfl | cases h
  refine s_putfield C0 Cs (kd := kd) (v := .inr (.inr (some b))) (m' := (mm.1, mm.2.1.set a ((mm.2.1.getD a []).set k (some b)), mm.2.2)) hd ha hc hk.1 hn hs hl1 f1 f2 rfl (by simp) (fun q hq => ⟨by rw [eg, if_neg hq], rfl⟩) ?_ kk H locs ls hl hR hS
  rw [eg, if_pos rfl]
  exact z_setR ht hk.2
theorem zlx_sound (C0 : zCX p R s m args meth c y d g) {q : zP} (hd : decode (zM_ y).2.1 pc = .ok (q.1, q.2.1)) (hn : zON y pc q = true) (h : zlx q.1 lv st = some (lv', st')) (k : zW p l e R s m args below meth c Q y g n0 s0 (pc + q.2.1) lv' st' mm) : zW p l e R s m args below meth c Q y g n0 s0 pc lv st mm := by
  obtain ⟨i, len, A, B, K, Z⟩ := q
  dsimp only at hd k h
  cases i
  case iload_n k9 =>
    obtain rfl : len = 1 := z_len1 rfl hn
    simp only [zlx] at h
    split at h
    · rename_i x hx
      cases h
      exact s_iload_n C0 hd hx k
    · cases h
  case iload k9 =>
    obtain rfl : len = 2 := z_len1 rfl hn
    simp only [zlx] at h
    split at h
    · rename_i x hx
      cases h
      exact s_iload C0 hd hx k
    · cases h
  case lload_n k9 =>
    obtain rfl : len = 1 := z_len1 rfl hn
    simp only [zlx] at h
    split at h
    · rename_i x hx
      cases h
      exact s_lload_n C0 hd hx k
    · cases h
  case lload k9 =>
    obtain rfl : len = 2 := z_len1 rfl hn
    simp only [zlx] at h
    split at h
    · rename_i x hx
      cases h
      exact s_lload C0 hd hx k
    · cases h
  case aload_n k9 =>
    obtain rfl : len = 1 := z_len1 rfl hn
    simp only [zlx] at h
    split at h
    · rename_i x hx
      cases h
      exact s_aload_n C0 hd hx k
    · cases h
  case istore_n k9 =>
    obtain rfl : len = 1 := z_len1 rfl hn
    simp only [zlx] at h
    split at h
    · split at h
      · rename_i hk
        cases h
        exact s_istore_n C0 hd hk k
      · cases h
    · cases h
  case istore k9 =>
    obtain rfl : len = 2 := z_len1 rfl hn
    simp only [zlx] at h
    split at h
    · split at h
      · rename_i hk
        cases h
        exact s_istore C0 hd hk k
      · cases h
    · cases h
  case lstore_n k9 =>
    obtain rfl : len = 1 := z_len1 rfl hn
    simp only [zlx] at h
    split at h
    · split at h
      · rename_i hk
        cases h
        exact s_lstore_n C0 hd hk k
      · cases h
    · cases h
  case lstore k9 =>
    obtain rfl : len = 2 := z_len1 rfl hn
    simp only [zlx] at h
    split at h
    · split at h
      · rename_i hk
        cases h
        exact s_lstore C0 hd hk k
      · cases h
    · cases h
  case astore_n k9 =>
    obtain rfl : len = 1 := z_len1 rfl hn
    simp only [zlx] at h
    split at h
    · split at h
      · rename_i hk
        cases h
        exact s_astore_n C0 hd hk k
      · cases h
    · cases h
  case iinc k9 n =>
    obtain rfl : len = 3 := z_len1 rfl hn
    simp only [zlx] at h
    split at h
    · rename_i x hx
      split at h
      · rename_i hk
        cases h
        exact s_iinc C0 hd hx hk k
      · cases h
    · cases h
  all_goals cases h
theorem zpx_sound (C0 : zCX p R s m args meth c y d g) (Cs : s.heap.size = gB g + (n0 - 2) ∧ 2 ≤ n0) (hs0 : s0 ≤ zsl mm) {q : zP} (hy : y < 96) (hq : (pc, q) ∈ zC y) (h : zpx d pc q st mm = some (j, st', mm')) (hr1 : zln mm' - n0 ≤ R.cells) (hr2 : zsl mm' - s0 ≤ R.slots) (k : zW p l e R s m args below meth c Q y g n0 s0 (j.getD (pc + q.2.1)) lv st' mm') : zW p l e R s m args below meth c Q y g n0 s0 pc lv st mm := by
  obtain ⟨hd, hn, hw, hN⟩ := z_ins hy hq
  have wd : ∀ w ∈ zLW (zM_ y).1.cls q, w.before args s = true := fun w h => (z_ownw C0).1 w (hw w h)
  have wn : ∀ w ∈ zLN (zM_ y).1.cls q, va_Nw w s := fun w h => (z_ownw C0).2.2.1 w (hN w h)
  obtain ⟨i, len, A, B, K, Z⟩ := q
  dsimp only at hd k
  cases i
  case iconst n =>
    obtain rfl : len = 1 := z_len1 rfl hn
    simp only [zpx] at h
    cases h
    exact s_iconst C0 hd k
  case lconst n =>
    obtain rfl : len = 1 := z_len1 rfl hn
    simp only [zpx] at h
    cases h
    exact s_lconst C0 hd k
  case bipush n =>
    simp only [zpx] at h
    simp only [zON, Bool.and_eq_true, decide_eq_true_eq] at hn
    obtain ⟨hv, rfl⟩ := hn
    cases h
    exact s_bipush C0 hd hv k
  case sipush n =>
    simp only [zpx] at h
    simp only [zON, Bool.and_eq_true, decide_eq_true_eq] at hn
    obtain ⟨hv, rfl⟩ := hn
    cases h
    exact s_sipush C0 hd hv k
  case ldc ix =>
    obtain rfl : len = 2 := z_len1 rfl hn
    simp only [zpx] at h
    cases h
    exact s_ldc C0 hd (wd _ (by simp [zLW, zpK, zpA, zpB, zpZ])) k
  case ldc2_w ix =>
    obtain rfl : len = 3 := z_len1 rfl hn
    simp only [zpx] at h
    cases h
    exact s_ldc2 C0 hd (wd _ (by simp [zLW, zpK, zpA, zpB, zpZ])) k
  case iadd =>
    obtain rfl : len = 1 := z_len1 rfl hn
    simp only [zpx] at h
    split at h
    · cases h
      exact s_iadd C0 hd k
    · cases h
  case isub =>
    obtain rfl : len = 1 := z_len1 rfl hn
    simp only [zpx] at h
    split at h
    · cases h
      exact s_isub C0 hd k
    · cases h
  case imul =>
    obtain rfl : len = 1 := z_len1 rfl hn
    simp only [zpx] at h
    split at h
    · cases h
      exact s_imuln C0 hd k
    · cases h
      exact s_imul C0 hd k
    · cases h
  case ishl =>
    obtain rfl : len = 1 := z_len1 rfl hn
    simp only [zpx] at h
    split at h
    · cases h
      exact s_ishl C0 hd k
    · cases h
  case ishr =>
    obtain rfl : len = 1 := z_len1 rfl hn
    simp only [zpx] at h
    split at h
    · cases h
      exact s_ishr C0 hd k
    · cases h
  case iand =>
    obtain rfl : len = 1 := z_len1 rfl hn
    simp only [zpx] at h
    split at h
    · cases h
      exact s_iand C0 hd k
    · cases h
  case ior =>
    obtain rfl : len = 1 := z_len1 rfl hn
    simp only [zpx] at h
    split at h
    · cases h
      exact s_ior C0 hd k
    · cases h
  case ladd =>
    obtain rfl : len = 1 := z_len1 rfl hn
    simp only [zpx] at h
    split at h
    · cases h
      exact s_ladd C0 hd k
    · cases h
  case lmul =>
    obtain rfl : len = 1 := z_len1 rfl hn
    simp only [zpx] at h
    split at h
    · cases h
      exact s_lmul C0 hd k
    · cases h
  case lcmp =>
    obtain rfl : len = 1 := z_len1 rfl hn
    simp only [zpx] at h
    split at h
    · cases h
      exact s_lcmp C0 hd k
    · cases h
  case ineg =>
    obtain rfl : len = 1 := z_len1 rfl hn
    simp only [zpx] at h
    split at h
    · cases h
      exact s_ineg C0 hd k
    · cases h
  case i2l =>
    obtain rfl : len = 1 := z_len1 rfl hn
    simp only [zpx] at h
    split at h
    · cases h
      exact s_i2l C0 hd k
    · cases h
  case l2i =>
    obtain rfl : len = 1 := z_len1 rfl hn
    simp only [zpx] at h
    split at h
    · cases h
      exact s_l2i C0 hd k
    · cases h
  case i2b =>
    obtain rfl : len = 1 := z_len1 rfl hn
    simp only [zpx] at h
    split at h
    · cases h
      exact s_i2b C0 hd k
    · cases h
  case idiv =>
    obtain rfl : len = 1 := z_len1 rfl hn
    simp only [zpx] at h
    split at h
    · split at h
      · cases h
      · rename_i hz
        cases h
        exact s_idiv C0 hd hz k
    · cases h
  case irem =>
    obtain rfl : len = 1 := z_len1 rfl hn
    simp only [zpx] at h
    split at h
    · split at h
      · cases h
      · rename_i hz
        cases h
        exact s_irem C0 hd hz k
    · cases h
  case ldiv =>
    obtain rfl : len = 1 := z_len1 rfl hn
    simp only [zpx] at h
    split at h
    · split at h
      · cases h
      · rename_i hz
        cases h
        exact s_ldiv C0 hd hz k
    · cases h
  case lrem =>
    obtain rfl : len = 1 := z_len1 rfl hn
    simp only [zpx] at h
    split at h
    · split at h
      · cases h
      · rename_i hz
        cases h
        exact s_lrem C0 hd hz k
    · cases h
  case dup =>
    obtain rfl : len = 1 := z_len1 rfl hn
    simp only [zpx] at h
    split at h
    · cases h
      exact s_dup C0 hd rfl k
    · cases h
      exact s_dup C0 hd rfl k
    · cases h
  case dup2 =>
    obtain rfl : len = 1 := z_len1 rfl hn
    simp only [zpx] at h
    split at h
    · cases h
      exact s_dup2 C0 hd rfl rfl k
    · cases h
      exact s_dup2 C0 hd rfl rfl k
    · cases h
  case goto o =>
    simp only [zpx] at h
    simp only [zON, Bool.and_eq_true, decide_eq_true_eq] at hn
    obtain ⟨ht, rfl⟩ := hn
    cases h
    exact s_goto C0 hd ht k
  case ifCond cc o =>
    simp only [zpx] at h
    simp only [zON, Bool.and_eq_true, decide_eq_true_eq] at hn
    obtain ⟨ht, rfl⟩ := hn
    split at h
    · cases h
      cases cc
      · exact s_if_eq C0 hd ht k
      · exact s_if_ne C0 hd ht k
      · exact s_if_lt C0 hd ht k
      · exact s_if_ge C0 hd ht k
      · exact s_if_gt C0 hd ht k
      · exact s_if_le C0 hd ht k
    · cases h
  case if_icmp cc o =>
    simp only [zpx] at h
    simp only [zON, Bool.and_eq_true, decide_eq_true_eq] at hn
    obtain ⟨ht, rfl⟩ := hn
    split at h
    · cases h
      cases cc
      · exact s_ic_eq C0 hd ht k
      · exact s_ic_ne C0 hd ht k
      · exact s_ic_lt C0 hd ht k
      · exact s_ic_ge C0 hd ht k
      · exact s_ic_gt C0 hd ht k
      · exact s_ic_le C0 hd ht k
    · cases h
  case tableswitch df lo hi os =>
    simp only [zpx] at h
    simp only [zON, Bool.and_eq_true, decide_eq_true_eq] at hn
    split at h
    · split at h
      · rename_i hz
        cases h
        exact s_table C0 hd (Or.inl ⟨hz, rfl⟩) hn.1.1 k
      · rename_i hz
        split at h
        · rename_i o ho
          cases h
          have h5 := Array.all_eq_true_iff_forall_mem.mp hn.1.2 o (Array.mem_of_getElem? ho)
          exact s_table C0 hd (Or.inr ⟨hz, ho⟩) (of_decide_eq_true h5) k
        · cases h
    · cases h
  case lookupswitch df ps =>
    simp only [zpx] at h
    simp only [zON, Bool.and_eq_true, decide_eq_true_eq] at hn
    split at h
    · cases h
      refine s_lookup C0 hd hn.2 ?_ k
      exact z_lkp hn.1.1 hn.1.2 _
    · cases h
  case getfield ix =>
    simp only [zpx] at h
    simp only [zON, Bool.and_eq_true, decide_eq_true_eq] at hn
    obtain ⟨⟨rfl, hK⟩, hB⟩ := hn
    split at h
    · split at h
      · rename_i cc n hs
        split at h
        · rename_i hc
          obtain ⟨rfl, hc9, ha, hbn⟩ := hc
          cases h
          refine s_getfield C0 (kd := K) hd ha hc9 hbn hB hs ?_ k
          by_cases hK1 : K = 1
          · exact Or.inl ⟨hK1, wn _ (by simp [zLN, zpK, zpA, zpB, zpZ, hK1])⟩
          · exact Or.inr (wd _ (by simp [zLW, zpK, zpA, zpB, zpZ, hK1]))
        · cases h
      · cases h
    · cases h
  case putfield ix =>
    simp only [zpx] at h
    simp only [zON, Bool.and_eq_true, decide_eq_true_eq] at hn
    obtain ⟨⟨rfl, hK⟩, hB⟩ := hn
    split at h
    · split at h
      · rename_i v a r _ cc n hs
        split at h
        · rename_i hc
          obtain ⟨rfl, hc9, ha, hbn⟩ := hc
          have hz := zft_0 _ hc9 _ hB
          have hl1 : K = 2 ∧ (zF cc B).2.2.2 = true ∧ (zM_ y).1.name = "<init>" ∧ (zM_ y).1.cls = (zCl.getD cc zCd).1 ∧ (Cond.fieldLink (zM_ y).1.cls ix (zF cc B).1 (zF cc B).2.1 (zF cc B).2.2.1).before args s = true ∨ (zF cc B).2.2.2 = false ∧ (K = 1 ∧ va_Nw (.fieldLinkNest (zM_ y).1.cls ix (zF cc B).1 (zF cc B).2.1 (zF cc B).2.2.1 "EdgeJoin") s ∨ (Cond.fieldLink (zM_ y).1.cls ix (zF cc B).1 (zF cc B).2.1 (zF cc B).2.2.1).before args s = true) := by
            rcases hK with ⟨hK2, hf, hi, hcl⟩ | ⟨hK2, hf⟩
            · have hK2 : K = 2 := hK2
              exact Or.inl ⟨hK2, hf, hi, hcl, wd _ (by simp [zLW, zpK, zpA, zpB, zpZ, show ¬ K = 1 by omega])⟩
            · refine Or.inr ⟨hf, ?_⟩
              by_cases hK1 : K = 1
              · exact Or.inl ⟨hK1, wn _ (by simp [zLN, zpK, zpA, zpB, zpZ, hK1])⟩
              · exact Or.inr (wd _ (by simp [zLW, zpK, zpA, zpB, zpZ, hK1]))
          have hla : a < mm.1.length := (List.getElem?_eq_some_iff.mp hs).1
          split at h
          · rename_i x ht
            cases h
            exact s_putfield C0 Cs (kd := K) (v := .inl x) (m' := (mm.1, mm.2.1, zup2 mm.2.2 a B x)) hd ha hc9 hbn hB hs hl1 (by rw [hz.1 ht]; rfl) (by rw [hz.1 ht]; rfl) rfl rfl (fun q hq => ⟨rfl, by simp [zup2, hq]⟩) (z_setI (by rw [ht]; decide) (by rw [ht]; decide)) k
          · rename_i x ht
            split at h
            · rename_i hx
              cases h
              exact s_putfield C0 Cs (kd := K) (v := .inl x) (m' := (mm.1, mm.2.1, zup2 mm.2.2 a B x)) hd ha hc9 hbn hB hs hl1 (by rw [hz.2.1 ht]; exact z_b1 hx) (by rw [hz.2.1 ht]; exact z_b2 hx) rfl rfl (fun q hq => ⟨rfl, by simp [zup2, hq]⟩) (z_setI (by rw [ht]; decide) (by rw [ht]; decide)) k
            · cases h
          · rename_i x ht
            cases h
            exact s_putfield C0 Cs (kd := K) (v := .inr (.inl x)) (m' := (mm.1, mm.2.1, zup2 mm.2.2 a B x)) hd ha hc9 hbn hB hs hl1 (by rw [hz.2.2.1 ht]; rfl) (by rw [hz.2.2.1 ht]; rfl) rfl rfl (fun q hq => ⟨rfl, by simp [zup2, hq]⟩) (z_setL ht) k
          · rename_i b ht
            split at h
            · rename_i hlen
              cases h
              exact s_putfieldR C0 Cs (kd := K) (b := b) hd ha hc9 ⟨hbn, hlen⟩ hB hs hl1 (hz.2.2.2.1 ht) ht k
            · cases h
          · cases h
        · cases h
      · cases h
    · cases h
  case getstatic ix =>
    obtain rfl : len = 3 := z_len1 rfl hn
    simp only [zpx] at h
    cases h
    refine s_getstatic C0 hd ?_ k
    by_cases hK1 : K = 1
    · exact Or.inl (wn _ (by simp [zLN, zpK, zpA, zpB, zpZ, hK1]))
    · exact Or.inr (wd _ (by simp [zLW, zpK, zpA, zpB, zpZ, hK1]))
  case iaload =>
    obtain rfl : len = 1 := z_len1 rfl hn
    simp only [zpx] at h
    split at h
    · split at h
      · rename_i cc n hs
        split at h
        · rename_i hc
          obtain ⟨rfl, h0, h1⟩ := hc
          cases h
          exact s_iaload C0 hd hs h0 h1 k
        · cases h
      · cases h
    · cases h
  case baload =>
    obtain rfl : len = 1 := z_len1 rfl hn
    simp only [zpx] at h
    split at h
    · split at h
      · rename_i cc n hs
        split at h
        · rename_i hc
          obtain ⟨hcc, ha, h0, h1⟩ := hc
          cases h
          exact s_baload C0 hd hcc ha hs h0 h1 k
        · cases h
      · cases h
    · cases h
  case aaload =>
    obtain rfl : len = 1 := z_len1 rfl hn
    simp only [zpx] at h
    split at h
    · split at h
      · rename_i cc n hs
        split at h
        · rename_i hc
          obtain ⟨hcc, ha, h0, h1⟩ := hc
          cases h
          exact s_aaload C0 hd hcc ha hs h0 h1 k
        · cases h
      · cases h
    · cases h
  case iastore =>
    obtain rfl : len = 1 := z_len1 rfl hn
    simp only [zpx] at h
    split at h
    · split at h
      · rename_i cc n hs
        split at h
        · rename_i hc
          obtain ⟨rfl, ha, h0, h1⟩ := hc
          cases h
          exact s_iastore C0 Cs hd ha hs h0 h1 k
        · cases h
      · cases h
    · cases h
  case bastore =>
    obtain rfl : len = 1 := z_len1 rfl hn
    simp only [zpx] at h
    split at h
    · split at h
      · rename_i cc n hs
        split at h
        · rename_i hc
          obtain ⟨hcc, ha, h0, h1⟩ := hc
          cases h
          exact s_bastore C0 Cs hd hcc ha hs h0 h1 k
        · cases h
      · cases h
    · cases h
  case aastore =>
    obtain rfl : len = 1 := z_len1 rfl hn
    simp only [zpx] at h
    split at h
    · split at h
      · rename_i cc n cb nb hs hsb
        split at h
        · rename_i hc
          obtain ⟨rfl, rfl, ha, hb, h0, h1, h2⟩ := hc
          cases h
          exact s_aastore C0 Cs hd ha hb hs hsb h0 h1 (fun _ => h2) k
        · cases h
      · cases h
    · cases h
  case arraylength =>
    obtain rfl : len = 1 := z_len1 rfl hn
    simp only [zpx] at h
    split at h
    · split at h
      · rename_i cc n hs
        split at h
        · rename_i hc
          subst hc
          cases h
          exact s_arraylength C0 hd hs k
        · cases h
      · cases h
    · cases h
  case new ix =>
    obtain rfl : len = 3 := z_len1 rfl hn
    simp only [zpx] at h
    split at h
    · rename_i hc
      cases h
      exact s_new C0 Cs hs0 hd hc (wd _ (by simp [zLW, zpK, zpA, zpB, zpZ])) (wd _ (by simp [zLW, zpK, zpA, zpB, zpZ])) (wd _ (by simp [zLW, zpK, zpA, zpB, zpZ])) hr1 hr2 k
    · cases h
  case newarray t =>
    simp only [zpx] at h
    simp only [zON, Bool.and_eq_true, Bool.or_eq_true, decide_eq_true_eq] at hn
    obtain ⟨rfl, -⟩ := hn
    split at h
    · split at h
      · rename_i hc
        split at h
        · rename_i ht
          cases h
          exact s_newarray C0 Cs hs0 hd (wd _ (by simp [zLW, zpK, zpA, zpB, zpZ])) (Or.inl ⟨ht, rfl⟩) hc.1 hc.2 hr1 hr2 k
        · rename_i ht
          cases h
          exact s_newarray C0 Cs hs0 hd (wd _ (by simp [zLW, zpK, zpA, zpB, zpZ])) (Or.inr (Or.inl ⟨ht, rfl⟩)) hc.1 hc.2 hr1 hr2 k
        · rename_i ht
          cases h
          exact s_newarray C0 Cs hs0 hd (wd _ (by simp [zLW, zpK, zpA, zpB, zpZ])) (Or.inr (Or.inr ⟨ht, rfl⟩)) hc.1 hc.2 hr1 hr2 k
        · cases h
      · cases h
    · cases h
  case anewarray ix =>
    obtain rfl : len = 3 := z_len1 rfl hn
    simp only [zpx] at h
    split at h
    · split at h
      · rename_i hc
        cases h
        exact s_anewarray C0 Cs hs0 hd (wd _ (by simp [zLW, zpK, zpA, zpB, zpZ])) hc.1 hc.2 hr1 hr2 k
      · cases h
    · cases h
  case multianewarray ix dd =>
    simp only [zpx] at h
    simp only [zON, Bool.and_eq_true, decide_eq_true_eq] at hn
    obtain ⟨rfl, rfl⟩ := hn
    split at h
    · split at h
      · rename_i hc
        cases h
        exact s_multi C0 Cs hs0 rfl hd (wd _ (by simp [zLW, zpK, zpA, zpB, zpZ])) (wd _ (by simp [zLW, zpK, zpA, zpB, zpZ])) hc.1 hc.2.1 hc.2.2.1 hc.2.2.2 hr1 hr2 k
      · cases h
    · cases h
  case invokespecial ix =>
    simp only [zpx] at h
    simp only [zON, Bool.and_eq_true, decide_eq_true_eq] at hn
    obtain ⟨rfl, -⟩ := hn
    split at h
    · split at h
      · rename_i hc
        obtain ⟨hK, h1, h2⟩ := hc
        have hK : K = 10 := hK
        subst hK
        cases h
        exact s_objInit C0 hd h1 h2 (wd _ (by simp [zLW, zpK, zpA, zpB, zpZ])) (wd _ (by simp [zLW, zpK, zpA, zpB, zpZ])) (wd _ (by simp [zLW, zpK, zpA, zpB, zpZ])) k
      · cases h
    · cases h
  case invokestatic ix =>
    simp only [zpx] at h
    simp only [zON, Bool.and_eq_true, decide_eq_true_eq] at hn
    obtain ⟨rfl, -⟩ := hn
    split at h
    · rename_i hc
      obtain ⟨hc, h1⟩ := hc
      split at h
      · rename_i hK
        have hK : K = 11 := hK
        subst hK
        cases h
        exact s_abs C0 hd h1 (z_catT hc) hr1 hr2 (wd _ (by simp [zLW, zpK, zpA, zpB, zpZ])) (wd _ (by simp [zLW, zpK, zpA, zpB, zpZ])) (wd _ (by simp [zLW, zpK, zpA, zpB, zpZ])) (wd _ (by simp [zLW, zpK, zpA, zpB, zpZ])) k
      · rename_i hK
        have hK : K = 12 := hK
        subst hK
        cases h
        exact s_min C0 hd h1 (z_catT (z_catT hc)) hr1 hr2 (wd _ (by simp [zLW, zpK, zpA, zpB, zpZ])) (wd _ (by simp [zLW, zpK, zpA, zpB, zpZ])) (wd _ (by simp [zLW, zpK, zpA, zpB, zpZ])) (wd _ (by simp [zLW, zpK, zpA, zpB, zpZ])) k
      · rename_i hK
        have hK : K = 13 := hK
        subst hK
        split at h
        · rename_i ca na cb nb hsa hsb
          split at h
          · rename_i hq2
            obtain ⟨rfl, rfl, ha, hb, c1, c2, c3, c4, c5⟩ := hq2
            cases h
            exact s_arraycopy C0 Cs hd h1 (z_catT (z_catT (z_catT (z_catT (z_catT hc))))) ha hb hsa hsb c1 c2 c3 c4 c5 (wd _ (by simp [zLW, zpK, zpA, zpB, zpZ])) (wd _ (by simp [zLW, zpK, zpA, zpB, zpZ])) (wd _ (by simp [zLW, zpK, zpA, zpB, zpZ])) (wd _ (by simp [zLW, zpK, zpA, zpB, zpZ])) k
          · cases h
        · cases h
      · cases h
    · cases h
  all_goals cases h
end ZS2
