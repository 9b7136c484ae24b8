/-! THE READER of the class: a whole text -/
section PXV2
variable {d m pc n q a b c nx len kd j x lo ld : Nat} {tb : List (Nat × Nat)} {v : Value} {pl : px_L} {st : List Value} {I : px_HI} {J : px_HJ} {R : px_HR} {S : px_HS} {r : Option Value × px_G}
theorem e_nw (hT : px_T m pc = some (34, a, b, c, nx, tb, v)) (hn : n < 1000000) (k : px_ev (d + 1) m nx pl (.ref n :: st) (px_z I n 0) (px_z J n 0) (px_z R n none) (px_us S n (a, b)) (n + 1) (q + b) r) : px_ev (d + 1) m pc pl st I J R S n q r := by
  refine e_s ?_ k
  rw [px_1of hT rfl]
  have h : Nat.blt n 1000000 = true := Nat.ble_eq_true_of_le hn
  simp only [px_st, h, if_true]
theorem e_na (hT : px_T m pc = some (35, a, b, c, nx, tb, v)) (hx : x < 10000) (hn : n < 1000000) (k : px_ev (d + 1) m nx pl (.ref n :: st) (px_z I n 0) (px_z J n 0) (px_z R n none) (px_us S n (a, x)) (n + 1) (q + x) r) : px_ev (d + 1) m pc pl (.int (nI x) :: st) I J R S n q r := by
  refine e_s ?_ k
  rw [px_1of hT rfl]
  have h : Nat.blt n 1000000 = true := Nat.ble_eq_true_of_le hn
  have h2 : Nat.blt x 10000 = true := Nat.ble_eq_true_of_le hx
  have h3 : decide (¬ nI x < 0) = true := decide_eq_true (nI_pos (by omega))
  simp only [px_st, h, h2, h3, nI_clamp (show x < 2 ^ 31 by omega), Bool.and_self, if_true]
theorem e_ac {o dd sp dp kk : Nat} (hT : px_T m pc = some (48, a, b, c, nx, tb, v)) (hSo : S o = (100, lo)) (hSd : S dd = (100, ld)) (h1 : sp + kk ≤ lo) (h2 : dp + kk ≤ ld) (hlo : lo < 2 ^ 31) (hld : ld < 2 ^ 31) (hst : px_lo st = true) (k : px_ev (d + 1) m nx pl st (px_row I dd (va_cpy (I o) (I dd) sp dp kk)) J R S n q r) : px_ev (d + 1) m pc pl (.int (nI kk) :: .int (nI dp) :: .ref dd :: .int (nI sp) :: .ref o :: st) I J R S n q r := by
  refine e_s ?_ k
  rw [px_1of hT rfl]
  have g1 : decide (¬ nI sp < 0) = true := decide_eq_true (nI_pos (by omega))
  have g2 : decide (¬ nI dp < 0) = true := decide_eq_true (nI_pos (by omega))
  have g3 : decide (¬ nI kk < 0) = true := decide_eq_true (nI_pos (by omega))
  have g4 : Nat.ble (sp + kk) lo = true := Nat.ble_eq_true_of_le h1
  have g5 : Nat.ble (dp + kk) ld = true := Nat.ble_eq_true_of_le h2
  simp only [px_st, hSo, hSd, g1, g2, g3, nI_clamp (show sp < 2 ^ 31 by omega), nI_clamp (show dp < 2 ^ 31 by omega), nI_clamp (show kk < 2 ^ 31 by omega), g4, g5, hst, Bool.and_self, if_true]
  rfl
theorem us_eq {f : px_HS} {a : Nat} {v : Nat × Nat} : px_us f a v a = v := by simp [px_us]
theorem us_ne {f : px_HS} {a k : Nat} {v : Nat × Nat} (h : k ≠ a) : px_us f a v k = f k := by
  unfold px_us
  rw [show Nat.beq k a = false from Bool.eq_false_iff.mpr (fun z => h (Nat.beq_eq.mp z))]
  rfl
theorem z_eq {α : Type} {f : Nat → Nat → α} {a j : Nat} {v : α} : px_z f a v a j = v := by simp [px_z]
theorem z_ne {α : Type} {f : Nat → Nat → α} {a k j : Nat} {v : α} (h : k ≠ a) : px_z f a v k j = f k j := by
  unfold px_z
  rw [show Nat.beq k a = false from Bool.eq_false_iff.mpr (fun z => h (Nat.beq_eq.mp z))]
  rfl
theorem row_eq {f : px_HI} {a j : Nat} {v : Nat → Int32} : px_row f a v a j = v j := by simp [px_row]
theorem row_ne {f : px_HI} {a k j : Nat} {v : Nat → Int32} (h : k ≠ a) : px_row f a v k j = f k j := by
  unfold px_row
  rw [show Nat.beq k a = false from Bool.eq_false_iff.mpr (fun z => h (Nat.beq_eq.mp z))]
  rfl
theorem tS_us {L k : Nat} {s0 : px_HS} {v : Nat × Nat} (h : 14 < k) (h2 : k < 1000000) : px_us (tS L s0) k v = tS L (px_us s0 k v) := by
  funext a
  by_cases e : a = k
  · subst e
    rw [us_eq]
    unfold tS
    rw [show Nat.ble a 14 = false from Bool.eq_false_iff.mpr (fun z => by have := Nat.le_of_ble_eq_true z; omega), show Nat.ble 1000000 a = false from Bool.eq_false_iff.mpr (fun z => by have := Nat.le_of_ble_eq_true z; omega), Bool.and_false, us_eq]
    rfl
  · rw [us_ne e]
    unfold tS
    rw [us_ne e]
theorem tR_z {so : Option Nat} {k : Nat} {r0 : px_HR} (h : 14 < k) (h2 : k < 1000000) : px_z (tR so r0) k none = tR so (px_z r0 k none) := by
  funext a j
  by_cases e : a = k
  · subst e
    rw [z_eq]
    unfold tR
    rw [show Nat.ble a 14 = false from Bool.eq_false_iff.mpr (fun z => by have := Nat.le_of_ble_eq_true z; omega), show Nat.ble 1000000 a = false from Bool.eq_false_iff.mpr (fun z => by have := Nat.le_of_ble_eq_true z; omega), Bool.and_false, z_eq]
    rfl
  · rw [z_ne e]
    unfold tR
    rw [z_ne e]
theorem tR_o {so : Option Nat} {a j : Nat} {r0 : px_HR} (h : 14 < a) (h2 : a < 1000000) : tR so r0 a j = r0 a j := by
  unfold tR
  rw [show Nat.ble a 14 = false from Bool.eq_false_iff.mpr (fun z => by have := Nat.le_of_ble_eq_true z; omega), show Nat.ble 1000000 a = false from Bool.eq_false_iff.mpr (fun z => by have := Nat.le_of_ble_eq_true z; omega), Bool.and_false]
  rfl
theorem tS_o {L a : Nat} {s0 : px_HS} (h : 14 < a) (h2 : a < 1000000) : tS L s0 a = s0 a := by
  unfold tS
  rw [show Nat.ble a 14 = false from Bool.eq_false_iff.mpr (fun z => by have := Nat.le_of_ble_eq_true z; omega), show Nat.ble 1000000 a = false from Bool.eq_false_iff.mpr (fun z => by have := Nat.le_of_ble_eq_true z; omega), Bool.and_false]
  rfl
theorem tR_u {so : Option Nat} {k i : Nat} {x : Option Nat} {r0 : px_HR} (h : 14 < k) (h2 : k < 1000000) : px_u (tR so r0) k i x = tR so (px_u r0 k i x) := by
  funext a j
  by_cases e : a = k
  · subst e
    rw [tR_o h h2]
    by_cases g : j = i
    · subst g
      rw [u_eq, u_eq]
    · rw [u_ne (fun _ => g), u_ne (fun _ => g), tR_o h h2]
  · rw [u_ne (fun g => absurd g e)]
    unfold tR
    rw [u_ne (fun g => absurd g e)]
end PXV2
def v0 : pE → Int32 := fun _ => 0
def pPart (b : Nat → Int32) (z : Nat) (w : Int32) (p : Nat) (acc : List Int32) : pRes := if tkc b z p = w then pTh (PP b z (20 * z + 12) 0 0 (nxt b z p) acc v0) (fun p' a' v' => if tkc b z p' = -21 then (true, nxt b z p', a', v') else (false, p', a', v')) else (false, p, acc, v0)
section PXT7
variable {n q L z c k e D : Nat} {so : Option Nat} {I : px_HI} {J : px_HJ} {r0 : px_HR} {s0 : px_HS} {b : Nat → Int32} {acc : List Int32}
theorem part_F {w : Int32} {p s : Nat} (hD : 140 ≤ D) (h : cOK I b z c) (hf : I 9 1 = nI p) (hp : p ≤ z) (hs : cSt I z k s) (hw : ¬ w = -22) : ∃ I', px_mt D 27 [.ref 9, .int w] I J (tR so r0) (tS L s0) n q (none, I', J, tR so r0, tS L s0, n, q) ∧ cFr I I' ∧ I' 9 1 = nI p ∧ ∃ k s, cSt I' z k s := by
  obtain ⟨D, rfl⟩ : ∃ x, D = x + 5 := ⟨D - 5, by omega⟩
  have hz := h.2.2.2.2.2
  obtain ⟨I1, r1, f1, g1, k1, s1, h1⟩ := x_F (J := J) (so := so) (r0 := r0) (L := L) (s0 := s0) (n := n) (q := q) (d := D) h hf hp hs hw
  obtain ⟨I2, r2, f2, g2, h2⟩ := x_F (w := -21) (J := J) (so := so) (r0 := r0) (L := L) (s0 := s0) (n := n) (q := q) (d := D) (h.fr f1) g1 hp h1 (by decide)
  refine ⟨I2, ?_, f1.trans f2, g2, h2⟩
  unfold px_mt
  refine e_s rfl ?_
  refine e_s rfl ?_
  refine e_c rfl r1 (by omega) ?_
  repeat refine e_s rfl ?_
  refine e_c rfl (show px_mt (D + 1) 33 [.ref 9, .int 0, .int 0] I1 J (tR so r0) (tS L s0) n q (none, I1, J, tR so r0, tS L s0, n, q) from ?_) (by omega) ?_
  · unfold px_mt
    repeat refine e_s rfl ?_
    rw [g1]
    refine e_bf (nI_m1 (by omega)) ?_
    exact e_r rfl
  repeat refine e_s rfl ?_
  refine e_c rfl r2 (by omega) ?_
  exact e_r rfl
theorem r_part {w : Int32} (hD : 140 ≤ D) (hc : cOK I b z c) (hi : cIk I z e k acc) (hw : ¬ w = -22) : ∃ I', px_mt D 27 [.ref 9, .int w] I J (tR so r0) (tS L s0) n q (none, I', J, tR so r0, tS L s0, n, q) ∧ cFr I I' ∧ cRs I' b z (e + 2) (pPart b z w (pos b z k) acc) := by
  obtain ⟨D, rfl⟩ : ∃ x, D = x + 5 := ⟨D - 5, by omega⟩
  have hz := hc.2.2.2.2.2
  have hkz := hi.2.1.2.1
  unfold pPart
  by_cases ht : tkc b z (pos b z k) = w
  · rw [if_pos ht]
    have hp := tkc_lt (b := b) (z := z) (p := pos b z k) (by rw [ht]; exact hw)
    have hi2 := hi.adv hp
    have hc2 := hc.fr (fr_9 (k := 2) (x := nI (k + 1)) (Or.inr (Or.inl rfl)))
    have hpos : pos b z (k + 1) = nxt b z (pos b z k) := rfl
    obtain ⟨I2, hr2, hf2, hs2⟩ := (w_all b z L so r0 s0 (20 * z + 12)).1 0 0 (k + 1) acc v0 (e + 1) _ J c n q (D + 4) (by decide) (by decide) (by omega) (by omega) hc2 hi2
    rw [hpos] at hs2
    have hc3 := hc2.fr hf2
    revert hs2
    generalize PP b z (20 * z + 12) 0 0 (nxt b z (pos b z k)) acc v0 = r
    intro hs2
    obtain ⟨o, p', a', v'⟩ := r
    cases o
    · obtain ⟨g1, g2, k2, s2, g3⟩ := hs2
      obtain ⟨I3, hr3, hf3, hs3⟩ := x_F (w := -21) (J := J) (so := so) (r0 := r0) (L := L) (s0 := s0) (n := n) (q := q) (d := D) hc3 g1 g2 g3 (by decide)
      refine ⟨I3, ?_, ((fr_9 (Or.inr (Or.inl rfl))).trans hf2).trans hf3, hs3.1, g2, hs3.2⟩
      unfold px_mt
      refine e_s rfl ?_
      refine e_s rfl ?_
      refine e_c rfl (x_ok (d := D) hc hi.2.1.1 (by omega) ht) (by omega) ?_
      repeat refine e_s rfl ?_
      refine e_c rfl hr2 (by omega) ?_
      repeat refine e_s rfl ?_
      refine e_c rfl hr3 (by omega) ?_
      exact e_r rfl
    · obtain ⟨k2, g1, g2⟩ := hs2
      subst g1
      have hk2z := g2.2.1.2.1
      by_cases h4 : tkc b z (pos b z k2) = -21
      · have hp2 := tkc_lt (b := b) (z := z) (p := pos b z k2) (by rw [h4]; decide)
        have g3 := g2.adv hp2
        refine ⟨px_u I2 9 2 (nI (k2 + 1)), ?_, ((fr_9 (Or.inr (Or.inl rfl))).trans hf2).trans (fr_9 (Or.inr (Or.inl rfl))), ?_⟩
        rotate_left
        · show cRs _ b z (e + 2) (if tkc b z (pos b z k2) = -21 then (true, nxt b z (pos b z k2), a', v') else (false, pos b z k2, a', v'))
          rw [if_pos h4]
          exact ⟨k2 + 1, rfl, g3⟩
        unfold px_mt
        refine e_s rfl ?_
        refine e_s rfl ?_
        refine e_c rfl (x_ok (d := D) hc hi.2.1.1 (by omega) ht) (by omega) ?_
        repeat refine e_s rfl ?_
        refine e_c rfl hr2 (by omega) ?_
        repeat refine e_s rfl ?_
        refine e_c rfl (x_ok (d := D) hc3 g2.2.1.1 (by omega) h4) (by omega) ?_
        exact e_r rfl
      · refine ⟨px_u I2 9 1 (nI (pos b z k2)), ?_, ((fr_9 (Or.inr (Or.inl rfl))).trans hf2).trans (fr_9 (Or.inl rfl)), ?_⟩
        rotate_left
        · show cRs _ b z (e + 2) (if tkc b z (pos b z k2) = -21 then (true, nxt b z (pos b z k2), a', v') else (false, pos b z k2, a', v'))
          rw [if_neg h4]
          exact ⟨u_eq, pos_le b z k2, k2, a'.length, g2.2.1⟩
        unfold px_mt
        refine e_s rfl ?_
        refine e_s rfl ?_
        refine e_c rfl (x_ok (d := D) hc hi.2.1.1 (by omega) ht) (by omega) ?_
        repeat refine e_s rfl ?_
        refine e_c rfl hr2 (by omega) ?_
        repeat refine e_s rfl ?_
        refine e_c rfl (x_bad (d := D) hc3 g2.1 g2.2.1.1 (by omega) h4) (by omega) ?_
        exact e_r rfl
  · rw [if_neg ht]
    obtain ⟨I3, hr3, hf3, hs3⟩ := x_F (w := -21) (J := J) (so := so) (r0 := r0) (L := L) (s0 := s0) (n := n) (q := q) (d := D) (hc.fr (fr_9 (k := 1) (x := nI (pos b z k)) (Or.inl rfl))) (p := pos b z k) u_eq (pos_le b z k) hi.2.1 (by decide)
    refine ⟨I3, ?_, (fr_9 (Or.inl rfl)).trans hf3, hs3.1, pos_le b z k, hs3.2⟩
    unfold px_mt
    refine e_s rfl ?_
    refine e_s rfl ?_
    refine e_c rfl (x_bad (d := D) hc hi.1 hi.2.1.1 (by omega) ht) (by omega) ?_
    repeat refine e_s rfl ?_
    refine e_c rfl (show px_mt (D + 1) 33 [.ref 9, .int 0, .int 0] (px_u I 9 1 (nI (pos b z k))) J (tR so r0) (tS L s0) n q (none, px_u I 9 1 (nI (pos b z k)), J, tR so r0, tS L s0, n, q) from ?_) (by omega) ?_
    · unfold px_mt
      repeat refine e_s rfl ?_
      rw [show px_u I 9 1 (nI (pos b z k)) 9 1 = nI (pos b z k) from u_eq]
      refine e_bf (nI_m1 (by have := pos_le b z k; omega)) ?_
      exact e_r rfl
    repeat refine e_s rfl ?_
    refine e_c rfl hr3 (by omega) ?_
    exact e_r rfl
end PXT7
