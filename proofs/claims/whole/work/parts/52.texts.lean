/-! a text of the class says what the model's reading of its letters says -/
theorem pPart_x {b : Nat → Int32} {z p : Nat} {W : Int32} {acc : List Int32} (h : (pPart b z W p acc).1 = true) : ∃ s, (pPart b z W p acc).2.2.1 = acc ++ s ∧ ∀ e st, ex e s st = some ((pPart b z W p acc).2.2.2 e :: st) := by
  unfold pPart at h ⊢
  by_cases ht : tkc b z p = W
  · rw [if_pos ht] at h ⊢
    have hx := PP_x b z (20 * z + 12) 0 0 (nxt b z p) acc v0 (by omega)
    revert hx h
    generalize PP b z (20 * z + 12) 0 0 (nxt b z p) acc v0 = r
    intro h hx
    obtain ⟨o, p2, a2, v2⟩ := r
    cases o
    · cases h
    · obtain ⟨s, h1, h2⟩ := hx rfl
      refine ⟨s, ?_, fun e st => ?_⟩
      · show (if tkc b z p2 = -21 then ((true, nxt b z p2, a2, v2) : pRes) else (false, p2, a2, v2)).2.2.1 = _
        split <;> exact h1
      · have := h2 e st
        rw [if_pos (by decide)] at this
        rw [this]
        show some (v2 e :: st) = some ((if tkc b z p2 = -21 then ((true, nxt b z p2, a2, v2) : pRes) else (false, p2, a2, v2)).2.2.2 e :: st)
        split <;> rfl
  · rw [if_neg ht] at h
    cases h
theorem rd_ok {b : Nat → Int32} {z : Nat} (h : rdOK b z = true) : ∃ s1 s2 s3, (rd1 b z).2.2.1 = s1 ∧ (rd2 b z).2.2.1 = s1 ++ s2 ∧ (rd3 b z).2.2.1 = s1 ++ s2 ++ s3 ∧ (∀ e, ex e s1 [] = some [(rd1 b z).2.2.2 e]) ∧ (∀ e, ex e s2 [] = some [(rd2 b z).2.2.2 e]) ∧ ∀ e, ex e s3 [] = some [(rd3 b z).2.2.2 e] := by
  have h3 : (rd3 b z).1 = true := by
    unfold rdOK at h
    exact (Bool.and_eq_true_iff.mp h).1
  have h2 : (rd2 b z).1 = true := pTh_t h3
  have h1 : (rd1 b z).1 = true := pTh_t h2
  obtain ⟨s1, a1, b1⟩ := pPart_x (b := b) (z := z) (p := pos b z 0) (W := -16) (acc := []) h1
  have e2 : rd2 b z = pTh (rd1 b z) (fun p a _ => pPart b z (-17) p a) := rfl
  have e3 : rd3 b z = pTh (rd2 b z) (fun p a _ => pPart b z (-18) p a) := rfl
  have a1' : (rd1 b z).2.2.1 = s1 := a1
  have b1' : ∀ e st, ex e s1 st = some ((rd1 b z).2.2.2 e :: st) := b1
  rcases hr1 : rd1 b z with ⟨o1, p1, c1, v1⟩
  rw [hr1] at h1 e2 a1' b1'
  cases o1
  · cases h1
  have e2' : rd2 b z = pPart b z (-17) p1 c1 := e2
  rw [e2'] at h2
  obtain ⟨s2, a2, b2⟩ := pPart_x h2
  rw [← e2'] at a2 b2
  rcases hr2 : rd2 b z with ⟨o2, p2, c2, v2⟩
  rw [← e2', hr2] at h2
  rw [hr2] at e3 a2 b2
  cases o2
  · cases h2
  have e3' : rd3 b z = pPart b z (-18) p2 c2 := e3
  rw [e3'] at h3
  obtain ⟨s3, a3, b3⟩ := pPart_x h3
  rw [← e3'] at a3 b3
  simp only at a1' a2
  subst a1'
  subst a2
  exact ⟨c1, s2, s3, rfl, rfl, a3, fun e => b1' e [], fun e => b2 e [], fun e => b3 e []⟩
/-- the Text at address a, of these letters: its steps at u, its stack at w -/
def txOK (I : px_HI) (R : px_HR) (S : px_HS) (a u w : Nat) (b : Nat → Int32) (z : Nat) : Prop := S a = (20, 4) ∧ R a 0 = some u ∧ R a 3 = some w ∧ S u = (100, (rd3 b z).2.2.1.length) ∧ S w = (100, (rd3 b z).2.2.1.length) ∧ u ≠ w ∧ (rd3 b z).2.2.1.length < 160 ∧ I a 1 = nI (rd1 b z).2.2.1.length ∧ I a 2 = nI (rd2 b z).2.2.1.length ∧ (∀ j, j < (rd3 b z).2.2.1.length → I u j = (rd3 b z).2.2.1.getD j 0) ∧ rdOK b z = true
theorem gD_r {s t : List Int32} {j : Nat} : (s ++ t).getD (s.length + j) 0 = t.getD j 0 := by
  rw [List.getD_eq_getElem?_getD, List.getD_eq_getElem?_getD, List.getElem?_append_right (by omega)]
  congr 2
  omega
theorem gD_l {s t : List Int32} {j : Nat} (h : j < s.length) : (s ++ t).getD j 0 = s.getD j 0 := by
  rw [List.getD_eq_getElem?_getD, List.getD_eq_getElem?_getD, List.getElem?_append_left h]
section PXTb
variable {d n q a u w sc z wh : Nat} {I : px_HI} {J : px_HJ} {R : px_HR} {S : px_HS} {b : Nat → Int32} {sort who : Int32}
theorem r_valT (h : txOK I R S a u w b z) (hSc : S sc = (17, 8)) (hsw : sc ≠ w) (hw : wh ≤ 2) : ∃ I', px_mt (d + 2) 87 [.ref a, .int (nI wh), .ref sc, .int sort, .int who] I J R S n q (some (.int (rdV b z wh (nmE (I sc 0) (I sc 1) sort (I sc 2) (I sc 6) who))), I', J, R, S, n, q) ∧ ∀ x j, x ≠ w → I' x j = I x j := by
  obtain ⟨h1, h2, h3, h4, h5, h6, h7, h8, h9, h10, h11⟩ := h
  obtain ⟨s1, s2, s3, g1, g2, g3, k1, k2, k3⟩ := rd_ok h11
  have l1 : (rd1 b z).2.2.1.length = s1.length := by rw [g1]
  have l2 : (rd2 b z).2.2.1.length = s1.length + s2.length := by rw [g2]; simp
  have l3 : (rd3 b z).2.2.1.length = s1.length + s2.length + s3.length := by rw [g3]; simp; omega
  rcases (show wh = 0 ∨ wh = 1 ∨ wh = 2 by omega) with rfl | rfl | rfl
  · exact r_val0 (d := d) h1 h2 h4 h3 h5 hSc h7 h6 hsw h8 (by omega) l1.symm (fun j hj => by rw [Nat.zero_add, h10 j (by omega), g3, gD_l (by simp; omega), gD_l hj]) (k1 _)
  · exact r_val1 (d := d) h1 h2 h4 h3 h5 hSc h7 h6 hsw h8 h9 (by omega) (by omega) (fun j hj => by rw [h10 _ (by omega), g3, gD_l (by simp; omega), l1, gD_r]) (k2 _)
  · exact r_val2 (d := d) h1 h2 h4 h3 h5 hSc h7 h6 hsw h9 (by omega) (fun j hj => by rw [h10 _ (by omega), g3, l2, show s1.length + s2.length = (s1 ++ s2).length by simp, gD_r]) (k3 _)
end PXTb
