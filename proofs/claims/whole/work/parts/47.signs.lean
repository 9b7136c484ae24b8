/-! THE MODEL: isSign, isWord, fail, opens, name -/
section PXM3
variable {D n q L : Nat} {so : Option Nat} {I : px_HI} {J : px_HJ} {dr : px_HR} {ds : px_HS} {b : Nat → Int32} {z fr p : Nat} {r : Option Value × px_G}
theorem r_signB {x y : Int32} (hb : I 31 30 = 1) : px_mt (D + 1) 174 [.ref 31, .int y] I J (dR so dr) (dS L ds) n q (some (.int 0), I, J, dR so dr, dS L ds, n, q) := by
  unfold px_mt
  repeat refine e_s rfl ?_
  rw [hb]
  repeat refine e_s rfl ?_
  exact e_r rfl
theorem eq_64 {a x : Int32} : a.toInt64 = x.toInt64 ↔ a = x := by rw [← Int64.toInt_inj, ← Int32.toInt_inj, Int32.toInt_toInt64, Int32.toInt_toInt64]
theorem r_sign {m : Nat} (hS : mS I J b z p) (hb : I 31 30 = 0) (hm : m < 62) (hc : ¬ mcode (nI m) = -23) : px_mt (D + 1) 174 [.ref 31, .int (nI m)] I J (dR so dr) (dS L ds) n q (some (.int (bI (decide (tkc b z p = mcode (nI m))))), I, J, dR so dr, dS L ds, n, q) := by
  rw [tk_mark hm hc]
  unfold px_mt
  repeat refine e_s rfl ?_
  rw [hb]
  refine e_pc (p2 := 7) (by decide) ?_
  repeat refine e_s rfl ?_
  rw [hS.2.1]
  refine e_b (fun h => ?_) (fun h => ?_)
  · rw [decide_eq_false h, Bool.false_and]
    repeat refine e_s rfl ?_
    exact e_r rfl
  · have h3 := Classical.not_not.mp h
    rw [decide_eq_true h3, Bool.true_and]
    repeat refine e_s rfl ?_
    rw [hS.2.2.2.2.1 h3]
    refine e_b (fun h => ?_) (fun h => ?_)
    · rw [decide_eq_false (fun g => h ((lg_cmp_eq _ _).mpr (eq_64.mpr g)))]
      repeat refine e_s rfl ?_
      exact e_r rfl
    · rw [decide_eq_true (eq_64.mp ((lg_cmp_eq _ _).mp (Classical.not_not.mp h)))]
      repeat refine e_s rfl ?_
      exact e_r rfl
theorem r_ltr {e i : Nat} {l : Int32} (hB : mB I b z fr) (h1 : I 31 27 = nI p) (h2 : I 31 25 = nI e) (he : e ≤ z) (hi : i ≤ 8) (hp : p ≤ z) : px_mt (D + 2) 159 [.ref 31, .int (nI i), .int l] I J (dR so dr) (dS L ds) n q (some (.int (bI (ql b p e i l))), I, J, dR so dr, dS L ds, n, q) := by
  have h160 := hB.2.2.1
  unfold px_mt ql
  repeat refine e_s rfl ?_
  rw [h1, h2, nI_add]
  by_cases h : p + i < e
  · rw [if_pos h]
    refine e_bf (nI_ge h (by omega)) ?_
    repeat refine e_s rfl ?_
    rw [h1, nI_add]
    refine e_c rfl (r_byte (D := D) hB (by omega)) (by omega) ?_
    rw [show bAt b z (p + i) = b (p + i) from if_pos (by omega)]
    repeat refine e_s rfl ?_
    refine e_b (fun g => ?_) (fun g => ?_)
    · rw [decide_eq_false g]
      repeat refine e_s rfl ?_
      exact e_r rfl
    · rw [decide_eq_true (Classical.not_not.mp g)]
      repeat refine e_s rfl ?_
      exact e_r rfl
  · rw [if_neg h]
    refine e_bt (nI_le (by omega) (by omega)) ?_
    repeat refine e_s rfl ?_
    refine e_b (fun g => ?_) (fun g => ?_)
    · rw [decide_eq_false g]
      repeat refine e_s rfl ?_
      exact e_r rfl
    · rw [decide_eq_true (Classical.not_not.mp g)]
      repeat refine e_s rfl ?_
      exact e_r rfl
theorem r_wordB {l0 l1 l2 l3 l4 l5 l6 l7 : Int32} (hb : I 31 30 = 1) : px_mt (D + 1) 158 [.ref 31, .int l0, .int l1, .int l2, .int l3, .int l4, .int l5, .int l6, .int l7] I J (dR so dr) (dS L ds) n q (some (.int 0), I, J, dR so dr, dS L ds, n, q) := by
  unfold px_mt
  repeat refine e_s rfl ?_
  rw [hb]
  repeat refine e_s rfl ?_
  exact e_r rfl
theorem r_wordQ {l0 l1 l2 l3 l4 l5 l6 l7 : Int32} (hB : mB I b z fr) (hS : mS I J b z p) (hb : I 31 30 = 0) : px_mt (D + 3) 158 [.ref 31, .int l0, .int l1, .int l2, .int l3, .int l4, .int l5, .int l6, .int l7] I J (dR so dr) (dS L ds) n q (some (.int (bI (decide (mkd b z p = 1) && (decide (tke b z p ≤ p + 8) && (ql b p (tke b z p) 0 l0 && (ql b p (tke b z p) 1 l1 && (ql b p (tke b z p) 2 l2 && (ql b p (tke b z p) 3 l3 && (ql b p (tke b z p) 4 l4 && (ql b p (tke b z p) 5 l5 && (ql b p (tke b z p) 6 l6 && (ql b p (tke b z p) 7 l7 && true)))))))))))), I, J, dR so dr, dS L ds, n, q) := by
  have h160 := hB.2.2.1
  unfold px_mt
  repeat refine e_s rfl ?_
  rw [hb]
  refine e_pc (p2 := 7) (by decide) ?_
  repeat refine e_s rfl ?_
  rw [hS.2.1]
  refine e_b (fun h => ?_) (fun h => ?_)
  · rw [decide_eq_false h, Bool.false_and]
    repeat refine e_s rfl ?_
    exact e_r rfl
  have h1 := Classical.not_not.mp h
  rw [decide_eq_true h1, Bool.true_and]
  have h27 := hS.2.2.1
  have h25 := hS.2.2.2.1 (Or.inl h1)
  have hp : p < z := by
    rcases tk_cases b z p with ⟨_, g, _⟩ | ⟨g, _⟩ | ⟨g, _⟩ | ⟨g, _⟩ | ⟨g, _⟩
    · rw [g] at h1; exact absurd h1 (by decide)
    · exact g
    · exact g
    · exact g
    · exact g
  have ht := tke_le (b := b) hp
  repeat refine e_s rfl ?_
  rw [h25, h27, show nI p + 8 = nI (p + 8) from nI_add p 8]
  refine e_b (fun h => ?_) (fun h => ?_)
  · rw [decide_eq_false (fun g => absurd h (nI_nlt g (by omega))), Bool.false_and]
    repeat refine e_s rfl ?_
    exact e_r rfl
  rw [decide_eq_true (show tke b z p ≤ p + 8 from Nat.le_of_not_lt (fun g => h (nI_lt g (by omega)))), Bool.true_and]
  repeat refine e_s rfl ?_
  refine e_c rfl (r_ltr (D := D) (i := 0) hB h27 h25 ht.2 (by decide) (by omega)) (by omega) ?_
  refine e_s rfl ?_
  refine e_z (fun h => ?_) (fun h => ?_)
  rotate_left
  · rw [h, Bool.false_and]
    repeat refine e_s rfl ?_
    exact e_r rfl
  rw [h, Bool.true_and]
  repeat refine e_s rfl ?_
  refine e_c rfl (r_ltr (D := D) (i := 1) hB h27 h25 ht.2 (by decide) (by omega)) (by omega) ?_
  refine e_s rfl ?_
  refine e_z (fun h => ?_) (fun h => ?_)
  rotate_left
  · rw [h, Bool.false_and]
    repeat refine e_s rfl ?_
    exact e_r rfl
  rw [h, Bool.true_and]
  repeat refine e_s rfl ?_
  refine e_c rfl (r_ltr (D := D) (i := 2) hB h27 h25 ht.2 (by decide) (by omega)) (by omega) ?_
  refine e_s rfl ?_
  refine e_z (fun h => ?_) (fun h => ?_)
  rotate_left
  · rw [h, Bool.false_and]
    repeat refine e_s rfl ?_
    exact e_r rfl
  rw [h, Bool.true_and]
  repeat refine e_s rfl ?_
  refine e_c rfl (r_ltr (D := D) (i := 3) hB h27 h25 ht.2 (by decide) (by omega)) (by omega) ?_
  refine e_s rfl ?_
  refine e_z (fun h => ?_) (fun h => ?_)
  rotate_left
  · rw [h, Bool.false_and]
    repeat refine e_s rfl ?_
    exact e_r rfl
  rw [h, Bool.true_and]
  repeat refine e_s rfl ?_
  refine e_c rfl (r_ltr (D := D) (i := 4) hB h27 h25 ht.2 (by decide) (by omega)) (by omega) ?_
  refine e_s rfl ?_
  refine e_z (fun h => ?_) (fun h => ?_)
  rotate_left
  · rw [h, Bool.false_and]
    repeat refine e_s rfl ?_
    exact e_r rfl
  rw [h, Bool.true_and]
  repeat refine e_s rfl ?_
  refine e_c rfl (r_ltr (D := D) (i := 5) hB h27 h25 ht.2 (by decide) (by omega)) (by omega) ?_
  refine e_s rfl ?_
  refine e_z (fun h => ?_) (fun h => ?_)
  rotate_left
  · rw [h, Bool.false_and]
    repeat refine e_s rfl ?_
    exact e_r rfl
  rw [h, Bool.true_and]
  repeat refine e_s rfl ?_
  refine e_c rfl (r_ltr (D := D) (i := 6) hB h27 h25 ht.2 (by decide) (by omega)) (by omega) ?_
  refine e_s rfl ?_
  refine e_z (fun h => ?_) (fun h => ?_)
  rotate_left
  · rw [h, Bool.false_and]
    repeat refine e_s rfl ?_
    exact e_r rfl
  rw [h, Bool.true_and]
  repeat refine e_s rfl ?_
  refine e_c rfl (r_ltr (D := D) (i := 7) hB h27 h25 ht.2 (by decide) (by omega)) (by omega) ?_
  refine e_s rfl ?_
  refine e_z (fun h => ?_) (fun h => ?_)
  rotate_left
  · rw [h, Bool.false_and]
    repeat refine e_s rfl ?_
    exact e_r rfl
  rw [h, Bool.true_and]
  repeat refine e_s rfl ?_
  exact e_r rfl
theorem by_no0 : ∀ k, k < 13 → ∀ x, x ∈ px_by.getD k [] → ¬ x = 0 := by decide +kernel
theorem by_len8 : ∀ k, k < 13 → 1 ≤ k → (px_by.getD k []).length ≤ 8 := by decide +kernel
/-- isWord of the model's word k -/
theorem r_word {l0 l1 l2 l3 l4 l5 l6 l7 : Int32} {k m : Nat} (hk1 : 1 ≤ k) (hk : k ≤ 12) (hls : [l0, l1, l2, l3, l4, l5, l6, l7] = px_by.getD k [] ++ List.replicate (m + 1) 0) (hB : mB I b z fr) (hS : mS I J b z p) (hb : I 31 30 = 0) : px_mt (D + 3) 158 [.ref 31, .int l0, .int l1, .int l2, .int l3, .int l4, .int l5, .int l6, .int l7] I J (dR so dr) (dS L ds) n q (some (.int (bI (decide (tkc b z p = wcd k)))), I, J, dR so dr, dS L ds, n, q) := by
  have h := r_wordQ (D := D) (n := n) (q := q) (so := so) (dr := dr) (L := L) (ds := ds) (l0 := l0) (l1 := l1) (l2 := l2) (l3 := l3) (l4 := l4) (l5 := l5) (l6 := l6) (l7 := l7) hB hS hb
  have e : (decide (mkd b z p = 1) && (decide (tke b z p ≤ p + 8) && qs b p (tke b z p) [l0, l1, l2, l3, l4, l5, l6, l7] 0)) = decide (tkc b z p = wcd k) := by
    rw [tk_word hk1 hk]
    by_cases h1 : mkd b z p = 1
    · rw [decide_eq_true h1, Bool.true_and, Bool.true_and]
      rcases tk_cases b z p with ⟨_, g, _⟩ | ⟨hp, _, hl, _⟩ | ⟨_, g, _⟩ | ⟨_, g, _⟩ | ⟨_, g, _⟩
      · rw [g] at h1; exact absurd h1 (by decide)
      · refine qw_isw m hls (by_no0 k (by omega)) (by_len8 k (by omega) hk1) (tke_le hp).1 (fun j hj1 hj2 g => ?_)
        have he : tke b z p = skp isLt b (z - p) p := by unfold tke; rw [hl]; rfl
        rw [he] at hj2
        have := skp_all _ _ j hj1 hj2
        rw [g] at this
        exact absurd this (by decide)
      · rw [g] at h1; exact absurd h1 (by decide)
      · rw [g] at h1; exact absurd h1 (by decide)
      · rw [g] at h1; exact absurd h1 (by decide)
    · rw [decide_eq_false h1, Bool.false_and, Bool.false_and]
  rw [← e]
  exact h
theorem r_failM (hb : I 31 30 = 0) (h27 : I 31 27 = nI p) : px_mt (D + 1) 161 [.ref 31] I J (dR so dr) (dS L ds) n q (none, px_u (px_u I 31 30 1) 31 31 (nI p), J, dR so dr, dS L ds, n, q) := by
  unfold px_mt
  repeat refine e_s rfl ?_
  rw [hb]
  repeat refine e_s rfl ?_
  rw [show px_u I 31 30 1 31 27 = nI p from h27]
  exact e_r rfl
theorem r_failB (hb : I 31 30 = 1) : px_mt (D + 1) 161 [.ref 31] I J (dR so dr) (dS L ds) n q (none, I, J, dR so dr, dS L ds, n, q) := by
  unfold px_mt
  repeat refine e_s rfl ?_
  rw [hb]
  repeat refine e_s rfl ?_
  exact e_r rfl
end PXM3
