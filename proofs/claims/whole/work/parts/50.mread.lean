/-! THE MODEL: its reader reads as PP says -/
theorem m_lev {b : Nat → Int32} {z L f : Nat} {so : Option Nat} {dr : px_HR} {ds : px_HS} (ihL : mLv b z L so dr ds f) (ihC : mCh b z L so dr ds f) : mLv b z L so dr ds (f + 1) := by
  intro m dep p acc v e I J n q D fr hm hdep hf hD hi
  rcases (show dep = 0 ∨ dep = 1 ∨ dep = 2 ∨ dep = 3 ∨ dep = 4 ∨ dep = 5 by omega) with rfl | rfl | rfl | rfl | rfl | rfl
  · rcases (show m = 0 ∨ m = 1 ∨ m = 2 ∨ m = 3 ∨ m = 4 ∨ m = 5 by omega) with rfl | rfl | rfl | rfl | rfl | rfl
    · exact ml_0_0 ihL ihC hf (by omega) hi
    · exact ml_1_0 ihL ihC hf (by omega) hi
    · exact ml_2_0 ihL ihC hf (by omega) hi
    · exact ml_3_0 ihL ihC hf (by omega) hi
    · exact ml_4_0 ihL ihC hf (by omega) hi
    · exact ml_5_0 ihL ihC hf (by omega) hi
  · rcases (show m = 0 ∨ m = 1 ∨ m = 2 ∨ m = 3 ∨ m = 4 ∨ m = 5 by omega) with rfl | rfl | rfl | rfl | rfl | rfl
    · exact ml_0_1 ihL ihC hf (by omega) hi
    · exact ml_1_1 ihL ihC hf (by omega) hi
    · exact ml_2_1 ihL ihC hf (by omega) hi
    · exact ml_3_1 ihL ihC hf (by omega) hi
    · exact ml_4_1 ihL ihC hf (by omega) hi
    · exact ml_5_1 ihL ihC hf (by omega) hi
  · rcases (show m = 0 ∨ m = 1 ∨ m = 2 ∨ m = 3 ∨ m = 4 ∨ m = 5 by omega) with rfl | rfl | rfl | rfl | rfl | rfl
    · exact ml_0_2 ihL ihC hf (by omega) hi
    · exact ml_1_2 ihL ihC hf (by omega) hi
    · exact ml_2_2 ihL ihC hf (by omega) hi
    · exact ml_3_2 ihL ihC hf (by omega) hi
    · exact ml_4_2 ihL ihC hf (by omega) hi
    · exact ml_5_2 ihL ihC hf (by omega) hi
  · rcases (show m = 0 ∨ m = 1 ∨ m = 2 ∨ m = 3 ∨ m = 4 ∨ m = 5 by omega) with rfl | rfl | rfl | rfl | rfl | rfl
    · exact ml_0_3 ihL ihC hf (by omega) hi
    · exact ml_1_3 ihL ihC hf (by omega) hi
    · exact ml_2_3 ihL ihC hf (by omega) hi
    · exact ml_3_3 ihL ihC hf (by omega) hi
    · exact ml_4_3 ihL ihC hf (by omega) hi
    · exact ml_5_3 ihL ihC hf (by omega) hi
  · rcases (show m = 0 ∨ m = 1 ∨ m = 2 ∨ m = 3 ∨ m = 4 ∨ m = 5 by omega) with rfl | rfl | rfl | rfl | rfl | rfl
    · exact ml_0_4 ihL ihC hf (by omega) hi
    · exact ml_1_4 ihL ihC hf (by omega) hi
    · exact ml_2_4 ihL ihC hf (by omega) hi
    · exact ml_3_4 ihL ihC hf (by omega) hi
    · exact ml_4_4 ihL ihC hf (by omega) hi
    · exact ml_5_4 ihL ihC hf (by omega) hi
  · rcases (show m = 0 ∨ m = 1 ∨ m = 2 ∨ m = 3 ∨ m = 4 ∨ m = 5 by omega) with rfl | rfl | rfl | rfl | rfl | rfl
    · exact ml_0_5 ihL ihC hf (by omega) hi
    · exact ml_1_5 ihL ihC hf (by omega) hi
    · exact ml_2_5 ihL ihC hf (by omega) hi
    · exact ml_3_5 ihL ihC hf (by omega) hi
    · exact ml_4_5 ihL ihC hf (by omega) hi
    · exact ml_5_5 ihL ihC hf (by omega) hi
theorem m_chn {b : Nat → Int32} {z L f : Nat} {so : Option Nat} {dr : px_HR} {ds : px_HS} (ihL : mLv b z L so dr ds f) (ihC : mCh b z L so dr ds f) : mCh b z L so dr ds (f + 1) := by
  intro l dep p acc v e y x2 x3 I J n q D fr hl hdep hf hD hi hy
  rcases (show dep = 0 ∨ dep = 1 ∨ dep = 2 ∨ dep = 3 ∨ dep = 4 ∨ dep = 5 by omega) with rfl | rfl | rfl | rfl | rfl | rfl
  · rcases (show l = 0 ∨ l = 1 ∨ l = 2 ∨ l = 3 ∨ l = 4 by omega) with rfl | rfl | rfl | rfl | rfl
    · exact mc_0_0 ihL ihC hf (by omega) hi hy
    · exact mc_1_0 ihL ihC hf (by omega) hi hy
    · exact mc_2_0 ihL ihC hf (by omega) hi hy
    · exact mc_3_0 ihL ihC hf (by omega) hi hy
    · exact mc_4_0 ihL ihC hf (by omega) hi hy
  · rcases (show l = 0 ∨ l = 1 ∨ l = 2 ∨ l = 3 ∨ l = 4 by omega) with rfl | rfl | rfl | rfl | rfl
    · exact mc_0_1 ihL ihC hf (by omega) hi hy
    · exact mc_1_1 ihL ihC hf (by omega) hi hy
    · exact mc_2_1 ihL ihC hf (by omega) hi hy
    · exact mc_3_1 ihL ihC hf (by omega) hi hy
    · exact mc_4_1 ihL ihC hf (by omega) hi hy
  · rcases (show l = 0 ∨ l = 1 ∨ l = 2 ∨ l = 3 ∨ l = 4 by omega) with rfl | rfl | rfl | rfl | rfl
    · exact mc_0_2 ihL ihC hf (by omega) hi hy
    · exact mc_1_2 ihL ihC hf (by omega) hi hy
    · exact mc_2_2 ihL ihC hf (by omega) hi hy
    · exact mc_3_2 ihL ihC hf (by omega) hi hy
    · exact mc_4_2 ihL ihC hf (by omega) hi hy
  · rcases (show l = 0 ∨ l = 1 ∨ l = 2 ∨ l = 3 ∨ l = 4 by omega) with rfl | rfl | rfl | rfl | rfl
    · exact mc_0_3 ihL ihC hf (by omega) hi hy
    · exact mc_1_3 ihL ihC hf (by omega) hi hy
    · exact mc_2_3 ihL ihC hf (by omega) hi hy
    · exact mc_3_3 ihL ihC hf (by omega) hi hy
    · exact mc_4_3 ihL ihC hf (by omega) hi hy
  · rcases (show l = 0 ∨ l = 1 ∨ l = 2 ∨ l = 3 ∨ l = 4 by omega) with rfl | rfl | rfl | rfl | rfl
    · exact mc_0_4 ihL ihC hf (by omega) hi hy
    · exact mc_1_4 ihL ihC hf (by omega) hi hy
    · exact mc_2_4 ihL ihC hf (by omega) hi hy
    · exact mc_3_4 ihL ihC hf (by omega) hi hy
    · exact mc_4_4 ihL ihC hf (by omega) hi hy
  · rcases (show l = 0 ∨ l = 1 ∨ l = 2 ∨ l = 3 ∨ l = 4 by omega) with rfl | rfl | rfl | rfl | rfl
    · exact mc_0_5 ihL ihC hf (by omega) hi hy
    · exact mc_1_5 ihL ihC hf (by omega) hi hy
    · exact mc_2_5 ihL ihC hf (by omega) hi hy
    · exact mc_3_5 ihL ihC hf (by omega) hi hy
    · exact mc_4_5 ihL ihC hf (by omega) hi hy
theorem m_all (b : Nat → Int32) (z L : Nat) (so : Option Nat) (dr : px_HR) (ds : px_HS) : ∀ f, mLv b z L so dr ds f ∧ mCh b z L so dr ds f
  | 0 => ⟨fun m dep p acc v e I J n q D fr hm hdep hf => absurd hf (by omega), fun l dep p acc v e y x2 x3 I J n q D fr hl hdep hf => absurd hf (by omega)⟩
  | f + 1 => ⟨m_lev (m_all b z L so dr ds f).1 (m_all b z L so dr ds f).2, m_chn (m_all b z L so dr ds f).1 (m_all b z L so dr ds f).2⟩
section PXM5
variable {D n q L : Nat} {so : Option Nat} {I : px_HI} {J : px_HJ} {dr : px_HR} {ds : px_HS} {b : Nat → Int32} {z fr p : Nat} {e : pE} {acc : List Int32}
theorem r_partM {W : Int32} (hD : 60 ≤ D) (hi : mI I J b z fr 0 p e) (h22 : ¬ W = -22) (h23 : ¬ W = -23) : ∃ I' J' x, px_mt D 160 [.ref 31, .int (bI (decide (tkc b z p = W)))] I J (dR so dr) (dS L ds) n q (some (.int x), I', J', dR so dr, dS L ds, n, q) ∧ mFr I I' J J' ∧ mRs I' J' b z fr 0 e x (pPart b z W p acc) := by
  obtain ⟨D, rfl⟩ : ∃ x, D = x + 5 := ⟨D - 5, by omega⟩
  unfold pPart
  by_cases ht : tkc b z p = W
  · rw [if_pos ht, decide_eq_true ht]
    have hpz : p < z := tkc_lt (by rw [ht]; exact h22)
    have hn := nxt_le (b := b) (Nat.le_of_lt hpz)
    obtain ⟨I1, J1, hr1, hf1, hi1⟩ := r_adv (D := D) (n := n) (q := q) (so := so) (dr := dr) (L := L) (ds := ds) hi (by rw [ht]; exact h22) (by rw [ht]; exact h23)
    obtain ⟨I2, J2, w, hr2, hf2, hs2⟩ := (m_all b z L so dr ds (20 * z + 12)).1 0 0 (nxt b z p) acc v0 e I1 J1 n q (D + 4) fr (by decide) (by decide) (by omega) (by omega) hi1
    revert hs2
    generalize PP b z (20 * z + 12) 0 0 (nxt b z p) acc v0 = r
    intro hs2
    obtain ⟨o, p2, a2, v2⟩ := r
    cases o
    · obtain ⟨g1, g2⟩ := hs2
      refine ⟨I2, J2, w, ?_, hf1.trans hf2, g1, g2⟩
      unfold px_mt
      repeat refine e_s rfl ?_
      rw [hi.2.2.1]
      repeat refine e_s rfl ?_
      refine e_c rfl hr1 (by omega) ?_
      repeat refine e_s rfl ?_
      rw [hi1.2.2.1]
      repeat refine e_s rfl ?_
      refine e_c rfl hr2 (by omega) ?_
      repeat refine e_s rfl ?_
      refine e_c rfl (r_signB (D := D) (x := 0) g1) (by omega) ?_
      repeat refine e_s rfl ?_
      refine e_c rfl (r_failB (D := D) g1) (by omega) ?_
      repeat refine e_s rfl ?_
      rw [g1]
      repeat refine e_s rfl ?_
      exact e_r rfl
    · obtain ⟨hi2, hx⟩ := hs2
      by_cases h21 : tkc b z p2 = -21
      · obtain ⟨I4, J4, hr4, hf4, hi4⟩ := r_adv (D := D) (n := n) (q := q) (so := so) (dr := dr) (L := L) (ds := ds) hi2 (by rw [h21]; decide) (by rw [h21]; decide)
        refine ⟨I4, J4, w, ?_, (hf1.trans hf2).trans hf4, ?_⟩
        rotate_left
        · show mRs I4 J4 b z fr 0 e w (if tkc b z p2 = -21 then (true, nxt b z p2, a2, v2) else (false, p2, a2, v2))
          rw [if_pos h21]
          exact ⟨hi4, hx⟩
        unfold px_mt
        repeat refine e_s rfl ?_
        rw [hi.2.2.1]
        repeat refine e_s rfl ?_
        refine e_c rfl hr1 (by omega) ?_
        repeat refine e_s rfl ?_
        rw [hi1.2.2.1]
        repeat refine e_s rfl ?_
        refine e_c rfl hr2 (by omega) ?_
        repeat refine e_s rfl ?_
        refine e_c rfl (r_sign (D := D) (m := 59) hi2.2.1 hi2.2.2.1 (by decide) (by decide)) (by omega) ?_
        rw [show decide (tkc b z p2 = mcode (nI 59)) = true from decide_eq_true (h21.trans (by decide))]
        repeat refine e_s rfl ?_
        rw [hi2.2.2.1]
        repeat refine e_s rfl ?_
        refine e_c rfl hr4 (by omega) ?_
        repeat refine e_s rfl ?_
        exact e_r rfl
      · refine ⟨px_u (px_u I2 31 30 1) 31 31 (nI p2), J2, w, ?_, (hf1.trans hf2).trans fl_fr, ?_⟩
        rotate_left
        · show mRs _ J2 b z fr 0 e w (if tkc b z p2 = -21 then (true, nxt b z p2, a2, v2) else (false, p2, a2, v2))
          rw [if_neg h21]
          exact ⟨rfl, rfl⟩
        unfold px_mt
        repeat refine e_s rfl ?_
        rw [hi.2.2.1]
        repeat refine e_s rfl ?_
        refine e_c rfl hr1 (by omega) ?_
        repeat refine e_s rfl ?_
        rw [hi1.2.2.1]
        repeat refine e_s rfl ?_
        refine e_c rfl hr2 (by omega) ?_
        repeat refine e_s rfl ?_
        refine e_c rfl (r_sign (D := D) (m := 59) hi2.2.1 hi2.2.2.1 (by decide) (by decide)) (by omega) ?_
        rw [show decide (tkc b z p2 = mcode (nI 59)) = false from decide_eq_false (fun g => h21 (g.trans (by decide)))]
        repeat refine e_s rfl ?_
        refine e_c rfl (r_failM (D := D) hi2.2.2.1 hi2.2.1.2.2.1) (by omega) ?_
        repeat refine e_s rfl ?_
        exact e_r rfl
  · rw [if_neg ht, decide_eq_false ht]
    refine ⟨px_u (px_u I 31 30 1) 31 31 (nI p), J, 0, ?_, fl_fr, rfl, rfl⟩
    unfold px_mt
    repeat refine e_s rfl ?_
    refine e_c rfl (r_failM (D := D) hi.2.2.1 hi.2.1.2.2.1) (by omega) ?_
    repeat refine e_s rfl ?_
    refine e_c rfl (r_signB (D := D) (x := 0) rfl) (by omega) ?_
    repeat refine e_s rfl ?_
    refine e_c rfl (r_failB (D := D) rfl) (by omega) ?_
    repeat refine e_s rfl ?_
    exact e_r rfl
end PXM5
