/-! THE MODEL: its reader at depth 1 (printed by wip/whole/gen49.py) -/
section PXP1
variable {D n q L : Nat} {so : Option Nat} {I : px_HI} {J : px_HJ} {R dr : px_HR} {S ds : px_HS} {b : Nat → Int32} {z fr p f : Nat} {e : pE} {acc : List Int32} {v : pE → Int32} {y w : Int32} {x2 x3 : Option Value} {r : Option Value × px_G}
theorem cb_199 (hb : I 31 30 = 1) : px_ev (D + 2) 199 5 [some (.ref 31), some (.int y), x2] [] I J (dR so dr) (dS L ds) n q (some (.int y), I, J, dR so dr, dS L ds, n, q) := by
  repeat refine e_s rfl ?_
  refine e_c rfl (r_wordB (D := D) hb) (by omega) ?_
  repeat refine e_s rfl ?_
  exact e_r rfl
theorem tl_199 (k : px_ev (D + 1) 199 5 [some (.ref 31), some (.int (jn (-7) y w)), some (.int w)] [] I J R S n q r) : px_ev (D + 1) 199 30 [some (.ref 31), some (.int y), x2] [.int w] I J R S n q r := by
  rw [show jn (-7) y w = bI (decide (¬ y = 0 ∨ ¬ w = 0)) from rfl] at k
  refine e_s rfl ?_
  refine e_s rfl ?_
  refine e_s rfl ?_
  refine e_b (fun h => ?_) (fun h => ?_)
  · rw [decide_eq_true (Or.inl h)] at k
    refine e_s rfl ?_
    refine e_s rfl ?_
    refine e_s rfl ?_
    refine e_s rfl ?_
    exact k
  · refine e_s rfl ?_
    refine e_s rfl ?_
    refine e_b (fun g => ?_) (fun g => ?_)
    · rw [decide_eq_false (fun c => c.elim h (fun c => c g))] at k
      refine e_s rfl ?_
      refine e_s rfl ?_
      refine e_s rfl ?_
      exact k
    · rw [decide_eq_true (Or.inr g)] at k
      refine e_s rfl ?_
      refine e_s rfl ?_
      refine e_s rfl ?_
      refine e_s rfl ?_
      exact k
theorem mc_0_1 (ihL : mLv b z L so dr ds f) (ihC : mCh b z L so dr ds f) (hf : 20 * (z - p) + 1 ≤ f + 1) (hD : 40 ≤ D) (hi : mI I J b z fr 1 p e) (hy : y = v e) : ∃ I' J' x, px_ev D 199 5 [some (.ref 31), some (.int y), x2] [] I J (dR so dr) (dS L ds) n q (some (.int x), I', J', dR so dr, dS L ds, n, q) ∧ mFr I I' J J' ∧ mRs I' J' b z fr 1 e x (PP b z (f + 1) 10 1 p acc v) := by
  obtain ⟨D, rfl⟩ : ∃ x, D = x + 5 := ⟨D - 5, by omega⟩
  rw [show PP b z (f + 1) 10 1 p acc v = _ from PP_c b z f 0 1 p acc v]
  by_cases ht0 : tkc b z p = -7
  · have ht := ht0
    rw [if_pos (lv_0.mpr ht)]
    have hpz : p < z := tkc_lt (by rw [ht]; decide)
    have hn := nxt_le (b := b) (Nat.le_of_lt hpz)
    have hn2 := hn.2 hpz
    obtain ⟨I1, J1, hr1, hf1, hi1⟩ := r_adv (D := D) (n := n) (q := q) (so := so) (dr := dr) (L := L) (ds := ds) hi (by rw [ht]; decide) (by rw [ht]; decide)
    obtain ⟨I2, J2, w, hr2, hf2, hs2⟩ := ihL 1 1 (nxt b z p) acc v e I1 J1 n q (D + 4) fr (by decide) (by decide) (by omega) (by omega) hi1
    have hle := PP_le b z f 1 1 (nxt b z p) acc v hn.1
    revert hs2 hle
    generalize PP b z f 1 1 (nxt b z p) acc v = r
    intro hs2 hle
    obtain ⟨o, p2, a2, v2⟩ := r
    cases o
    · obtain ⟨g1, g2⟩ := hs2
      refine ⟨I2, J2, jn (-7) y w, ?_, hf1.trans hf2, g1, g2⟩
      repeat refine e_s rfl ?_
      refine e_c rfl (r_word (D := D) (k := 7) (m := 5) (by decide) (by decide) (by decide) hi.1 hi.2.1 hi.2.2.1) (by omega) ?_
      rw [show decide (tkc b z p = wcd 7) = true from decide_eq_true ht]
      repeat refine e_s rfl ?_
      refine e_c rfl hr1 (by omega) ?_
      repeat refine e_s rfl ?_
      refine e_c rfl hr2 (by omega) ?_
      refine tl_199 ?_
      exact cb_199 g1
    · obtain ⟨hi2, hx⟩ := hs2
      have hle1 := hle.2.1
      simp only at hle1
      obtain ⟨I3, J3, x, hr3, hf3, hs3⟩ := ihC 0 1 p2 (a2 ++ [tkc b z p]) (fun e => jn (tkc b z p) (v e) (v2 e)) e (jn (-7) y w) (some (.int w)) none I2 J2 n q (D + 5) fr (by decide) (by decide) (by omega) (by omega) hi2 (by rw [ht, hy, hx])
      refine ⟨I3, J3, x, ?_, (hf1.trans hf2).trans hf3, hs3⟩
      repeat refine e_s rfl ?_
      refine e_c rfl (r_word (D := D) (k := 7) (m := 5) (by decide) (by decide) (by decide) hi.1 hi.2.1 hi.2.2.1) (by omega) ?_
      rw [show decide (tkc b z p = wcd 7) = true from decide_eq_true ht]
      repeat refine e_s rfl ?_
      refine e_c rfl hr1 (by omega) ?_
      repeat refine e_s rfl ?_
      refine e_c rfl hr2 (by omega) ?_
      refine tl_199 ?_
      exact hr3
  rw [if_neg (fun g => ht0 (lv_0.mp g))]
  refine ⟨I, J, y, ?_, mFr.refl I J, hi, hy⟩
  repeat refine e_s rfl ?_
  refine e_c rfl (r_word (D := D) (k := 7) (m := 5) (by decide) (by decide) (by decide) hi.1 hi.2.1 hi.2.2.1) (by omega) ?_
  rw [show decide (tkc b z p = wcd 7) = false from decide_eq_false ht0]
  repeat refine e_s rfl ?_
  exact e_r rfl
theorem cb_200 (hb : I 31 30 = 1) : px_ev (D + 2) 200 5 [some (.ref 31), some (.int y), x2] [] I J (dR so dr) (dS L ds) n q (some (.int y), I, J, dR so dr, dS L ds, n, q) := by
  repeat refine e_s rfl ?_
  refine e_c rfl (r_wordB (D := D) hb) (by omega) ?_
  repeat refine e_s rfl ?_
  exact e_r rfl
theorem tl_200 (k : px_ev (D + 1) 200 5 [some (.ref 31), some (.int (jn (-8) y w)), some (.int w)] [] I J R S n q r) : px_ev (D + 1) 200 31 [some (.ref 31), some (.int y), x2] [.int w] I J R S n q r := by
  rw [show jn (-8) y w = bI (decide (¬ y = 0 ∧ ¬ w = 0)) from rfl] at k
  refine e_s rfl ?_
  refine e_s rfl ?_
  refine e_s rfl ?_
  refine e_b (fun h => ?_) (fun h => ?_)
  · rw [decide_eq_false (fun c => c.1 h)] at k
    refine e_s rfl ?_
    refine e_s rfl ?_
    refine e_s rfl ?_
    exact k
  · refine e_s rfl ?_
    refine e_s rfl ?_
    refine e_b (fun g => ?_) (fun g => ?_)
    · rw [decide_eq_false (fun c => c.2 g)] at k
      refine e_s rfl ?_
      refine e_s rfl ?_
      refine e_s rfl ?_
      exact k
    · rw [decide_eq_true ⟨h, g⟩] at k
      refine e_s rfl ?_
      refine e_s rfl ?_
      refine e_s rfl ?_
      refine e_s rfl ?_
      exact k
theorem mc_1_1 (ihL : mLv b z L so dr ds f) (ihC : mCh b z L so dr ds f) (hf : 20 * (z - p) + 1 ≤ f + 1) (hD : 39 ≤ D) (hi : mI I J b z fr 1 p e) (hy : y = v e) : ∃ I' J' x, px_ev D 200 5 [some (.ref 31), some (.int y), x2] [] I J (dR so dr) (dS L ds) n q (some (.int x), I', J', dR so dr, dS L ds, n, q) ∧ mFr I I' J J' ∧ mRs I' J' b z fr 1 e x (PP b z (f + 1) 11 1 p acc v) := by
  obtain ⟨D, rfl⟩ : ∃ x, D = x + 5 := ⟨D - 5, by omega⟩
  rw [show PP b z (f + 1) 11 1 p acc v = _ from PP_c b z f 1 1 p acc v]
  by_cases ht0 : tkc b z p = -8
  · have ht := ht0
    rw [if_pos (lv_1.mpr ht)]
    have hpz : p < z := tkc_lt (by rw [ht]; decide)
    have hn := nxt_le (b := b) (Nat.le_of_lt hpz)
    have hn2 := hn.2 hpz
    obtain ⟨I1, J1, hr1, hf1, hi1⟩ := r_adv (D := D) (n := n) (q := q) (so := so) (dr := dr) (L := L) (ds := ds) hi (by rw [ht]; decide) (by rw [ht]; decide)
    obtain ⟨I2, J2, w, hr2, hf2, hs2⟩ := ihL 2 1 (nxt b z p) acc v e I1 J1 n q (D + 4) fr (by decide) (by decide) (by omega) (by omega) hi1
    have hle := PP_le b z f 2 1 (nxt b z p) acc v hn.1
    revert hs2 hle
    generalize PP b z f 2 1 (nxt b z p) acc v = r
    intro hs2 hle
    obtain ⟨o, p2, a2, v2⟩ := r
    cases o
    · obtain ⟨g1, g2⟩ := hs2
      refine ⟨I2, J2, jn (-8) y w, ?_, hf1.trans hf2, g1, g2⟩
      repeat refine e_s rfl ?_
      refine e_c rfl (r_word (D := D) (k := 8) (m := 4) (by decide) (by decide) (by decide) hi.1 hi.2.1 hi.2.2.1) (by omega) ?_
      rw [show decide (tkc b z p = wcd 8) = true from decide_eq_true ht]
      repeat refine e_s rfl ?_
      refine e_c rfl hr1 (by omega) ?_
      repeat refine e_s rfl ?_
      refine e_c rfl hr2 (by omega) ?_
      refine tl_200 ?_
      exact cb_200 g1
    · obtain ⟨hi2, hx⟩ := hs2
      have hle1 := hle.2.1
      simp only at hle1
      obtain ⟨I3, J3, x, hr3, hf3, hs3⟩ := ihC 1 1 p2 (a2 ++ [tkc b z p]) (fun e => jn (tkc b z p) (v e) (v2 e)) e (jn (-8) y w) (some (.int w)) none I2 J2 n q (D + 5) fr (by decide) (by decide) (by omega) (by omega) hi2 (by rw [ht, hy, hx])
      refine ⟨I3, J3, x, ?_, (hf1.trans hf2).trans hf3, hs3⟩
      repeat refine e_s rfl ?_
      refine e_c rfl (r_word (D := D) (k := 8) (m := 4) (by decide) (by decide) (by decide) hi.1 hi.2.1 hi.2.2.1) (by omega) ?_
      rw [show decide (tkc b z p = wcd 8) = true from decide_eq_true ht]
      repeat refine e_s rfl ?_
      refine e_c rfl hr1 (by omega) ?_
      repeat refine e_s rfl ?_
      refine e_c rfl hr2 (by omega) ?_
      refine tl_200 ?_
      exact hr3
  rw [if_neg (fun g => ht0 (lv_1.mp g))]
  refine ⟨I, J, y, ?_, mFr.refl I J, hi, hy⟩
  repeat refine e_s rfl ?_
  refine e_c rfl (r_word (D := D) (k := 8) (m := 4) (by decide) (by decide) (by decide) hi.1 hi.2.1 hi.2.2.1) (by omega) ?_
  rw [show decide (tkc b z p = wcd 8) = false from decide_eq_false ht0]
  repeat refine e_s rfl ?_
  exact e_r rfl
theorem cb_166 (hb : I 31 30 = 1) : px_ev (D + 2) 166 57 [some (.ref 31), some (.int y), x2, x3] [] I J (dR so dr) (dS L ds) n q (some (.int y), I, J, dR so dr, dS L ds, n, q) := by
  repeat refine e_s rfl ?_
  refine e_c rfl (r_signB (D := D) (x := 0) hb) (by omega) ?_
  repeat refine e_s rfl ?_
  refine e_c rfl (r_signB (D := D) (x := 0) hb) (by omega) ?_
  repeat refine e_s rfl ?_
  exact e_r rfl
theorem tll_166 : px_ev (D + 1) 166 102 [some (.ref 31), some (.int y), some (.int 1), x3] [.int w] I J R S n q (some (.int (jn (-10) y w)), I, J, R, S, n, q) := by
  rw [show jn (-10) y w = bI (decide (y < w)) from rfl]
  repeat refine e_s rfl ?_
  refine e_b (fun h => ?_) (fun h => ?_)
  · rw [decide_eq_false (Int32.not_lt.mpr h)]
    repeat refine e_s rfl ?_
    exact e_r rfl
  · rw [decide_eq_true (Int32.not_le.mp h)]
    repeat refine e_s rfl ?_
    exact e_r rfl
theorem tle_166 : px_ev (D + 1) 166 102 [some (.ref 31), some (.int y), some (.int 0), x3] [.int w] I J R S n q (some (.int (jn (-11) y w)), I, J, R, S, n, q) := by
  rw [show jn (-11) y w = bI (decide (y = w)) from rfl]
  repeat refine e_s rfl ?_
  refine e_b (fun h => ?_) (fun h => ?_)
  · rw [decide_eq_false h]
    repeat refine e_s rfl ?_
    exact e_r rfl
  · rw [decide_eq_true (Classical.not_not.mp h)]
    repeat refine e_s rfl ?_
    exact e_r rfl
theorem mc_2_1 (ihL : mLv b z L so dr ds f) (ihC : mCh b z L so dr ds f) (hf : 20 * (z - p) + 1 ≤ f + 1) (hD : 38 ≤ D) (hi : mI I J b z fr 1 p e) (hy : y = v e) : ∃ I' J' x, px_ev D 166 57 [some (.ref 31), some (.int y), x2, x3] [] I J (dR so dr) (dS L ds) n q (some (.int x), I', J', dR so dr, dS L ds, n, q) ∧ mFr I I' J J' ∧ mRs I' J' b z fr 1 e x (PP b z (f + 1) 12 1 p acc v) := by
  obtain ⟨D, rfl⟩ : ∃ x, D = x + 5 := ⟨D - 5, by omega⟩
  rw [show PP b z (f + 1) 12 1 p acc v = _ from PP_c b z f 2 1 p acc v]
  by_cases ht0 : tkc b z p = -10
  · have ht := ht0
    rw [if_pos (lv_2.mpr (Or.inl ht))]
    have hpz : p < z := tkc_lt (by rw [ht]; decide)
    have hn := nxt_le (b := b) (Nat.le_of_lt hpz)
    have hn2 := hn.2 hpz
    obtain ⟨I1, J1, hr1, hf1, hi1⟩ := r_adv (D := D) (n := n) (q := q) (so := so) (dr := dr) (L := L) (ds := ds) hi (by rw [ht]; decide) (by rw [ht]; decide)
    obtain ⟨I2, J2, w, hr2, hf2, hs2⟩ := ihL 3 1 (nxt b z p) acc v e I1 J1 n q (D + 4) fr (by decide) (by decide) (by omega) (by omega) hi1
    have hle := PP_le b z f 3 1 (nxt b z p) acc v hn.1
    revert hs2 hle
    generalize PP b z f 3 1 (nxt b z p) acc v = r
    intro hs2 hle
    obtain ⟨o, p2, a2, v2⟩ := r
    cases o
    · obtain ⟨g1, g2⟩ := hs2
      refine ⟨I2, J2, jn (-10) y w, ?_, hf1.trans hf2, g1, g2⟩
      repeat refine e_s rfl ?_
      refine e_c rfl (r_sign (D := D) (m := 60) hi.2.1 hi.2.2.1 (by decide) (by decide)) (by omega) ?_
      rw [show decide (tkc b z p = mcode (nI 60)) = true from decide_eq_true (ht.trans (by decide))]
      repeat refine e_s rfl ?_
      rw [sg_at hi (m := 60) (by decide) (by decide) (ht.trans (by decide))]
      refine e_pc (p2 := 88) (by decide) ?_
      repeat refine e_s rfl ?_
      refine e_c rfl hr1 (by omega) ?_
      repeat refine e_s rfl ?_
      refine e_c rfl hr2 (by omega) ?_
      exact tll_166
    · obtain ⟨hi2, hx⟩ := hs2
      refine ⟨I2, J2, jn (-10) y w, ?_, hf1.trans hf2, hi2, ?_⟩
      rotate_left
      · show jn (-10) y w = jn (tkc b z p) (v e) (v2 e)
        rw [ht, hy, hx]
      repeat refine e_s rfl ?_
      refine e_c rfl (r_sign (D := D) (m := 60) hi.2.1 hi.2.2.1 (by decide) (by decide)) (by omega) ?_
      rw [show decide (tkc b z p = mcode (nI 60)) = true from decide_eq_true (ht.trans (by decide))]
      repeat refine e_s rfl ?_
      rw [sg_at hi (m := 60) (by decide) (by decide) (ht.trans (by decide))]
      refine e_pc (p2 := 88) (by decide) ?_
      repeat refine e_s rfl ?_
      refine e_c rfl hr1 (by omega) ?_
      repeat refine e_s rfl ?_
      refine e_c rfl hr2 (by omega) ?_
      exact tll_166
  by_cases ht1 : tkc b z p = -11
  · have ht := ht1
    rw [if_pos (lv_2.mpr (Or.inr ht))]
    have hpz : p < z := tkc_lt (by rw [ht]; decide)
    have hn := nxt_le (b := b) (Nat.le_of_lt hpz)
    have hn2 := hn.2 hpz
    obtain ⟨I1, J1, hr1, hf1, hi1⟩ := r_adv (D := D) (n := n) (q := q) (so := so) (dr := dr) (L := L) (ds := ds) hi (by rw [ht]; decide) (by rw [ht]; decide)
    obtain ⟨I2, J2, w, hr2, hf2, hs2⟩ := ihL 3 1 (nxt b z p) acc v e I1 J1 n q (D + 4) fr (by decide) (by decide) (by omega) (by omega) hi1
    have hle := PP_le b z f 3 1 (nxt b z p) acc v hn.1
    revert hs2 hle
    generalize PP b z f 3 1 (nxt b z p) acc v = r
    intro hs2 hle
    obtain ⟨o, p2, a2, v2⟩ := r
    cases o
    · obtain ⟨g1, g2⟩ := hs2
      refine ⟨I2, J2, jn (-11) y w, ?_, hf1.trans hf2, g1, g2⟩
      repeat refine e_s rfl ?_
      refine e_c rfl (r_sign (D := D) (m := 60) hi.2.1 hi.2.2.1 (by decide) (by decide)) (by omega) ?_
      rw [show decide (tkc b z p = mcode (nI 60)) = false from decide_eq_false (by rw [ht]; decide)]
      repeat refine e_s rfl ?_
      refine e_c rfl (r_sign (D := D) (m := 61) hi.2.1 hi.2.2.1 (by decide) (by decide)) (by omega) ?_
      rw [show decide (tkc b z p = mcode (nI 61)) = true from decide_eq_true (ht.trans (by decide))]
      repeat refine e_s rfl ?_
      rw [sg_at hi (m := 61) (by decide) (by decide) (ht.trans (by decide))]
      refine e_pc (p2 := 92) (by decide) ?_
      repeat refine e_s rfl ?_
      refine e_c rfl hr1 (by omega) ?_
      repeat refine e_s rfl ?_
      refine e_c rfl hr2 (by omega) ?_
      exact tle_166
    · obtain ⟨hi2, hx⟩ := hs2
      refine ⟨I2, J2, jn (-11) y w, ?_, hf1.trans hf2, hi2, ?_⟩
      rotate_left
      · show jn (-11) y w = jn (tkc b z p) (v e) (v2 e)
        rw [ht, hy, hx]
      repeat refine e_s rfl ?_
      refine e_c rfl (r_sign (D := D) (m := 60) hi.2.1 hi.2.2.1 (by decide) (by decide)) (by omega) ?_
      rw [show decide (tkc b z p = mcode (nI 60)) = false from decide_eq_false (by rw [ht]; decide)]
      repeat refine e_s rfl ?_
      refine e_c rfl (r_sign (D := D) (m := 61) hi.2.1 hi.2.2.1 (by decide) (by decide)) (by omega) ?_
      rw [show decide (tkc b z p = mcode (nI 61)) = true from decide_eq_true (ht.trans (by decide))]
      repeat refine e_s rfl ?_
      rw [sg_at hi (m := 61) (by decide) (by decide) (ht.trans (by decide))]
      refine e_pc (p2 := 92) (by decide) ?_
      repeat refine e_s rfl ?_
      refine e_c rfl hr1 (by omega) ?_
      repeat refine e_s rfl ?_
      refine e_c rfl hr2 (by omega) ?_
      exact tle_166
  rw [if_neg (fun g => (lv_2.mp g).elim ht0 ht1)]
  refine ⟨I, J, y, ?_, mFr.refl I J, hi, hy⟩
  repeat refine e_s rfl ?_
  refine e_c rfl (r_sign (D := D) (m := 60) hi.2.1 hi.2.2.1 (by decide) (by decide)) (by omega) ?_
  rw [show decide (tkc b z p = mcode (nI 60)) = false from decide_eq_false (fun g => ht0 (g.trans (by decide)))]
  repeat refine e_s rfl ?_
  refine e_c rfl (r_sign (D := D) (m := 61) hi.2.1 hi.2.2.1 (by decide) (by decide)) (by omega) ?_
  rw [show decide (tkc b z p = mcode (nI 61)) = false from decide_eq_false (fun g => ht1 (g.trans (by decide)))]
  repeat refine e_s rfl ?_
  exact e_r rfl
theorem cb_191 (hb : I 31 30 = 1) : px_ev (D + 2) 191 5 [some (.ref 31), some (.int y), x2, x3] [] I J (dR so dr) (dS L ds) n q (some (.int y), I, J, dR so dr, dS L ds, n, q) := by
  repeat refine e_s rfl ?_
  refine e_c rfl (r_signB (D := D) (x := 0) hb) (by omega) ?_
  repeat refine e_s rfl ?_
  refine e_c rfl (r_signB (D := D) (x := 0) hb) (by omega) ?_
  repeat refine e_s rfl ?_
  exact e_r rfl
theorem tlp_191 (k : px_ev (D + 1) 191 5 [some (.ref 31), some (.int (jn (-12) y w)), some (.int 1), some (.int w)] [] I J R S n q r) : px_ev (D + 1) 191 48 [some (.ref 31), some (.int y), some (.int 1), x3] [.int w] I J R S n q r := by
  refine e_s rfl ?_
  refine e_s rfl ?_
  refine e_s rfl ?_
  refine e_s rfl ?_
  refine e_s rfl ?_
  refine e_s rfl ?_
  refine e_s rfl ?_
  refine e_s rfl ?_
  refine e_s rfl ?_
  exact k
theorem tlm_191 (k : px_ev (D + 1) 191 5 [some (.ref 31), some (.int (jn (-13) y w)), some (.int 0), some (.int w)] [] I J R S n q r) : px_ev (D + 1) 191 48 [some (.ref 31), some (.int y), some (.int 0), x3] [.int w] I J R S n q r := by
  refine e_s rfl ?_
  refine e_s rfl ?_
  refine e_s rfl ?_
  refine e_s rfl ?_
  refine e_s rfl ?_
  refine e_s rfl ?_
  refine e_s rfl ?_
  refine e_s rfl ?_
  exact k
theorem mc_3_1 (ihL : mLv b z L so dr ds f) (ihC : mCh b z L so dr ds f) (hf : 20 * (z - p) + 1 ≤ f + 1) (hD : 37 ≤ D) (hi : mI I J b z fr 1 p e) (hy : y = v e) : ∃ I' J' x, px_ev D 191 5 [some (.ref 31), some (.int y), x2, x3] [] I J (dR so dr) (dS L ds) n q (some (.int x), I', J', dR so dr, dS L ds, n, q) ∧ mFr I I' J J' ∧ mRs I' J' b z fr 1 e x (PP b z (f + 1) 13 1 p acc v) := by
  obtain ⟨D, rfl⟩ : ∃ x, D = x + 5 := ⟨D - 5, by omega⟩
  rw [show PP b z (f + 1) 13 1 p acc v = _ from PP_c b z f 3 1 p acc v]
  by_cases ht0 : tkc b z p = -12
  · have ht := ht0
    rw [if_pos (lv_3.mpr (Or.inl ht))]
    have hpz : p < z := tkc_lt (by rw [ht]; decide)
    have hn := nxt_le (b := b) (Nat.le_of_lt hpz)
    have hn2 := hn.2 hpz
    obtain ⟨I1, J1, hr1, hf1, hi1⟩ := r_adv (D := D) (n := n) (q := q) (so := so) (dr := dr) (L := L) (ds := ds) hi (by rw [ht]; decide) (by rw [ht]; decide)
    obtain ⟨I2, J2, w, hr2, hf2, hs2⟩ := ihL 4 1 (nxt b z p) acc v e I1 J1 n q (D + 4) fr (by decide) (by decide) (by omega) (by omega) hi1
    have hle := PP_le b z f 4 1 (nxt b z p) acc v hn.1
    revert hs2 hle
    generalize PP b z f 4 1 (nxt b z p) acc v = r
    intro hs2 hle
    obtain ⟨o, p2, a2, v2⟩ := r
    cases o
    · obtain ⟨g1, g2⟩ := hs2
      refine ⟨I2, J2, jn (-12) y w, ?_, hf1.trans hf2, g1, g2⟩
      repeat refine e_s rfl ?_
      refine e_c rfl (r_sign (D := D) (m := 43) hi.2.1 hi.2.2.1 (by decide) (by decide)) (by omega) ?_
      rw [show decide (tkc b z p = mcode (nI 43)) = true from decide_eq_true (ht.trans (by decide))]
      repeat refine e_s rfl ?_
      rw [sg_at hi (m := 43) (by decide) (by decide) (ht.trans (by decide))]
      refine e_pc (p2 := 34) (by decide) ?_
      repeat refine e_s rfl ?_
      refine e_c rfl hr1 (by omega) ?_
      repeat refine e_s rfl ?_
      refine e_c rfl hr2 (by omega) ?_
      refine tlp_191 ?_
      exact cb_191 g1
    · obtain ⟨hi2, hx⟩ := hs2
      have hle1 := hle.2.1
      simp only at hle1
      obtain ⟨I3, J3, x, hr3, hf3, hs3⟩ := ihC 3 1 p2 (a2 ++ [tkc b z p]) (fun e => jn (tkc b z p) (v e) (v2 e)) e (jn (-12) y w) (some (.int 1)) (some (.int w)) I2 J2 n q (D + 5) fr (by decide) (by decide) (by omega) (by omega) hi2 (by rw [ht, hy, hx])
      refine ⟨I3, J3, x, ?_, (hf1.trans hf2).trans hf3, hs3⟩
      repeat refine e_s rfl ?_
      refine e_c rfl (r_sign (D := D) (m := 43) hi.2.1 hi.2.2.1 (by decide) (by decide)) (by omega) ?_
      rw [show decide (tkc b z p = mcode (nI 43)) = true from decide_eq_true (ht.trans (by decide))]
      repeat refine e_s rfl ?_
      rw [sg_at hi (m := 43) (by decide) (by decide) (ht.trans (by decide))]
      refine e_pc (p2 := 34) (by decide) ?_
      repeat refine e_s rfl ?_
      refine e_c rfl hr1 (by omega) ?_
      repeat refine e_s rfl ?_
      refine e_c rfl hr2 (by omega) ?_
      refine tlp_191 ?_
      exact hr3
  by_cases ht1 : tkc b z p = -13
  · have ht := ht1
    rw [if_pos (lv_3.mpr (Or.inr ht))]
    have hpz : p < z := tkc_lt (by rw [ht]; decide)
    have hn := nxt_le (b := b) (Nat.le_of_lt hpz)
    have hn2 := hn.2 hpz
    obtain ⟨I1, J1, hr1, hf1, hi1⟩ := r_adv (D := D) (n := n) (q := q) (so := so) (dr := dr) (L := L) (ds := ds) hi (by rw [ht]; decide) (by rw [ht]; decide)
    obtain ⟨I2, J2, w, hr2, hf2, hs2⟩ := ihL 4 1 (nxt b z p) acc v e I1 J1 n q (D + 4) fr (by decide) (by decide) (by omega) (by omega) hi1
    have hle := PP_le b z f 4 1 (nxt b z p) acc v hn.1
    revert hs2 hle
    generalize PP b z f 4 1 (nxt b z p) acc v = r
    intro hs2 hle
    obtain ⟨o, p2, a2, v2⟩ := r
    cases o
    · obtain ⟨g1, g2⟩ := hs2
      refine ⟨I2, J2, jn (-13) y w, ?_, hf1.trans hf2, g1, g2⟩
      repeat refine e_s rfl ?_
      refine e_c rfl (r_sign (D := D) (m := 43) hi.2.1 hi.2.2.1 (by decide) (by decide)) (by omega) ?_
      rw [show decide (tkc b z p = mcode (nI 43)) = false from decide_eq_false (by rw [ht]; decide)]
      repeat refine e_s rfl ?_
      refine e_c rfl (r_sign (D := D) (m := 45) hi.2.1 hi.2.2.1 (by decide) (by decide)) (by omega) ?_
      rw [show decide (tkc b z p = mcode (nI 45)) = true from decide_eq_true (ht.trans (by decide))]
      repeat refine e_s rfl ?_
      rw [sg_at hi (m := 45) (by decide) (by decide) (ht.trans (by decide))]
      refine e_pc (p2 := 38) (by decide) ?_
      repeat refine e_s rfl ?_
      refine e_c rfl hr1 (by omega) ?_
      repeat refine e_s rfl ?_
      refine e_c rfl hr2 (by omega) ?_
      refine tlm_191 ?_
      exact cb_191 g1
    · obtain ⟨hi2, hx⟩ := hs2
      have hle1 := hle.2.1
      simp only at hle1
      obtain ⟨I3, J3, x, hr3, hf3, hs3⟩ := ihC 3 1 p2 (a2 ++ [tkc b z p]) (fun e => jn (tkc b z p) (v e) (v2 e)) e (jn (-13) y w) (some (.int 0)) (some (.int w)) I2 J2 n q (D + 5) fr (by decide) (by decide) (by omega) (by omega) hi2 (by rw [ht, hy, hx])
      refine ⟨I3, J3, x, ?_, (hf1.trans hf2).trans hf3, hs3⟩
      repeat refine e_s rfl ?_
      refine e_c rfl (r_sign (D := D) (m := 43) hi.2.1 hi.2.2.1 (by decide) (by decide)) (by omega) ?_
      rw [show decide (tkc b z p = mcode (nI 43)) = false from decide_eq_false (by rw [ht]; decide)]
      repeat refine e_s rfl ?_
      refine e_c rfl (r_sign (D := D) (m := 45) hi.2.1 hi.2.2.1 (by decide) (by decide)) (by omega) ?_
      rw [show decide (tkc b z p = mcode (nI 45)) = true from decide_eq_true (ht.trans (by decide))]
      repeat refine e_s rfl ?_
      rw [sg_at hi (m := 45) (by decide) (by decide) (ht.trans (by decide))]
      refine e_pc (p2 := 38) (by decide) ?_
      repeat refine e_s rfl ?_
      refine e_c rfl hr1 (by omega) ?_
      repeat refine e_s rfl ?_
      refine e_c rfl hr2 (by omega) ?_
      refine tlm_191 ?_
      exact hr3
  rw [if_neg (fun g => (lv_3.mp g).elim ht0 ht1)]
  refine ⟨I, J, y, ?_, mFr.refl I J, hi, hy⟩
  repeat refine e_s rfl ?_
  refine e_c rfl (r_sign (D := D) (m := 43) hi.2.1 hi.2.2.1 (by decide) (by decide)) (by omega) ?_
  rw [show decide (tkc b z p = mcode (nI 43)) = false from decide_eq_false (fun g => ht0 (g.trans (by decide)))]
  repeat refine e_s rfl ?_
  refine e_c rfl (r_sign (D := D) (m := 45) hi.2.1 hi.2.2.1 (by decide) (by decide)) (by omega) ?_
  rw [show decide (tkc b z p = mcode (nI 45)) = false from decide_eq_false (fun g => ht1 (g.trans (by decide)))]
  repeat refine e_s rfl ?_
  exact e_r rfl
theorem cb_192 (hb : I 31 30 = 1) : px_ev (D + 2) 192 5 [some (.ref 31), some (.int y)] [] I J (dR so dr) (dS L ds) n q (some (.int y), I, J, dR so dr, dS L ds, n, q) := by
  repeat refine e_s rfl ?_
  refine e_c rfl (r_signB (D := D) (x := 0) hb) (by omega) ?_
  repeat refine e_s rfl ?_
  exact e_r rfl
theorem tl_192 (k : px_ev (D + 1) 192 5 [some (.ref 31), some (.int (jn (-14) y w))] [] I J R S n q r) : px_ev (D + 1) 192 23 [some (.ref 31), some (.int y)] [.int w, .int y] I J R S n q r := by
  refine e_s rfl ?_
  refine e_s rfl ?_
  refine e_s rfl ?_
  exact k
theorem mc_4_1 (ihL : mLv b z L so dr ds f) (ihC : mCh b z L so dr ds f) (hf : 20 * (z - p) + 1 ≤ f + 1) (hD : 36 ≤ D) (hi : mI I J b z fr 1 p e) (hy : y = v e) : ∃ I' J' x, px_ev D 192 5 [some (.ref 31), some (.int y)] [] I J (dR so dr) (dS L ds) n q (some (.int x), I', J', dR so dr, dS L ds, n, q) ∧ mFr I I' J J' ∧ mRs I' J' b z fr 1 e x (PP b z (f + 1) 14 1 p acc v) := by
  obtain ⟨D, rfl⟩ : ∃ x, D = x + 5 := ⟨D - 5, by omega⟩
  rw [show PP b z (f + 1) 14 1 p acc v = _ from PP_c b z f 4 1 p acc v]
  by_cases ht0 : tkc b z p = -14
  · have ht := ht0
    rw [if_pos (lv_4.mpr ht)]
    have hpz : p < z := tkc_lt (by rw [ht]; decide)
    have hn := nxt_le (b := b) (Nat.le_of_lt hpz)
    have hn2 := hn.2 hpz
    obtain ⟨I1, J1, hr1, hf1, hi1⟩ := r_adv (D := D) (n := n) (q := q) (so := so) (dr := dr) (L := L) (ds := ds) hi (by rw [ht]; decide) (by rw [ht]; decide)
    obtain ⟨I2, J2, w, hr2, hf2, hs2⟩ := ihL 5 1 (nxt b z p) acc v e I1 J1 n q (D + 4) fr (by decide) (by decide) (by omega) (by omega) hi1
    have hle := PP_le b z f 5 1 (nxt b z p) acc v hn.1
    revert hs2 hle
    generalize PP b z f 5 1 (nxt b z p) acc v = r
    intro hs2 hle
    obtain ⟨o, p2, a2, v2⟩ := r
    cases o
    · obtain ⟨g1, g2⟩ := hs2
      refine ⟨I2, J2, jn (-14) y w, ?_, hf1.trans hf2, g1, g2⟩
      repeat refine e_s rfl ?_
      refine e_c rfl (r_sign (D := D) (m := 42) hi.2.1 hi.2.2.1 (by decide) (by decide)) (by omega) ?_
      rw [show decide (tkc b z p = mcode (nI 42)) = true from decide_eq_true (ht.trans (by decide))]
      repeat refine e_s rfl ?_
      refine e_c rfl hr1 (by omega) ?_
      repeat refine e_s rfl ?_
      refine e_c rfl hr2 (by omega) ?_
      refine tl_192 ?_
      exact cb_192 g1
    · obtain ⟨hi2, hx⟩ := hs2
      have hle1 := hle.2.1
      simp only at hle1
      obtain ⟨I3, J3, x, hr3, hf3, hs3⟩ := ihC 4 1 p2 (a2 ++ [tkc b z p]) (fun e => jn (tkc b z p) (v e) (v2 e)) e (jn (-14) y w) none none I2 J2 n q (D + 5) fr (by decide) (by decide) (by omega) (by omega) hi2 (by rw [ht, hy, hx])
      refine ⟨I3, J3, x, ?_, (hf1.trans hf2).trans hf3, hs3⟩
      repeat refine e_s rfl ?_
      refine e_c rfl (r_sign (D := D) (m := 42) hi.2.1 hi.2.2.1 (by decide) (by decide)) (by omega) ?_
      rw [show decide (tkc b z p = mcode (nI 42)) = true from decide_eq_true (ht.trans (by decide))]
      repeat refine e_s rfl ?_
      refine e_c rfl hr1 (by omega) ?_
      repeat refine e_s rfl ?_
      refine e_c rfl hr2 (by omega) ?_
      refine tl_192 ?_
      exact hr3
  rw [if_neg (fun g => ht0 (lv_4.mp g))]
  refine ⟨I, J, y, ?_, mFr.refl I J, hi, hy⟩
  repeat refine e_s rfl ?_
  refine e_c rfl (r_sign (D := D) (m := 42) hi.2.1 hi.2.2.1 (by decide) (by decide)) (by omega) ?_
  rw [show decide (tkc b z p = mcode (nI 42)) = false from decide_eq_false (fun g => ht0 (g.trans (by decide)))]
  repeat refine e_s rfl ?_
  exact e_r rfl
theorem ml_0_1 (ihL : mLv b z L so dr ds f) (ihC : mCh b z L so dr ds f) (hf : 20 * (z - p) + 12 - 0 ≤ f + 1) (hD : 40 ≤ D) (hi : mI I J b z fr 1 p e) : ∃ I' J' x, px_mt D 199 [.ref 31] I J (dR so dr) (dS L ds) n q (some (.int x), I', J', dR so dr, dS L ds, n, q) ∧ mFr I I' J J' ∧ mRs I' J' b z fr 1 e x (PP b z (f + 1) 0 1 p acc v) := by
  obtain ⟨D, rfl⟩ : ∃ x, D = x + 5 := ⟨D - 5, by omega⟩
  rw [PP_l b z f 0 1 p acc v (by decide) (fun g => absurd g.1 (by decide))]
  obtain ⟨I2, J2, w, hr2, hf2, hs2⟩ := ihL 1 1 p acc v e I J n q (D + 4) fr (by decide) (by decide) (by omega) (by omega) hi
  have hle := PP_le b z f 1 1 p acc v hi.2.1.1
  revert hs2 hle
  generalize PP b z f 1 1 p acc v = r
  intro hs2 hle
  obtain ⟨o, p2, a2, v2⟩ := r
  cases o
  · obtain ⟨g1, g2⟩ := hs2
    refine ⟨I2, J2, w, ?_, hf2, g1, g2⟩
    unfold px_mt
    repeat refine e_s rfl ?_
    refine e_c rfl hr2 (by omega) ?_
    refine e_s rfl ?_
    exact cb_199 g1
  · obtain ⟨hi2, hx⟩ := hs2
    have hle1 := hle.2.2 rfl (by decide)
    have hle2 := hle.1
    simp only at hle1 hle2
    obtain ⟨I3, J3, x, hr3, hf3, hs3⟩ := ihC 0 1 p2 a2 v2 e w none none I2 J2 n q (D + 5) fr (by decide) (by decide) (by omega) (by omega) hi2 hx
    refine ⟨I3, J3, x, ?_, hf2.trans hf3, hs3⟩
    unfold px_mt
    repeat refine e_s rfl ?_
    refine e_c rfl hr2 (by omega) ?_
    refine e_s rfl ?_
    exact hr3
theorem ml_1_1 (ihL : mLv b z L so dr ds f) (ihC : mCh b z L so dr ds f) (hf : 20 * (z - p) + 12 - 1 ≤ f + 1) (hD : 39 ≤ D) (hi : mI I J b z fr 1 p e) : ∃ I' J' x, px_mt D 200 [.ref 31] I J (dR so dr) (dS L ds) n q (some (.int x), I', J', dR so dr, dS L ds, n, q) ∧ mFr I I' J J' ∧ mRs I' J' b z fr 1 e x (PP b z (f + 1) 1 1 p acc v) := by
  obtain ⟨D, rfl⟩ : ∃ x, D = x + 5 := ⟨D - 5, by omega⟩
  rw [PP_l b z f 1 1 p acc v (by decide) (fun g => absurd g.1 (by decide))]
  obtain ⟨I2, J2, w, hr2, hf2, hs2⟩ := ihL 2 1 p acc v e I J n q (D + 4) fr (by decide) (by decide) (by omega) (by omega) hi
  have hle := PP_le b z f 2 1 p acc v hi.2.1.1
  revert hs2 hle
  generalize PP b z f 2 1 p acc v = r
  intro hs2 hle
  obtain ⟨o, p2, a2, v2⟩ := r
  cases o
  · obtain ⟨g1, g2⟩ := hs2
    refine ⟨I2, J2, w, ?_, hf2, g1, g2⟩
    unfold px_mt
    repeat refine e_s rfl ?_
    refine e_c rfl hr2 (by omega) ?_
    refine e_s rfl ?_
    exact cb_200 g1
  · obtain ⟨hi2, hx⟩ := hs2
    have hle1 := hle.2.2 rfl (by decide)
    have hle2 := hle.1
    simp only at hle1 hle2
    obtain ⟨I3, J3, x, hr3, hf3, hs3⟩ := ihC 1 1 p2 a2 v2 e w none none I2 J2 n q (D + 5) fr (by decide) (by decide) (by omega) (by omega) hi2 hx
    refine ⟨I3, J3, x, ?_, hf2.trans hf3, hs3⟩
    unfold px_mt
    repeat refine e_s rfl ?_
    refine e_c rfl hr2 (by omega) ?_
    refine e_s rfl ?_
    exact hr3
theorem ml_3_1 (ihL : mLv b z L so dr ds f) (ihC : mCh b z L so dr ds f) (hf : 20 * (z - p) + 12 - 3 ≤ f + 1) (hD : 37 ≤ D) (hi : mI I J b z fr 1 p e) : ∃ I' J' x, px_mt D 191 [.ref 31] I J (dR so dr) (dS L ds) n q (some (.int x), I', J', dR so dr, dS L ds, n, q) ∧ mFr I I' J J' ∧ mRs I' J' b z fr 1 e x (PP b z (f + 1) 3 1 p acc v) := by
  obtain ⟨D, rfl⟩ : ∃ x, D = x + 5 := ⟨D - 5, by omega⟩
  rw [PP_l b z f 3 1 p acc v (by decide) (fun g => absurd g.1 (by decide))]
  obtain ⟨I2, J2, w, hr2, hf2, hs2⟩ := ihL 4 1 p acc v e I J n q (D + 4) fr (by decide) (by decide) (by omega) (by omega) hi
  have hle := PP_le b z f 4 1 p acc v hi.2.1.1
  revert hs2 hle
  generalize PP b z f 4 1 p acc v = r
  intro hs2 hle
  obtain ⟨o, p2, a2, v2⟩ := r
  cases o
  · obtain ⟨g1, g2⟩ := hs2
    refine ⟨I2, J2, w, ?_, hf2, g1, g2⟩
    unfold px_mt
    repeat refine e_s rfl ?_
    refine e_c rfl hr2 (by omega) ?_
    refine e_s rfl ?_
    exact cb_191 g1
  · obtain ⟨hi2, hx⟩ := hs2
    have hle1 := hle.2.2 rfl (by decide)
    have hle2 := hle.1
    simp only at hle1 hle2
    obtain ⟨I3, J3, x, hr3, hf3, hs3⟩ := ihC 3 1 p2 a2 v2 e w none none I2 J2 n q (D + 5) fr (by decide) (by decide) (by omega) (by omega) hi2 hx
    refine ⟨I3, J3, x, ?_, hf2.trans hf3, hs3⟩
    unfold px_mt
    repeat refine e_s rfl ?_
    refine e_c rfl hr2 (by omega) ?_
    refine e_s rfl ?_
    exact hr3
theorem ml_4_1 (ihL : mLv b z L so dr ds f) (ihC : mCh b z L so dr ds f) (hf : 20 * (z - p) + 12 - 4 ≤ f + 1) (hD : 36 ≤ D) (hi : mI I J b z fr 1 p e) : ∃ I' J' x, px_mt D 192 [.ref 31] I J (dR so dr) (dS L ds) n q (some (.int x), I', J', dR so dr, dS L ds, n, q) ∧ mFr I I' J J' ∧ mRs I' J' b z fr 1 e x (PP b z (f + 1) 4 1 p acc v) := by
  obtain ⟨D, rfl⟩ : ∃ x, D = x + 5 := ⟨D - 5, by omega⟩
  rw [PP_l b z f 4 1 p acc v (by decide) (fun g => absurd g.1 (by decide))]
  obtain ⟨I2, J2, w, hr2, hf2, hs2⟩ := ihL 5 1 p acc v e I J n q (D + 4) fr (by decide) (by decide) (by omega) (by omega) hi
  have hle := PP_le b z f 5 1 p acc v hi.2.1.1
  revert hs2 hle
  generalize PP b z f 5 1 p acc v = r
  intro hs2 hle
  obtain ⟨o, p2, a2, v2⟩ := r
  cases o
  · obtain ⟨g1, g2⟩ := hs2
    refine ⟨I2, J2, w, ?_, hf2, g1, g2⟩
    unfold px_mt
    repeat refine e_s rfl ?_
    refine e_c rfl hr2 (by omega) ?_
    refine e_s rfl ?_
    exact cb_192 g1
  · obtain ⟨hi2, hx⟩ := hs2
    have hle1 := hle.2.2 rfl (by decide)
    have hle2 := hle.1
    simp only at hle1 hle2
    obtain ⟨I3, J3, x, hr3, hf3, hs3⟩ := ihC 4 1 p2 a2 v2 e w none none I2 J2 n q (D + 5) fr (by decide) (by decide) (by omega) (by omega) hi2 hx
    refine ⟨I3, J3, x, ?_, hf2.trans hf3, hs3⟩
    unfold px_mt
    repeat refine e_s rfl ?_
    refine e_c rfl hr2 (by omega) ?_
    refine e_s rfl ?_
    exact hr3
theorem ml_2_1 (ihL : mLv b z L so dr ds f) (ihC : mCh b z L so dr ds f) (hf : 20 * (z - p) + 12 - 2 ≤ f + 1) (hD : 38 ≤ D) (hi : mI I J b z fr 1 p e) : ∃ I' J' x, px_mt D 166 [.ref 31] I J (dR so dr) (dS L ds) n q (some (.int x), I', J', dR so dr, dS L ds, n, q) ∧ mFr I I' J J' ∧ mRs I' J' b z fr 1 e x (PP b z (f + 1) 2 1 p acc v) := by
  obtain ⟨D, rfl⟩ : ∃ x, D = x + 5 := ⟨D - 5, by omega⟩
  by_cases ht : tkc b z p = -9
  · rw [PP_n b z f 1 p acc v ht]
    rw [if_neg (by decide)]
    have hpz : p < z := tkc_lt (by rw [ht]; decide)
    have hn := nxt_le (b := b) (Nat.le_of_lt hpz)
    have hn2 := hn.2 hpz
    obtain ⟨I1, J1, hr1, hf1, hi1⟩ := r_opens (D := D) (n := n) (q := q) (so := so) (dr := dr) (L := L) (ds := ds) hi (by decide) (by rw [ht]; decide) (by rw [ht]; decide)
    obtain ⟨I2, J2, w, hr2, hf2, hs2⟩ := ihL 2 2 (nxt b z p) acc v e I1 J1 n q (D + 4) fr (by decide) (by decide) (by omega) (by omega) hi1
    revert hs2
    generalize PP b z f 2 2 (nxt b z p) acc v = r
    intro hs2
    obtain ⟨o, p2, a2, v2⟩ := r
    cases o
    · obtain ⟨g1, g2⟩ := hs2
      refine ⟨px_u I2 31 29 (I2 31 29 - 1), J2, bI (decide (w = 0)), ?_, (hf1.trans hf2).u (by decide) (by decide), g1, g2⟩
      unfold px_mt
      repeat refine e_s rfl ?_
      refine e_c rfl (r_word (D := D) (k := 9) (m := 4) (by decide) (by decide) (by decide) hi.1 hi.2.1 hi.2.2.1) (by omega) ?_
      rw [show decide (tkc b z p = wcd 9) = true from decide_eq_true ht]
      repeat refine e_s rfl ?_
      refine e_c rfl hr1 (by omega) ?_
      repeat refine e_s rfl ?_
      refine e_c rfl hr2 (by omega) ?_
      repeat refine e_s rfl ?_
      refine e_b (fun h => ?_) (fun h => ?_)
      · rw [decide_eq_false h]
        repeat refine e_s rfl ?_
        exact e_r rfl
      · rw [decide_eq_true (Classical.not_not.mp h)]
        repeat refine e_s rfl ?_
        exact e_r rfl
    · obtain ⟨hi2, hx⟩ := hs2
      refine ⟨px_u I2 31 29 (nI 1), J2, bI (decide (w = 0)), ?_, (hf1.trans hf2).u (by decide) (by decide), hi2.op, ?_⟩
      rotate_left
      · show bI (decide (w = 0)) = bI (decide (v2 e = 0))
        rw [hx]
      unfold px_mt
      repeat refine e_s rfl ?_
      refine e_c rfl (r_word (D := D) (k := 9) (m := 4) (by decide) (by decide) (by decide) hi.1 hi.2.1 hi.2.2.1) (by omega) ?_
      rw [show decide (tkc b z p = wcd 9) = true from decide_eq_true ht]
      repeat refine e_s rfl ?_
      refine e_c rfl hr1 (by omega) ?_
      repeat refine e_s rfl ?_
      refine e_c rfl hr2 (by omega) ?_
      repeat refine e_s rfl ?_
      rw [hi2.2.2.2.1, show nI (1 + 1) - 1 = nI 1 from nI_pred 1]
      refine e_b (fun h => ?_) (fun h => ?_)
      · rw [decide_eq_false h]
        repeat refine e_s rfl ?_
        exact e_r rfl
      · rw [decide_eq_true (Classical.not_not.mp h)]
        repeat refine e_s rfl ?_
        exact e_r rfl
  · rw [PP_l b z f 2 1 p acc v (by decide) (fun g => ht g.2)]
    obtain ⟨I2, J2, w, hr2, hf2, hs2⟩ := ihL 3 1 p acc v e I J n q (D + 4) fr (by decide) (by decide) (by omega) (by omega) hi
    have hle := PP_le b z f 3 1 p acc v hi.2.1.1
    revert hs2 hle
    generalize PP b z f 3 1 p acc v = r
    intro hs2 hle
    obtain ⟨o, p2, a2, v2⟩ := r
    cases o
    · obtain ⟨g1, g2⟩ := hs2
      refine ⟨I2, J2, w, ?_, hf2, g1, g2⟩
      unfold px_mt
      repeat refine e_s rfl ?_
      refine e_c rfl (r_word (D := D) (k := 9) (m := 4) (by decide) (by decide) (by decide) hi.1 hi.2.1 hi.2.2.1) (by omega) ?_
      rw [show decide (tkc b z p = wcd 9) = false from decide_eq_false ht]
      repeat refine e_s rfl ?_
      refine e_c rfl hr2 (by omega) ?_
      refine e_s rfl ?_
      exact cb_166 g1
    · obtain ⟨hi2, hx⟩ := hs2
      have hle1 := hle.2.2 rfl (by decide)
      have hle2 := hle.1
      simp only at hle1 hle2
      obtain ⟨I3, J3, x, hr3, hf3, hs3⟩ := ihC 2 1 p2 a2 v2 e w none none I2 J2 n q (D + 5) fr (by decide) (by decide) (by omega) (by omega) hi2 hx
      refine ⟨I3, J3, x, ?_, hf2.trans hf3, hs3⟩
      unfold px_mt
      repeat refine e_s rfl ?_
      refine e_c rfl (r_word (D := D) (k := 9) (m := 4) (by decide) (by decide) (by decide) hi.1 hi.2.1 hi.2.2.1) (by omega) ?_
      rw [show decide (tkc b z p = wcd 9) = false from decide_eq_false ht]
      repeat refine e_s rfl ?_
      refine e_c rfl hr2 (by omega) ?_
      refine e_s rfl ?_
      exact hr3
theorem ml_5_1 (ihL : mLv b z L so dr ds f) (ihC : mCh b z L so dr ds f) (hf : 20 * (z - p) + 12 - 5 ≤ f + 1) (hD : 35 ≤ D) (hi : mI I J b z fr 1 p e) : ∃ I' J' x, px_mt D 193 [.ref 31] I J (dR so dr) (dS L ds) n q (some (.int x), I', J', dR so dr, dS L ds, n, q) ∧ mFr I I' J J' ∧ mRs I' J' b z fr 1 e x (PP b z (f + 1) 5 1 p acc v) := by
  obtain ⟨D, rfl⟩ : ∃ x, D = x + 5 := ⟨D - 5, by omega⟩
  rw [PP_5]
  by_cases h0 : 0 ≤ tkc b z p
  · rw [if_pos (Or.inl h0)]
    have n22 : ¬ tkc b z p = -22 := fun g => by rw [g] at h0; exact absurd h0 (by decide)
    have n23 : ¬ tkc b z p = -23 := fun g => by rw [g] at h0; exact absurd h0 (by decide)
    have hk2 : mkd b z p = 2 := by
      rcases tk_cases b z p with ⟨_, _, g⟩ | ⟨_, _, _, g⟩ | ⟨_, k, _⟩ | ⟨_, _, g, g2⟩ | ⟨_, _, g⟩
      · exact absurd g n22
      · rcases wc_cases b p (tke b z p) with ⟨j, hj1, hj2, _, hw⟩ | ⟨_, hw⟩
        · rw [g, hw] at h0
          exact absurd h0 (Int32.not_le.mpr (wcd_23 j (by omega) hj1).2.2.1)
        · exact absurd (g.trans hw) n23
      · exact k
      · rw [g] at h0
        exact absurd h0 (Int32.not_le.mpr (mci_m g2).2.1)
      · exact absurd g n23
    obtain ⟨V, hV, hVt, hVJ⟩ := hi.2.1.2.2.2.2.2 hk2
    obtain ⟨I1, J1, hr1, hf1, hi1⟩ := r_adv (D := D) (n := n) (q := q) (so := so) (dr := dr) (L := L) (ds := ds) hi n22 n23
    refine ⟨I1, J1, nI V, ?_, hf1, hi1, by show nI V = if 0 ≤ tkc b z p then tkc b z p else e (tkc b z p); rw [if_pos h0, hVt]⟩
    unfold px_mt
    repeat refine e_s rfl ?_
    refine e_c rfl (r_sign (D := D) (m := 45) hi.2.1 hi.2.2.1 (by decide) (by decide)) (by omega) ?_
    rw [show decide (tkc b z p = mcode (nI 45)) = false from decide_eq_false (fun g => by rw [g] at h0; exact absurd h0 (by decide))]
    repeat refine e_s rfl ?_
    refine e_c rfl (r_sign (D := D) (m := 40) hi.2.1 hi.2.2.1 (by decide) (by decide)) (by omega) ?_
    rw [show decide (tkc b z p = mcode (nI 40)) = false from decide_eq_false (fun g => by rw [g] at h0; exact absurd h0 (by decide))]
    repeat refine e_s rfl ?_
    rw [hi.2.2.1]
    repeat refine e_s rfl ?_
    rw [hi.2.1.2.1, hk2]
    repeat refine e_s rfl ?_
    rw [hVJ, lN_i]
    refine e_c rfl hr1 (by omega) ?_
    repeat refine e_s rfl ?_
    exact e_r rfl
  by_cases hn : tkc b z p ≤ -1 ∧ -6 ≤ tkc b z p
  · rw [if_pos (Or.inr hn)]
    have n22 : ¬ tkc b z p = -22 := fun g => by rw [g] at hn; exact absurd hn.2 (by decide)
    have n23 : ¬ tkc b z p = -23 := fun g => by rw [g] at hn; exact absurd hn.2 (by decide)
    have hk1 : mkd b z p = 1 := by
      rcases tk_cases b z p with ⟨_, _, g⟩ | ⟨_, k, _⟩ | ⟨_, _, V, hV, g⟩ | ⟨_, _, g, g2⟩ | ⟨_, _, g⟩
      · exact absurd g n22
      · exact k
      · exact absurd (show (0 : Int32) ≤ tkc b z p by rw [g]; exact nI_pos' (by omega)) h0
      · exact absurd hn.2 (by rw [g]; exact mc_lo g2)
      · exact absurd g n23
    obtain ⟨I1, J1, hr1, hf1, hi1⟩ := r_adv (D := D) (n := n) (q := q) (so := so) (dr := dr) (L := L) (ds := ds) hi n22 n23
    refine ⟨I1, J1, e (tkc b z p), ?_, hf1, hi1, by show e (tkc b z p) = if 0 ≤ tkc b z p then tkc b z p else e (tkc b z p); rw [if_neg h0]⟩
    unfold px_mt
    repeat refine e_s rfl ?_
    refine e_c rfl (r_sign (D := D) (m := 45) hi.2.1 hi.2.2.1 (by decide) (by decide)) (by omega) ?_
    rw [show decide (tkc b z p = mcode (nI 45)) = false from decide_eq_false (fun g => by rw [g] at hn; exact absurd hn.2 (by decide))]
    repeat refine e_s rfl ?_
    refine e_c rfl (r_sign (D := D) (m := 40) hi.2.1 hi.2.2.1 (by decide) (by decide)) (by omega) ?_
    rw [show decide (tkc b z p = mcode (nI 40)) = false from decide_eq_false (fun g => by rw [g] at hn; exact absurd hn.2 (by decide))]
    repeat refine e_s rfl ?_
    rw [hi.2.2.1]
    repeat refine e_s rfl ?_
    rw [hi.2.1.2.1, hk1]
    repeat refine e_s rfl ?_
    rw [hi.2.2.1]
    repeat refine e_s rfl ?_
    rw [hi.2.1.2.1, hk1]
    repeat refine e_s rfl ?_
    refine e_c rfl (r_nameT (D := D) hi hn.1 hn.2) (by omega) ?_
    repeat refine e_s rfl ?_
    rw [hi.2.2.1]
    repeat refine e_s rfl ?_
    refine e_c rfl hr1 (by omega) ?_
    repeat refine e_s rfl ?_
    exact e_r rfl
  rw [if_neg (fun g => g.elim h0 hn)]
  by_cases h13 : tkc b z p = -13
  · rw [if_pos h13]
    rw [if_neg (by decide)]
    have hpz : p < z := tkc_lt (by rw [h13]; decide)
    have hx := nxt_le (b := b) (Nat.le_of_lt hpz)
    have hx2 := hx.2 hpz
    obtain ⟨I1, J1, hr1, hf1, hi1⟩ := r_opens (D := D) (n := n) (q := q) (so := so) (dr := dr) (L := L) (ds := ds) hi (by decide) (by rw [h13]; decide) (by rw [h13]; decide)
    obtain ⟨I2, J2, w, hr2, hf2, hs2⟩ := ihL 5 2 (nxt b z p) acc v e I1 J1 n q (D + 4) fr (by decide) (by decide) (by omega) (by omega) hi1
    revert hs2
    generalize PP b z f 5 2 (nxt b z p) acc v = r
    intro hs2
    obtain ⟨o, p2, a2, v2⟩ := r
    cases o
    · obtain ⟨g1, g2⟩ := hs2
      refine ⟨px_u I2 31 29 (I2 31 29 - 1), J2, -w, ?_, (hf1.trans hf2).u (by decide) (by decide), g1, g2⟩
      unfold px_mt
      repeat refine e_s rfl ?_
      refine e_c rfl (r_sign (D := D) (m := 45) hi.2.1 hi.2.2.1 (by decide) (by decide)) (by omega) ?_
      rw [show decide (tkc b z p = mcode (nI 45)) = true from decide_eq_true (h13.trans (by decide))]
      repeat refine e_s rfl ?_
      refine e_c rfl hr1 (by omega) ?_
      repeat refine e_s rfl ?_
      refine e_c rfl hr2 (by omega) ?_
      repeat refine e_s rfl ?_
      exact e_r rfl
    · obtain ⟨hi2, hxx⟩ := hs2
      refine ⟨px_u I2 31 29 (nI 1), J2, -w, ?_, (hf1.trans hf2).u (by decide) (by decide), hi2.op, ?_⟩
      rotate_left
      · show -w = -(v2 e)
        rw [hxx]
      unfold px_mt
      repeat refine e_s rfl ?_
      refine e_c rfl (r_sign (D := D) (m := 45) hi.2.1 hi.2.2.1 (by decide) (by decide)) (by omega) ?_
      rw [show decide (tkc b z p = mcode (nI 45)) = true from decide_eq_true (h13.trans (by decide))]
      repeat refine e_s rfl ?_
      refine e_c rfl hr1 (by omega) ?_
      repeat refine e_s rfl ?_
      refine e_c rfl hr2 (by omega) ?_
      repeat refine e_s rfl ?_
      rw [hi2.2.2.2.1, show nI (1 + 1) - 1 = nI 1 from nI_pred 1]
      exact e_r rfl
  rw [if_neg h13]
  by_cases h19 : tkc b z p = -19
  · rw [if_pos ⟨h19, by decide⟩]
    have hpz : p < z := tkc_lt (by rw [h19]; decide)
    have hx := nxt_le (b := b) (Nat.le_of_lt hpz)
    have hx2 := hx.2 hpz
    obtain ⟨I1, J1, hr1, hf1, hi1⟩ := r_opens (D := D) (n := n) (q := q) (so := so) (dr := dr) (L := L) (ds := ds) hi (by decide) (by rw [h19]; decide) (by rw [h19]; decide)
    obtain ⟨I2, J2, w, hr2, hf2, hs2⟩ := ihL 0 2 (nxt b z p) acc v e I1 J1 n q (D + 4) fr (by decide) (by decide) (by omega) (by omega) hi1
    revert hs2
    generalize PP b z f 0 2 (nxt b z p) acc v = r
    intro hs2
    obtain ⟨o, p2, a2, v2⟩ := r
    cases o
    · obtain ⟨g1, g2⟩ := hs2
      refine ⟨px_u I2 31 29 (I2 31 29 - 1), J2, w, ?_, (hf1.trans hf2).u (by decide) (by decide), g1, g2⟩
      unfold px_mt
      repeat refine e_s rfl ?_
      refine e_c rfl (r_sign (D := D) (m := 45) hi.2.1 hi.2.2.1 (by decide) (by decide)) (by omega) ?_
      rw [show decide (tkc b z p = mcode (nI 45)) = false from decide_eq_false (fun g => h13 (g.trans (by decide)))]
      repeat refine e_s rfl ?_
      refine e_c rfl (r_sign (D := D) (m := 40) hi.2.1 hi.2.2.1 (by decide) (by decide)) (by omega) ?_
      rw [show decide (tkc b z p = mcode (nI 40)) = true from decide_eq_true (h19.trans (by decide))]
      repeat refine e_s rfl ?_
      refine e_c rfl hr1 (by omega) ?_
      repeat refine e_s rfl ?_
      refine e_c rfl hr2 (by omega) ?_
      repeat refine e_s rfl ?_
      refine e_c rfl (r_signB (D := D) (x := 0) g1) (by omega) ?_
      repeat refine e_s rfl ?_
      refine e_c rfl (r_failB (D := D) g1) (by omega) ?_
      repeat refine e_s rfl ?_
      rw [show px_u I2 31 29 (I2 31 29 - 1) 31 30 = 1 from g1]
      repeat refine e_s rfl ?_
      exact e_r rfl
    · obtain ⟨hi2, hxx⟩ := hs2
      have ho : I2 31 29 - 1 = nI 1 := by rw [hi2.2.2.2.1, show nI (1 + 1) - 1 = nI 1 from nI_pred 1]
      by_cases h20 : tkc b z p2 = -20
      · obtain ⟨I4, J4, hr4, hf4, hi4⟩ := r_adv (D := D) (n := n) (q := q) (so := so) (dr := dr) (L := L) (ds := ds) (hi2.op (k := 1)) (by rw [h20]; decide) (by rw [h20]; decide)
        refine ⟨I4, J4, w, ?_, ((hf1.trans hf2).u (by decide) (by decide)).trans hf4, ?_⟩
        rotate_left
        · show mRs I4 J4 b z fr 1 e w (if tkc b z p2 = -20 then (true, nxt b z p2, a2, v2) else (false, p2, a2, v2))
          rw [if_pos h20]
          exact ⟨hi4, hxx⟩
        unfold px_mt
        repeat refine e_s rfl ?_
        refine e_c rfl (r_sign (D := D) (m := 45) hi.2.1 hi.2.2.1 (by decide) (by decide)) (by omega) ?_
        rw [show decide (tkc b z p = mcode (nI 45)) = false from decide_eq_false (fun g => h13 (g.trans (by decide)))]
        repeat refine e_s rfl ?_
        refine e_c rfl (r_sign (D := D) (m := 40) hi.2.1 hi.2.2.1 (by decide) (by decide)) (by omega) ?_
        rw [show decide (tkc b z p = mcode (nI 40)) = true from decide_eq_true (h19.trans (by decide))]
        repeat refine e_s rfl ?_
        refine e_c rfl hr1 (by omega) ?_
        repeat refine e_s rfl ?_
        refine e_c rfl hr2 (by omega) ?_
        repeat refine e_s rfl ?_
        refine e_c rfl (r_sign (D := D) (m := 41) hi2.2.1 hi2.2.2.1 (by decide) (by decide)) (by omega) ?_
        rw [show decide (tkc b z p2 = mcode (nI 41)) = true from decide_eq_true (h20.trans (by decide))]
        repeat refine e_s rfl ?_
        rw [ho, show px_u I2 31 29 (nI 1) 31 30 = 0 from hi2.2.2.1]
        repeat refine e_s rfl ?_
        refine e_c rfl hr4 (by omega) ?_
        repeat refine e_s rfl ?_
        exact e_r rfl
      · refine ⟨px_u (px_u (px_u I2 31 30 1) 31 31 (nI p2)) 31 29 (nI 1), J2, w, ?_, (hf1.trans (hf2.trans fl_fr)).u (by decide) (by decide), ?_⟩
        rotate_left
        · show mRs _ J2 b z fr 1 e w (if tkc b z p2 = -20 then (true, nxt b z p2, a2, v2) else (false, p2, a2, v2))
          rw [if_neg h20]
          exact ⟨rfl, rfl⟩
        unfold px_mt
        repeat refine e_s rfl ?_
        refine e_c rfl (r_sign (D := D) (m := 45) hi.2.1 hi.2.2.1 (by decide) (by decide)) (by omega) ?_
        rw [show decide (tkc b z p = mcode (nI 45)) = false from decide_eq_false (fun g => h13 (g.trans (by decide)))]
        repeat refine e_s rfl ?_
        refine e_c rfl (r_sign (D := D) (m := 40) hi.2.1 hi.2.2.1 (by decide) (by decide)) (by omega) ?_
        rw [show decide (tkc b z p = mcode (nI 40)) = true from decide_eq_true (h19.trans (by decide))]
        repeat refine e_s rfl ?_
        refine e_c rfl hr1 (by omega) ?_
        repeat refine e_s rfl ?_
        refine e_c rfl hr2 (by omega) ?_
        repeat refine e_s rfl ?_
        refine e_c rfl (r_sign (D := D) (m := 41) hi2.2.1 hi2.2.2.1 (by decide) (by decide)) (by omega) ?_
        rw [show decide (tkc b z p2 = mcode (nI 41)) = false from decide_eq_false (fun g => h20 (g.trans (by decide)))]
        repeat refine e_s rfl ?_
        refine e_c rfl (r_failM (D := D) hi2.2.2.1 hi2.2.1.2.2.1) (by omega) ?_
        repeat refine e_s rfl ?_
        rw [show px_u (px_u I2 31 30 1) 31 31 (nI p2) 31 29 - 1 = nI 1 from ho]
        repeat refine e_s rfl ?_
        exact e_r rfl
  rw [if_neg (fun g => h19 g.1)]
  refine ⟨px_u (px_u I 31 30 1) 31 31 (nI p), J, 0, ?_, fl_fr, rfl, rfl⟩
  unfold px_mt
  repeat refine e_s rfl ?_
  refine e_c rfl (r_sign (D := D) (m := 45) hi.2.1 hi.2.2.1 (by decide) (by decide)) (by omega) ?_
  rw [show decide (tkc b z p = mcode (nI 45)) = false from decide_eq_false (fun g => h13 (g.trans (by decide)))]
  repeat refine e_s rfl ?_
  refine e_c rfl (r_sign (D := D) (m := 40) hi.2.1 hi.2.2.1 (by decide) (by decide)) (by omega) ?_
  rw [show decide (tkc b z p = mcode (nI 40)) = false from decide_eq_false (fun g => h19 (g.trans (by decide)))]
  repeat refine e_s rfl ?_
  rw [hi.2.2.1]
  repeat refine e_s rfl ?_
  have hk2 : ¬ mkd b z p = 2 := by
    intro g
    obtain ⟨V, hV, hVt, _⟩ := hi.2.1.2.2.2.2.2 g
    exact h0 (by rw [hVt]; exact nI_pos' (by omega))
  rw [hi.2.1.2.1]
  refine e_bt hk2 ?_
  repeat refine e_s rfl ?_
  rw [hi.2.2.1]
  repeat refine e_s rfl ?_
  rw [hi.2.1.2.1]
  refine e_b (fun hk => ?_) (fun hk => ?_)
  · repeat refine e_s rfl ?_
    refine e_c rfl (r_failM (D := D) hi.2.2.1 hi.2.1.2.2.1) (by omega) ?_
    repeat refine e_s rfl ?_
    exact e_r rfl
  · repeat refine e_s rfl ?_
    refine e_c rfl (r_nameF (D := D) hi (fun k hk1 hk2 g => hn (by rw [g]; exact wcd_16 k (by omega) hk1))) (by omega) ?_
    repeat refine e_s rfl ?_
    exact e_r rfl
end PXP1
