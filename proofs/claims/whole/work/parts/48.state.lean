/-! THE MODEL: the state of its reader -/
def mI (I : px_HI) (J : px_HJ) (b : Nat → Int32) (z fr dep p : Nat) (e : pE) : Prop := mB I b z fr ∧ mS I J b z p ∧ I 31 30 = 0 ∧ I 31 29 = nI dep ∧ e = nmE (I 31 17) (I 31 18) (I 31 19) (I 31 20) (I 31 21) (I 31 22)
def mRs (I : px_HI) (J : px_HJ) (b : Nat → Int32) (z fr dep : Nat) (e : pE) (x : Int32) (r : pRes) : Prop := match r with
  | (false, p, _) => I 31 30 = 1 ∧ I 31 31 = nI p
  | (true, p, _, v) => mI I J b z fr dep p e ∧ x = v e
theorem lv_0 {t : Int32} : lvI t = nI 0 ↔ t = -7 := by
  constructor
  · intro h
    unfold lvI at h
    by_cases h1 : t = -7
    · exact h1
    rw [if_neg h1] at h
    exfalso
    revert h
    repeat' split
    all_goals decide
  · intro h; subst h; decide
theorem lv_1 {t : Int32} : lvI t = nI 1 ↔ t = -8 := by
  constructor
  · intro h
    by_cases h1 : t = -8
    · exact h1
    unfold lvI at h
    exfalso
    revert h
    repeat' split
    all_goals first | decide | (intro _; contradiction)
  · intro h; subst h; decide
theorem lv_2 {t : Int32} : lvI t = nI 2 ↔ t = -10 ∨ t = -11 := by
  constructor
  · intro h
    by_cases h1 : t = -10
    · exact Or.inl h1
    by_cases h2 : t = -11
    · exact Or.inr h2
    unfold lvI at h
    exfalso
    revert h
    repeat' split
    all_goals first | decide | (intro _; contradiction)
  · intro h; rcases h with h | h <;> subst h <;> decide
theorem lv_3 {t : Int32} : lvI t = nI 3 ↔ t = -12 ∨ t = -13 := by
  constructor
  · intro h
    by_cases h1 : t = -12
    · exact Or.inl h1
    by_cases h2 : t = -13
    · exact Or.inr h2
    unfold lvI at h
    exfalso
    revert h
    repeat' split
    all_goals first | decide | (intro _; contradiction)
  · intro h; rcases h with h | h <;> subst h <;> decide
theorem lv_4 {t : Int32} : lvI t = nI 4 ↔ t = -14 := by
  constructor
  · intro h
    by_cases h1 : t = -14
    · exact h1
    unfold lvI at h
    exfalso
    revert h
    repeat' split
    all_goals first | decide | (intro _; contradiction)
  · intro h; subst h; decide
section PXM4
variable {D n q L : Nat} {so : Option Nat} {I : px_HI} {J : px_HJ} {dr : px_HR} {ds : px_HS} {b : Nat → Int32} {z fr p dep : Nat} {e : pE} {r : Option Value × px_G}
theorem mI.adv {h2 : Nat} (hi : mI I J b z fr dep p e) (hz : h2 ≤ z) (hh : I 31 25 = nI h2) : ∃ I' J', px_mt (D + 3) 156 [.ref 31] I J (dR so dr) (dS L ds) n q (none, I', J', dR so dr, dS L ds, n, q) ∧ mFr I I' J J' ∧ mI I' J' b z fr dep (sk b z h2) e := by
  obtain ⟨h1, h2', h3, h4, h5⟩ := hi
  obtain ⟨I', J', r1, r2, r3, r4⟩ := r_next (D := D) (n := n) (q := q) (so := so) (dr := dr) (L := L) (ds := ds) h1 hh hz
  refine ⟨I', J', r1, r2, h1.fr r2, r4, (r3 30 (by decide)).trans h3, (r3 29 (by decide)).trans h4, ?_⟩
  rw [r2.1 31 17 (fun _ => by omega), r2.1 31 18 (fun _ => by omega), r2.1 31 19 (fun _ => by omega), r2.1 31 20 (fun _ => by omega), r2.1 31 21 (fun _ => by omega), r2.1 31 22 (fun _ => by omega)]
  exact h5
theorem kd_of {b : Nat → Int32} {z p : Nat} (h1 : ¬ tkc b z p = -22) (h2 : ¬ tkc b z p = -23) : p < z ∧ (mkd b z p = 1 ∨ mkd b z p = 2 ∨ mkd b z p = 3) := by
  rcases tk_cases b z p with ⟨_, _, g⟩ | ⟨g, k, _⟩ | ⟨g, k, _⟩ | ⟨g, k, _⟩ | ⟨_, _, g⟩
  · exact absurd g h1
  · exact ⟨g, Or.inl k⟩
  · exact ⟨g, Or.inr (Or.inl k)⟩
  · exact ⟨g, Or.inr (Or.inr k)⟩
  · exact absurd g h2
theorem r_adv (hi : mI I J b z fr dep p e) (h1 : ¬ tkc b z p = -22) (h2 : ¬ tkc b z p = -23) : ∃ I' J', px_mt (D + 3) 156 [.ref 31] I J (dR so dr) (dS L ds) n q (none, I', J', dR so dr, dS L ds, n, q) ∧ mFr I I' J J' ∧ mI I' J' b z fr dep (nxt b z p) e := by
  obtain ⟨hp, hk⟩ := kd_of h1 h2
  have := hi.adv (D := D) (n := n) (q := q) (so := so) (dr := dr) (L := L) (ds := ds) (tke_le hp).2 (hi.2.1.2.2.2.1 hk)
  unfold nxt
  rw [if_neg (by omega)]
  exact this
theorem mI.op {k : Nat} (hi : mI I J b z fr dep p e) : mI (px_u I 31 29 (nI k)) J b z fr k p e := by
  obtain ⟨h1, h2, h3, h4, h5⟩ := hi
  exact ⟨h1.u (by decide) (by decide), h2, h3, rfl, h5⟩
theorem r_opens (hi : mI I J b z fr dep p e) (hd : dep < 5) (h1 : ¬ tkc b z p = -22) (h2 : ¬ tkc b z p = -23) : ∃ I' J', px_mt (D + 4) 165 [.ref 31] I J (dR so dr) (dS L ds) n q (some (.int 1), I', J', dR so dr, dS L ds, n, q) ∧ mFr I I' J J' ∧ mI I' J' b z fr (dep + 1) (nxt b z p) e := by
  obtain ⟨I', J', r1, r2, r3⟩ := r_adv (D := D) (n := n) (q := q) (so := so) (dr := dr) (L := L) (ds := ds) (hi.op (k := dep + 1)) h1 h2
  refine ⟨I', J', ?_, ((mFr.refl I J).u (by decide) (by decide)).trans r2, r3⟩
  unfold px_mt
  repeat refine e_s rfl ?_
  rw [hi.2.2.2.1]
  refine e_bt (fun g => by have := (nI_eq (b := 5) (by omega) (by omega)).mp g; omega) ?_
  repeat refine e_s rfl ?_
  rw [hi.2.2.2.1, nI_1]
  refine e_c rfl r1 (by omega) ?_
  refine e_s rfl ?_
  exact e_r rfl
theorem r_opens5 (hi : mI I J b z fr 5 p e) : px_mt (D + 4) 165 [.ref 31] I J (dR so dr) (dS L ds) n q (some (.int 0), px_u (px_u I 31 30 1) 31 31 (nI p), J, dR so dr, dS L ds, n, q) := by
  unfold px_mt
  repeat refine e_s rfl ?_
  rw [hi.2.2.2.1]
  repeat refine e_s rfl ?_
  refine e_c rfl (r_failM (D := D) hi.2.2.1 hi.2.1.2.2.1) (by omega) ?_
  refine e_s rfl ?_
  exact e_r rfl
theorem fl_fr : mFr I (px_u (px_u I 31 30 1) 31 31 (nI p)) J J := ((mFr.refl I J).u (by decide) (by decide)).u (by decide) (by decide)
theorem sg_at {m : Nat} (hi : mI I J b z fr dep p e) (hm : m < 62) (hc : ¬ mcode (nI m) = -23) (ht : tkc b z p = mcode (nI m)) : J 31 28 = (nI m).toInt64 := by
  have h := tk_mark (b := b) (z := z) (p := p) hm hc
  rw [decide_eq_true ht] at h
  have h2 := Bool.and_eq_true_iff.mp h.symm
  have h3 := of_decide_eq_true h2.2
  rw [hi.2.1.2.2.2.2.1 (of_decide_eq_true h2.1), h3]
theorem r_name1 (hi : mI I J b z fr dep p e) (h : tkc b z p = wcd 1) : px_mt (D + 4) 175 [.ref 31] I J (dR so dr) (dS L ds) n q (some (.int (e (tkc b z p))), I, J, dR so dr, dS L ds, n, q) := by
  unfold px_mt
  repeat refine e_s rfl ?_
  refine e_c rfl (r_word (D := D) (k := 1) (m := 3) (by decide) (by decide) (by decide) hi.1 hi.2.1 hi.2.2.1) (by omega) ?_
  rw [h]
  rw [show bI (decide (wcd 1 = wcd 1)) = 1 by decide]
  repeat refine e_s rfl ?_
  rw [hi.2.2.2.2]
  exact e_r rfl
theorem r_name2 (hi : mI I J b z fr dep p e) (h : tkc b z p = wcd 2) : px_mt (D + 4) 175 [.ref 31] I J (dR so dr) (dS L ds) n q (some (.int (e (tkc b z p))), I, J, dR so dr, dS L ds, n, q) := by
  unfold px_mt
  repeat refine e_s rfl ?_
  refine e_c rfl (r_word (D := D) (k := 1) (m := 3) (by decide) (by decide) (by decide) hi.1 hi.2.1 hi.2.2.1) (by omega) ?_
  rw [h]
  rw [show bI (decide (wcd 2 = wcd 1)) = 0 by decide]
  repeat refine e_s rfl ?_
  refine e_c rfl (r_word (D := D) (k := 2) (m := 4) (by decide) (by decide) (by decide) hi.1 hi.2.1 hi.2.2.1) (by omega) ?_
  rw [h]
  rw [show bI (decide (wcd 2 = wcd 2)) = 1 by decide]
  repeat refine e_s rfl ?_
  rw [hi.2.2.2.2]
  exact e_r rfl
theorem r_name3 (hi : mI I J b z fr dep p e) (h : tkc b z p = wcd 3) : px_mt (D + 4) 175 [.ref 31] I J (dR so dr) (dS L ds) n q (some (.int (e (tkc b z p))), I, J, dR so dr, dS L ds, n, q) := by
  unfold px_mt
  repeat refine e_s rfl ?_
  refine e_c rfl (r_word (D := D) (k := 1) (m := 3) (by decide) (by decide) (by decide) hi.1 hi.2.1 hi.2.2.1) (by omega) ?_
  rw [h]
  rw [show bI (decide (wcd 3 = wcd 1)) = 0 by decide]
  repeat refine e_s rfl ?_
  refine e_c rfl (r_word (D := D) (k := 2) (m := 4) (by decide) (by decide) (by decide) hi.1 hi.2.1 hi.2.2.1) (by omega) ?_
  rw [h]
  rw [show bI (decide (wcd 3 = wcd 2)) = 0 by decide]
  repeat refine e_s rfl ?_
  refine e_c rfl (r_word (D := D) (k := 3) (m := 3) (by decide) (by decide) (by decide) hi.1 hi.2.1 hi.2.2.1) (by omega) ?_
  rw [h]
  rw [show bI (decide (wcd 3 = wcd 3)) = 1 by decide]
  repeat refine e_s rfl ?_
  rw [hi.2.2.2.2]
  exact e_r rfl
theorem r_name4 (hi : mI I J b z fr dep p e) (h : tkc b z p = wcd 4) : px_mt (D + 4) 175 [.ref 31] I J (dR so dr) (dS L ds) n q (some (.int (e (tkc b z p))), I, J, dR so dr, dS L ds, n, q) := by
  unfold px_mt
  repeat refine e_s rfl ?_
  refine e_c rfl (r_word (D := D) (k := 1) (m := 3) (by decide) (by decide) (by decide) hi.1 hi.2.1 hi.2.2.1) (by omega) ?_
  rw [h]
  rw [show bI (decide (wcd 4 = wcd 1)) = 0 by decide]
  repeat refine e_s rfl ?_
  refine e_c rfl (r_word (D := D) (k := 2) (m := 4) (by decide) (by decide) (by decide) hi.1 hi.2.1 hi.2.2.1) (by omega) ?_
  rw [h]
  rw [show bI (decide (wcd 4 = wcd 2)) = 0 by decide]
  repeat refine e_s rfl ?_
  refine e_c rfl (r_word (D := D) (k := 3) (m := 3) (by decide) (by decide) (by decide) hi.1 hi.2.1 hi.2.2.1) (by omega) ?_
  rw [h]
  rw [show bI (decide (wcd 4 = wcd 3)) = 0 by decide]
  repeat refine e_s rfl ?_
  refine e_c rfl (r_word (D := D) (k := 4) (m := 3) (by decide) (by decide) (by decide) hi.1 hi.2.1 hi.2.2.1) (by omega) ?_
  rw [h]
  rw [show bI (decide (wcd 4 = wcd 4)) = 1 by decide]
  repeat refine e_s rfl ?_
  rw [hi.2.2.2.2]
  exact e_r rfl
theorem r_name5 (hi : mI I J b z fr dep p e) (h : tkc b z p = wcd 5) : px_mt (D + 4) 175 [.ref 31] I J (dR so dr) (dS L ds) n q (some (.int (e (tkc b z p))), I, J, dR so dr, dS L ds, n, q) := by
  unfold px_mt
  repeat refine e_s rfl ?_
  refine e_c rfl (r_word (D := D) (k := 1) (m := 3) (by decide) (by decide) (by decide) hi.1 hi.2.1 hi.2.2.1) (by omega) ?_
  rw [h]
  rw [show bI (decide (wcd 5 = wcd 1)) = 0 by decide]
  repeat refine e_s rfl ?_
  refine e_c rfl (r_word (D := D) (k := 2) (m := 4) (by decide) (by decide) (by decide) hi.1 hi.2.1 hi.2.2.1) (by omega) ?_
  rw [h]
  rw [show bI (decide (wcd 5 = wcd 2)) = 0 by decide]
  repeat refine e_s rfl ?_
  refine e_c rfl (r_word (D := D) (k := 3) (m := 3) (by decide) (by decide) (by decide) hi.1 hi.2.1 hi.2.2.1) (by omega) ?_
  rw [h]
  rw [show bI (decide (wcd 5 = wcd 3)) = 0 by decide]
  repeat refine e_s rfl ?_
  refine e_c rfl (r_word (D := D) (k := 4) (m := 3) (by decide) (by decide) (by decide) hi.1 hi.2.1 hi.2.2.1) (by omega) ?_
  rw [h]
  rw [show bI (decide (wcd 5 = wcd 4)) = 0 by decide]
  repeat refine e_s rfl ?_
  refine e_c rfl (r_word (D := D) (k := 5) (m := 2) (by decide) (by decide) (by decide) hi.1 hi.2.1 hi.2.2.1) (by omega) ?_
  rw [h]
  rw [show bI (decide (wcd 5 = wcd 5)) = 1 by decide]
  repeat refine e_s rfl ?_
  rw [hi.2.2.2.2]
  exact e_r rfl
theorem r_name6 (hi : mI I J b z fr dep p e) (h : tkc b z p = wcd 6) : px_mt (D + 4) 175 [.ref 31] I J (dR so dr) (dS L ds) n q (some (.int (e (tkc b z p))), I, J, dR so dr, dS L ds, n, q) := by
  unfold px_mt
  repeat refine e_s rfl ?_
  refine e_c rfl (r_word (D := D) (k := 1) (m := 3) (by decide) (by decide) (by decide) hi.1 hi.2.1 hi.2.2.1) (by omega) ?_
  rw [h]
  rw [show bI (decide (wcd 6 = wcd 1)) = 0 by decide]
  repeat refine e_s rfl ?_
  refine e_c rfl (r_word (D := D) (k := 2) (m := 4) (by decide) (by decide) (by decide) hi.1 hi.2.1 hi.2.2.1) (by omega) ?_
  rw [h]
  rw [show bI (decide (wcd 6 = wcd 2)) = 0 by decide]
  repeat refine e_s rfl ?_
  refine e_c rfl (r_word (D := D) (k := 3) (m := 3) (by decide) (by decide) (by decide) hi.1 hi.2.1 hi.2.2.1) (by omega) ?_
  rw [h]
  rw [show bI (decide (wcd 6 = wcd 3)) = 0 by decide]
  repeat refine e_s rfl ?_
  refine e_c rfl (r_word (D := D) (k := 4) (m := 3) (by decide) (by decide) (by decide) hi.1 hi.2.1 hi.2.2.1) (by omega) ?_
  rw [h]
  rw [show bI (decide (wcd 6 = wcd 4)) = 0 by decide]
  repeat refine e_s rfl ?_
  refine e_c rfl (r_word (D := D) (k := 5) (m := 2) (by decide) (by decide) (by decide) hi.1 hi.2.1 hi.2.2.1) (by omega) ?_
  rw [h]
  rw [show bI (decide (wcd 6 = wcd 5)) = 0 by decide]
  repeat refine e_s rfl ?_
  refine e_c rfl (r_word (D := D) (k := 6) (m := 4) (by decide) (by decide) (by decide) hi.1 hi.2.1 hi.2.2.1) (by omega) ?_
  rw [h]
  rw [show bI (decide (wcd 6 = wcd 6)) = 1 by decide]
  repeat refine e_s rfl ?_
  rw [hi.2.2.2.2]
  exact e_r rfl
theorem r_nameF (hi : mI I J b z fr dep p e) (hne : ∀ k, 1 ≤ k → k ≤ 6 → ¬ tkc b z p = wcd k) : px_mt (D + 4) 175 [.ref 31] I J (dR so dr) (dS L ds) n q (some (.int 0), px_u (px_u I 31 30 1) 31 31 (nI p), J, dR so dr, dS L ds, n, q) := by
  unfold px_mt
  repeat refine e_s rfl ?_
  refine e_c rfl (r_word (D := D) (k := 1) (m := 3) (by decide) (by decide) (by decide) hi.1 hi.2.1 hi.2.2.1) (by omega) ?_
  refine e_s rfl ?_
  refine e_z (fun h => ?_) (fun h => ?_)
  · have h := of_decide_eq_true h
    exact absurd h (hne 1 (by decide) (by decide))
  repeat refine e_s rfl ?_
  refine e_c rfl (r_word (D := D) (k := 2) (m := 4) (by decide) (by decide) (by decide) hi.1 hi.2.1 hi.2.2.1) (by omega) ?_
  refine e_s rfl ?_
  refine e_z (fun h => ?_) (fun h => ?_)
  · have h := of_decide_eq_true h
    exact absurd h (hne 2 (by decide) (by decide))
  repeat refine e_s rfl ?_
  refine e_c rfl (r_word (D := D) (k := 3) (m := 3) (by decide) (by decide) (by decide) hi.1 hi.2.1 hi.2.2.1) (by omega) ?_
  refine e_s rfl ?_
  refine e_z (fun h => ?_) (fun h => ?_)
  · have h := of_decide_eq_true h
    exact absurd h (hne 3 (by decide) (by decide))
  repeat refine e_s rfl ?_
  refine e_c rfl (r_word (D := D) (k := 4) (m := 3) (by decide) (by decide) (by decide) hi.1 hi.2.1 hi.2.2.1) (by omega) ?_
  refine e_s rfl ?_
  refine e_z (fun h => ?_) (fun h => ?_)
  · have h := of_decide_eq_true h
    exact absurd h (hne 4 (by decide) (by decide))
  repeat refine e_s rfl ?_
  refine e_c rfl (r_word (D := D) (k := 5) (m := 2) (by decide) (by decide) (by decide) hi.1 hi.2.1 hi.2.2.1) (by omega) ?_
  refine e_s rfl ?_
  refine e_z (fun h => ?_) (fun h => ?_)
  · have h := of_decide_eq_true h
    exact absurd h (hne 5 (by decide) (by decide))
  repeat refine e_s rfl ?_
  refine e_c rfl (r_word (D := D) (k := 6) (m := 4) (by decide) (by decide) (by decide) hi.1 hi.2.1 hi.2.2.1) (by omega) ?_
  refine e_s rfl ?_
  refine e_z (fun h => ?_) (fun h => ?_)
  · have h := of_decide_eq_true h
    exact absurd h (hne 6 (by decide) (by decide))
  repeat refine e_s rfl ?_
  refine e_c rfl (r_failM (D := D) hi.2.2.1 hi.2.1.2.2.1) (by omega) ?_
  refine e_s rfl ?_
  exact e_r rfl
theorem r_nameT (hi : mI I J b z fr dep p e) (h1 : tkc b z p ≤ -1) (h2 : -6 ≤ tkc b z p) : px_mt (D + 4) 175 [.ref 31] I J (dR so dr) (dS L ds) n q (some (.int (e (tkc b z p))), I, J, dR so dr, dS L ds, n, q) := by
  rcases i32_6 h2 (Int32.lt_of_le_of_lt h1 (by decide)) with g | g | g | g | g | g
  · exact r_name6 hi g
  · exact r_name5 hi g
  · exact r_name4 hi g
  · exact r_name3 hi g
  · exact r_name2 hi g
  · exact r_name1 hi g
end PXM4
