/-! what a text says of a caller: valueOf, comesOf, worthOf in the class, says in the model -/
def clp (lo hi v : Int32) : Int32 := if v < lo then lo else if hi < v then hi else v
theorem clp_eq {lo hi v : Int32} (h : lo ≤ hi) : (if lo < (if v < hi then v else hi) then (if v < hi then v else hi) else lo) = clp lo hi v := by
  unfold clp
  have a := Int32.le_iff_toInt_le.mp h
  by_cases h1 : v < hi
  · have a1 := Int32.lt_iff_toInt_lt.mp h1
    rw [if_pos h1]
    by_cases h2 : lo < v
    · have a2 := Int32.lt_iff_toInt_lt.mp h2
      rw [if_pos h2, if_neg (fun c => by have := Int32.lt_iff_toInt_lt.mp c; omega), if_neg (fun c => by have := Int32.lt_iff_toInt_lt.mp c; omega)]
    · have a2 : ¬ lo.toInt < v.toInt := fun c => h2 (Int32.lt_iff_toInt_lt.mpr c)
      rw [if_neg h2]
      by_cases h3 : v < lo
      · rw [if_pos h3]
      · have a3 : ¬ v.toInt < lo.toInt := fun c => h3 (Int32.lt_iff_toInt_lt.mpr c)
        rw [if_neg h3, if_neg (fun c => by have := Int32.lt_iff_toInt_lt.mp c; omega)]
        exact Int32.toInt_inj.mp (by omega)
  · have a1 : ¬ v.toInt < hi.toInt := fun c => h1 (Int32.lt_iff_toInt_lt.mpr c)
    rw [if_neg h1]
    by_cases h2 : lo < hi
    · have a2 := Int32.lt_iff_toInt_lt.mp h2
      rw [if_pos h2, if_neg (fun c => by have := Int32.lt_iff_toInt_lt.mp c; omega)]
      by_cases h3 : hi < v
      · rw [if_pos h3]
      · have a3 : ¬ hi.toInt < v.toInt := fun c => h3 (Int32.lt_iff_toInt_lt.mpr c)
        rw [if_neg h3]
        exact Int32.toInt_inj.mp (by omega)
    · have a2 : ¬ lo.toInt < hi.toInt := fun c => h2 (Int32.lt_iff_toInt_lt.mpr c)
      rw [if_neg h2]
      by_cases h4 : v < lo
      · rw [if_pos h4]
      · rw [if_neg h4]
        by_cases h3 : hi < v
        · rw [if_pos h3]
          exact Int32.toInt_inj.mp (by omega)
        · have a3 : ¬ hi.toInt < v.toInt := fun c => h3 (Int32.lt_iff_toInt_lt.mpr c)
          rw [if_neg h3]
          exact Int32.toInt_inj.mp (by omega)
/-- the callers: how many, where they lie, kinds, numbers -/
def cIv (I : px_HI) (R : px_HR) (S : px_HS) (cc : Nat) (ca kd nb : Nat → Nat) : Prop := cc ≤ 7 ∧ I 0 1 = nI cc ∧ I 31 14 = nI cc ∧ ∀ i, i < cc → R 1 i = some (ca i) ∧ S (ca i) = (cls (kd i), 2) ∧ kd i ≤ 5 ∧ nb i ≤ 9 ∧ I (ca i) 0 = nI (kd i) ∧ I (ca i) 1 = nI (nb i) ∧ I 35 i = nI (kd i) ∧ I 36 i = nI (nb i)
/-- the texts: how many, where they lie, how long their letters -/
def tIv (I : px_HI) (R : px_HR) (S : px_HS) (tc : Nat) (ta ua wa tz : Nat → Nat) : Prop := 1 ≤ tc ∧ tc ≤ 6 ∧ I 0 9 = nI tc ∧ I 31 3 = nI tc ∧ ∀ t, t < tc → R 15 t = some (ta t) ∧ txOK I R S (ta t) (ua t) (wa t) (fun j => I 32 (160 * t + j)) (tz t) ∧ I 33 t = nI (tz t) ∧ tz t ≤ 160 ∧ (∀ j, j < tz t → 0 ≤ I 32 (160 * t + j)) ∧ (wa t = 30 ∨ 49 ≤ wa t) ∧ (ua t = 29 ∨ 49 ≤ ua t) ∧ ∀ t', t' < tc → ¬ ua t' = wa t
def tV (I : px_HI) (tz : Nat → Nat) (rl wh : Nat) (e : pE) : Int32 := rdV (fun j => I 32 (160 * rl + j)) (tz rl) wh e
section PXV1
variable {d D n q L sc rl tc wh cc : Nat} {so : Option Nat} {I : px_HI} {J : px_HJ} {R dr : px_HR} {S ds : px_HS} {sort who x y lo hi v : Int32} {ta ua wa tz ca kd nb : Nat → Nat}
theorem r_below : px_mt (d + 1) 46 [.int x, .int y] I J R S n q (some (.int (bI (decide (0 ≤ x ∧ x < y)))), I, J, R, S, n, q) := by
  unfold px_mt
  repeat refine e_s rfl ?_
  refine e_b (fun h => ?_) (fun h => ?_)
  · rw [bI_f (fun c => Int32.not_le.mpr h c.1)]
    repeat refine e_s rfl ?_
    exact e_r rfl
  · repeat refine e_s rfl ?_
    refine e_b (fun h2 => ?_) (fun h2 => ?_)
    · rw [bI_f (fun c => Int32.not_lt.mpr h2 c.2)]
      repeat refine e_s rfl ?_
      exact e_r rfl
    · rw [bI_t ⟨Int32.not_lt.mp h, Int32.not_le.mp h2⟩]
      repeat refine e_s rfl ?_
      exact e_r rfl
theorem r_within (h : lo ≤ hi) : px_mt (d + 1) 92 [.int lo, .int hi, .int v] I J R S n q (some (.int (clp lo hi v)), I, J, R, S, n, q) := by
  unfold px_mt
  repeat refine e_s rfl ?_
  rw [clp_eq h]
  exact e_r rfl
theorem r_withinM : px_mt (d + 1) 205 [.int v, .int lo, .int hi] I J R S n q (some (.int (clp lo hi v)), I, J, R, S, n, q) := by
  unfold px_mt clp
  repeat refine e_s rfl ?_
  refine e_b (fun h => ?_) (fun h => ?_)
  · rw [if_neg (Int32.not_lt.mpr h)]
    repeat refine e_s rfl ?_
    refine e_b (fun h2 => ?_) (fun h2 => ?_)
    · rw [if_neg (Int32.not_lt.mpr h2)]
      repeat refine e_s rfl ?_
      exact e_r rfl
    · rw [if_pos (Int32.not_le.mp h2)]
      repeat refine e_s rfl ?_
      exact e_r rfl
  · rw [if_pos (Int32.not_le.mp h)]
    repeat refine e_s rfl ?_
    exact e_r rfl
theorem r_valOf (hT : tIv I (dR so dr) (dS L ds) tc ta ua wa tz) (hSc : dS L ds sc = (17, 8)) (hr : I sc 5 = nI rl) (hrl : rl < tc) (hw : wh ≤ 2) (hsc : sc < 10) : ∃ I', px_mt (d + 3) 86 [.ref 0, .int (nI wh), .ref sc, .int sort, .int who] I J (dR so dr) (dS L ds) n q (some (.int (tV I tz rl wh (nmE (I sc 0) (I sc 1) sort (I sc 2) (I sc 6) who))), I', J, dR so dr, dS L ds, n, q) ∧ ∀ a j, a ≠ wa rl → I' a j = I a j := by
  obtain ⟨h1, h2, h3, h4, h5⟩ := hT
  obtain ⟨g1, g2, g3, g4, g5, g6, g7⟩ := h5 rl hrl
  obtain ⟨I', hr1, hf1⟩ := r_valT (d := d) (n := n) (q := q) (J := J) (sort := sort) (who := who) g2 hSc (by omega) hw
  refine ⟨I', ?_, hf1⟩
  unfold px_mt
  refine e_s rfl ?_
  refine e_gi rfl hSc rfl ?_
  rw [hr]
  repeat refine e_s rfl ?_
  rw [h3]
  refine e_c rfl (r_below (d := d)) (by omega) ?_
  rw [bI_t ⟨nI_pos' (by omega), nI_lt hrl (by omega)⟩]
  repeat refine e_s rfl ?_
  refine e_gi rfl hSc rfl ?_
  rw [hr]
  repeat refine e_s rfl ?_
  refine e_bf (nI_ge (b := 6) (by omega) (by decide)) ?_
  repeat refine e_s rfl ?_
  refine e_gi rfl hSc rfl ?_
  rw [hr]
  refine e_aa rfl rfl rfl (show rl < 6 by omega) (by decide) g1 ?_
  repeat refine e_s rfl ?_
  refine e_cv rfl rfl rfl g2.1 rfl rfl hr1 (by omega) ?_
  exact e_r rfl
end PXV1
