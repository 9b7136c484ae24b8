/-! tests -/
theorem r_isBelow {d n q : Nat} {I : px_HI} {J : px_HJ} {R : px_HR} {S : px_HS} (x y : Int32) : px_mt (d + 1) 46 [.int x, .int y] I J R S n q (some (.int (if 0 ≤ x ∧ x < y then 1 else 0)), I, J, R, S, n, q) := by
  unfold px_mt
  repeat refine e_s rfl ?_
  refine e_b (fun h => ?_) (fun h => ?_)
  · repeat refine e_s rfl ?_
    rw [if_neg (fun z => absurd h (Int32.not_lt.mpr z.1))]
    exact e_r rfl
  · repeat refine e_s rfl ?_
    refine e_b (fun h2 => ?_) (fun h2 => ?_)
    · repeat refine e_s rfl ?_
      rw [if_neg (fun z => absurd z.2 (Int32.not_lt.mpr h2))]
      exact e_r rfl
    · repeat refine e_s rfl ?_
      rw [if_pos ⟨Int32.not_lt.mp h, Int32.not_le.mp h2⟩]
      exact e_r rfl
theorem r_hush {d L n q : Nat} {so : Option Nat} {I : px_HI} {J : px_HJ} {dr : px_HR} {ds : px_HS} : px_mt (d + 1) 59 [.ref 0] I J (dR so dr) (dS L ds) n q (some (.int (I 2 6)), px_u I 2 6 0, J, dR so dr, dS L ds, n, q) := by
  unfold px_mt
  repeat refine e_s rfl ?_
  exact e_r rfl
theorem r_mhush {d L n q : Nat} {so : Option Nat} {I : px_HI} {J : px_HJ} {dr : px_HR} {ds : px_HS} : px_mt (d + 1) 148 [.ref 31] I J (dR so dr) (dS L ds) n q (some (.int (I 31 16)), px_u I 31 16 0, J, dR so dr, dS L ds, n, q) := by
  unfold px_mt
  repeat refine e_s rfl ?_
  exact e_r rfl
