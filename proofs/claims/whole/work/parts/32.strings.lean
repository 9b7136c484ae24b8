/-! String constants: length and charAt -/
section PXS1
variable {d n q w v z len : Nat} {I : px_HI} {J : px_HJ} {R : px_HR} {S : px_HS}
theorem r_coder (hS : S w = (150, z)) (hc : I w 1 = 0) : px_mt (d + 1) 7 [.ref w] I J R S n q (some (.int 0), I, J, R, S, n, q) := by
  unfold px_mt
  refine e_s rfl ?_
  refine e_s rfl ?_
  refine e_pc (p2 := 6) (by decide) ?_
  refine e_s rfl ?_
  refine e_gi rfl hS rfl ?_
  rw [hc]
  refine e_s rfl ?_
  exact e_r rfl
theorem r_latin (hS : S w = (150, z)) (hc : I w 1 = 0) : px_mt (d + 1) 9 [.ref w] I J R S n q (some (.int 1), I, J, R, S, n, q) := by
  unfold px_mt
  refine e_s rfl ?_
  refine e_s rfl ?_
  refine e_pc (p2 := 6) (by decide) ?_
  refine e_s rfl ?_
  refine e_gi rfl hS rfl ?_
  rw [hc]
  refine e_s rfl ?_
  refine e_pc (p2 := 13) (by decide) ?_
  refine e_s rfl ?_
  refine e_s rfl ?_
  exact e_r rfl
theorem r_len (hS : S w = (150, z)) (hc : I w 1 = 0) (hR : R w 0 = some v) (hV : S v = (203, len)) (hl : len < 2 ^ 31) : px_mt (d + 2) 6 [.ref w] I J R S n q (some (.int (nI len)), I, J, R, S, n, q) := by
  unfold px_mt
  refine e_s rfl ?_
  refine e_gr rfl hS rfl hR ?_
  refine e_al rfl hV rfl ?_
  refine e_s rfl ?_
  refine e_cv rfl rfl rfl hS rfl rfl (r_coder (d := d) hS hc) (Nat.le_refl _) ?_
  refine e_s rfl ?_
  rw [sc_shr0 hl]
  exact e_r rfl
theorem r_chk1 {i : Nat} {x : Value} (hi : i < len) (hl : len < 2 ^ 31) : px_mt (d + 1) 12 [.int (nI i), .int (nI len), x] I J R S n q (some (.int (nI i)), I, J, R, S, n, q) := by
  unfold px_mt
  have e : ∀ y : Value, px_en [.int (nI i), .int (nI len), y] (px_nl 12) = px_en [.int (nI i), .int (nI len), y] 3 := fun _ => rfl
  cases x <;> (
    refine e_s rfl ?_
    refine e_s rfl ?_
    refine e_bf (nI_pos (Nat.lt_trans hi hl)) ?_
    refine e_s rfl ?_
    refine e_s rfl ?_
    refine e_s rfl ?_
    refine e_bt (nI_lt hi hl) ?_
    refine e_s rfl ?_
    exact e_r rfl)
theorem r_chk {i : Nat} (hi : i < len) (hl : len < 2 ^ 31) : px_mt (d + 2) 11 [.int (nI i), .int (nI len)] I J R S n q (none, I, J, R, S, n, q) := by
  unfold px_mt
  refine e_s rfl ?_
  refine e_s rfl ?_
  refine e_s rfl ?_
  cases hx : R 1000002 0 with
  | none =>
    refine e_c rfl (r_chk1 (d := d) hi hl) (Nat.le_refl _) ?_
    refine e_s rfl ?_
    exact e_r rfl
  | some y =>
    refine e_c rfl (r_chk1 (d := d) hi hl) (Nat.le_refl _) ?_
    refine e_s rfl ?_
    exact e_r rfl
theorem r_lchar {i : Nat} (hV : S v = (203, len)) (hi : i < len) (hl : len < 2 ^ 31) : px_mt (d + 3) 10 [.ref v, .int (nI i)] I J R S n q (some (.int (I v i &&& 255)), I, J, R, S, n, q) := by
  unfold px_mt
  refine e_s rfl ?_
  refine e_s rfl ?_
  refine e_al rfl hV rfl ?_
  refine e_c rfl (r_chk (d := d) hi hl) (Nat.le_refl _) ?_
  refine e_s rfl ?_
  refine e_s rfl ?_
  refine e_za rfl hV rfl hi hl ?_
  refine e_s rfl ?_
  refine e_s rfl ?_
  refine e_s rfl ?_
  rw [sc_c2]
  refine e_r ?_
  have hf : px_fit 2 (I v i &&& 255) = true := decide_eq_true (by have := sc_nar (I v i); exact Value.int.inj this)
  show px_re (21, 0, 2, 0, 15, [], .null) [.int (I v i &&& 255)] = _
  simp only [px_re, hf, if_true]
theorem r_char {i : Nat} (hS : S w = (150, z)) (hc : I w 1 = 0) (hR : R w 0 = some v) (hV : S v = (203, len)) (hi : i < len) (hl : len < 2 ^ 31) : px_mt (d + 4) 8 [.ref w, .int (nI i)] I J R S n q (some (.int (I v i &&& 255)), I, J, R, S, n, q) := by
  unfold px_mt
  refine e_s rfl ?_
  refine e_cv rfl rfl rfl hS rfl rfl (r_latin (d := d + 2) hS hc) (Nat.le_refl _) ?_
  refine e_s rfl ?_
  refine e_pc (p2 := 7) (by decide) ?_
  refine e_s rfl ?_
  refine e_gr rfl hS rfl hR ?_
  refine e_s rfl ?_
  refine e_c rfl (r_lchar (d := d) hV hi hl) (Nat.le_refl _) ?_
  refine e_r ?_
  have hf : px_fit 2 (I v i &&& 255) = true := decide_eq_true (by have := sc_nar (I v i); exact Value.int.inj this)
  show px_re (21, 0, 2, 0, 16, [], .null) [.int (I v i &&& 255)] = _
  simp only [px_re, hf, if_true]
end PXS1
