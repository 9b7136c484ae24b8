/-! set, on both sides -/
theorem tIv.g2 {I I' : px_HI} {R : px_HR} {S : px_HS} {tc : Nat} {ta ua wa tz : Nat → Nat} (h : tIv I R S tc ta ua wa tz) (f1 : I' 0 9 = I 0 9) (f2 : I' 31 3 = I 31 3) (f3 : ∀ j, I' 32 j = I 32 j) (f4 : ∀ j, I' 33 j = I 33 j) (f5 : ∀ t j, t < tc → I' (ta t) j = I (ta t) j) (f6 : ∀ t j, t < tc → I' (ua t) j = I (ua t) j) : tIv I' R S tc ta ua wa tz := by
  obtain ⟨h1, h2, h3, h4, h5⟩ := h
  refine ⟨h1, h2, f1.trans h3, f2.trans h4, fun t ht => ?_⟩
  obtain ⟨g1, g2, g3, g4, g5, g6, g7, g8⟩ := h5 t ht
  have eb : (fun j => I' 32 (160 * t + j)) = fun j => I 32 (160 * t + j) := funext (fun j => f3 _)
  refine ⟨g1, ?_, (f4 t).trans g3, g4, fun j hj => by rw [f3]; exact g5 j hj, g6, g7, g8⟩
  rw [eb]
  obtain ⟨k1, k2, k3, k4, k5, k6, k7, k8, k9, k10, k11⟩ := g2
  exact ⟨k1, k2, k3, k4, k5, k6, k7, (f5 t 1 ht).trans k8, (f5 t 2 ht).trans k9, fun j hj => (f6 t j ht).trans (k10 j hj), k11⟩
theorem out_k {x : Int32} {k : Nat} (g : x < 0 ∨ nI k ≤ x) : decide (0 ≤ x ∧ x < nI k) = false := by
  refine decide_eq_false (fun h => ?_)
  rcases g with g | g
  · exact absurd h.1 (Int32.not_le.mpr g)
  · exact absurd h.2 (Int32.not_lt.mpr g)
theorem in_k {j k : Nat} (hj : j < k) (hk : k < 1000) : decide (0 ≤ nI j ∧ nI j < nI k) = true := by
  refine decide_eq_true ⟨?_, nI_lt hj (by omega)⟩
  exact nI_le (a := 0) (by omega) (by omega)
theorem in_c0 {x : Int32} {k : Nat} (h2 : k < 1000) : decide (0 ≤ x ∧ x < nI k) = inI 0 (nI k - 1) x := by
  by_cases h : 1 ≤ k
  · exact in_cc h h2
  · have e : k = 0 := by omega
    subst e
    unfold inI
    refine decide_eq_decide.mpr ?_
    rw [Int32.lt_iff_toInt_lt, Int32.le_iff_toInt_le, Int32.le_iff_toInt_le, show (nI 0).toInt = 0 by decide, show (nI 0 - 1).toInt = -1 by decide, show (0 : Int32).toInt = 0 by decide]
    omega
theorem cls_lt {k : Nat} : cls k < 20 := by
  unfold cls
  split <;> decide
section PXI4
variable {d D n q L cc tc rl sg tp : Nat} {so : Option Nat} {dr : px_HR} {ds : px_HS} {I : px_HI} {J : px_HJ} {xs : Nat → Int32} {ca kd nb ta ua wa tz : Nat → Nat} {x y v : Int32}
theorem r_isOne (h : I 31 14 = nI cc) (h7 : cc ≤ 7) : px_mt (d + 2) 145 [.ref 31, .int x] I J (dR so dr) (dS L ds) n q (some (.int (bI (decide (0 ≤ x ∧ x < nI cc)))), I, J, dR so dr, dS L ds, n, q) := by
  unfold px_mt
  repeat refine e_s rfl ?_
  rw [h]
  refine e_c rfl (r_inI (D := d) (a := 0) (c := nI cc - 1) (by decide) rfl) (by omega) ?_
  rw [in_c0 (by omega)]
  cases inI 0 (nI cc - 1) x with
  | false => exact e_r rfl
  | true => exact e_r rfl
theorem pt_0 : px_mt (d + 1) 47 [.ref 2, .int 0] I J (dR so dr) (dS L ds) n q (some (.int (I 2 0)), I, J, dR so dr, dS L ds, n, q) := by
  unfold px_mt
  repeat refine e_s rfl ?_
  exact e_r rfl
theorem pp_0 : px_mt (d + 1) 48 [.ref 2, .int 0, .int v] I J (dR so dr) (dS L ds) n q (none, px_u I 2 0 v, J, dR so dr, dS L ds, n, q) := by
  unfold px_mt
  repeat refine e_s rfl ?_
  exact e_r rfl
theorem pt_1 : px_mt (d + 1) 47 [.ref 2, .int 1] I J (dR so dr) (dS L ds) n q (some (.int (I 2 1)), I, J, dR so dr, dS L ds, n, q) := by
  unfold px_mt
  repeat refine e_s rfl ?_
  exact e_r rfl
theorem pp_1 : px_mt (d + 1) 48 [.ref 2, .int 1, .int v] I J (dR so dr) (dS L ds) n q (none, px_u I 2 1 v, J, dR so dr, dS L ds, n, q) := by
  unfold px_mt
  repeat refine e_s rfl ?_
  exact e_r rfl
theorem pt_2 : px_mt (d + 1) 47 [.ref 2, .int 2] I J (dR so dr) (dS L ds) n q (some (.int (I 2 2)), I, J, dR so dr, dS L ds, n, q) := by
  unfold px_mt
  repeat refine e_s rfl ?_
  exact e_r rfl
theorem pp_2 : px_mt (d + 1) 48 [.ref 2, .int 2, .int v] I J (dR so dr) (dS L ds) n q (none, px_u I 2 2 v, J, dR so dr, dS L ds, n, q) := by
  unfold px_mt
  repeat refine e_s rfl ?_
  exact e_r rfl
theorem pt_3 : px_mt (d + 1) 47 [.ref 2, .int 3] I J (dR so dr) (dS L ds) n q (some (.int (I 2 3)), I, J, dR so dr, dS L ds, n, q) := by
  unfold px_mt
  repeat refine e_s rfl ?_
  exact e_r rfl
theorem pp_3 : px_mt (d + 1) 48 [.ref 2, .int 3, .int v] I J (dR so dr) (dS L ds) n q (none, px_u I 2 3 v, J, dR so dr, dS L ds, n, q) := by
  unfold px_mt
  repeat refine e_s rfl ?_
  exact e_r rfl
theorem pt_4 : px_mt (d + 1) 47 [.ref 2, .int 4] I J (dR so dr) (dS L ds) n q (some (.int (I 2 4)), I, J, dR so dr, dS L ds, n, q) := by
  unfold px_mt
  repeat refine e_s rfl ?_
  exact e_r rfl
theorem pp_4 : px_mt (d + 1) 48 [.ref 2, .int 4, .int v] I J (dR so dr) (dS L ds) n q (none, px_u I 2 4 v, J, dR so dr, dS L ds, n, q) := by
  unfold px_mt
  repeat refine e_s rfl ?_
  exact e_r rfl
theorem pq_3 : px_mt (d + 1) 48 [.ref 4, .int 3, .int v] I J (dR so dr) (dS L ds) n q (none, px_u I 4 3 v, J, dR so dr, dS L ds, n, q) := by
  unfold px_mt
  repeat refine e_s rfl ?_
  exact e_r rfl
theorem pq_4 : px_mt (d + 1) 48 [.ref 4, .int 4, .int v] I J (dR so dr) (dS L ds) n q (none, px_u I 4 4 v, J, dR so dr, dS L ds, n, q) := by
  unfold px_mt
  repeat refine e_s rfl ?_
  exact e_r rfl
theorem o_set0 (h : Inv xs L so dr ds I n cc tc rl sg tp ca kd nb ta ua wa tz) : ∃ I1 I2 v' rl' sg' nb', px_mt (d + 4) 43 [.ref 0, .int 0, .int y, .int v] I J (dR so dr) (dS L ds) n q (some (.int v'), I1, J, dR so dr, dS L ds, n, q) ∧ px_mt (d + 4) 143 [.ref 31, .int 0, .int y, .int v] I1 J (dR so dr) (dS L ds) n q (some (.int v'), I2, J, dR so dr, dS L ds, n, q) ∧ Inv xs L so dr ds I2 n cc tc rl' sg' tp ca kd nb' ta ua wa tz := by
  have hh := h
  obtain ⟨h0, h1, h2, h3, h4, h5, h6, h7, h8, h9, h10, h11, h12⟩ := h
  have ein : decide (0 ≤ v ∧ v < 24) = inI 0 23 v := in_lt 23 (by decide) (by decide)
  have e1 : I 2 0 = I 31 7 := h1.1
  have e2 : I 1000001 (Int32.toNatClampNeg 0) = 24 := h7 1000001 0 (by decide)
  cases hin : inI 0 23 v with
  | false =>
    refine ⟨I, I, -2, rl, sg, nb, ?_, ?_, hh⟩
    · unfold px_mt
      repeat refine e_s rfl ?_
      refine e_c rfl (r_below (d := d)) (by omega) ?_
      repeat refine e_s rfl ?_
      rw [e2]
      refine e_c rfl (r_below (d := d)) (by omega) ?_
      rw [ein, hin]
      repeat refine e_s rfl ?_
      exact e_r rfl
    · unfold px_mt
      repeat refine e_s rfl ?_
      refine e_c rfl (r_inI (D := d) (a := 0) (c := 5) (by decide) (by decide)) (by omega) ?_
      repeat refine e_s rfl ?_
      refine e_c rfl (r_inI (D := d) (a := 0) (c := 23) (by decide) (by decide)) (by omega) ?_
      rw [hin]
      repeat refine e_s rfl ?_
      exact e_r rfl
  | true =>
    refine ⟨px_u I 2 0 v, px_u (px_u I 2 0 v) 31 7 v, I 2 0, rl, sg, nb, ?_, ?_, hh.house (fun a j g => ?_) h0 ?_⟩
    · unfold px_mt
      repeat refine e_s rfl ?_
      refine e_c rfl (r_below (d := d)) (by omega) ?_
      repeat refine e_s rfl ?_
      rw [e2]
      refine e_c rfl (r_below (d := d)) (by omega) ?_
      rw [ein, hin]
      repeat refine e_s rfl ?_
      refine e_c rfl (pt_0 (d := d)) (by omega) ?_
      repeat refine e_s rfl ?_
      refine e_c rfl (pp_0 (d := d)) (by omega) ?_
      repeat refine e_s rfl ?_
      exact e_r rfl
    · unfold px_mt
      repeat refine e_s rfl ?_
      refine e_c rfl (r_inI (D := d) (a := 0) (c := 5) (by decide) (by decide)) (by omega) ?_
      repeat refine e_s rfl ?_
      refine e_c rfl (r_inI (D := d) (a := 0) (c := 23) (by decide) (by decide)) (by omega) ?_
      rw [hin]
      repeat refine e_s rfl ?_
      rw [show px_u I 2 0 v 31 7 = I 2 0 from e1.symm]
      exact e_r rfl
    · unfold hFt at g
      rw [u_ne (fun e => by omega), u_ne (fun e => by omega)]
    · obtain ⟨a1, a2, a3, a4, a5, a6, a7, a8, a9, a10, a11⟩ := h1
      exact ⟨rfl, a2, a3, a4, a5, a6, a7, a8, a9, a10, a11⟩
theorem o_set1 (h : Inv xs L so dr ds I n cc tc rl sg tp ca kd nb ta ua wa tz) : ∃ I1 I2 v' rl' sg' nb', px_mt (d + 4) 43 [.ref 0, .int 1, .int y, .int v] I J (dR so dr) (dS L ds) n q (some (.int v'), I1, J, dR so dr, dS L ds, n, q) ∧ px_mt (d + 4) 143 [.ref 31, .int 1, .int y, .int v] I1 J (dR so dr) (dS L ds) n q (some (.int v'), I2, J, dR so dr, dS L ds, n, q) ∧ Inv xs L so dr ds I2 n cc tc rl' sg' tp ca kd nb' ta ua wa tz := by
  have hh := h
  obtain ⟨h0, h1, h2, h3, h4, h5, h6, h7, h8, h9, h10, h11, h12⟩ := h
  have ein : decide (0 ≤ v ∧ v < 7) = inI 0 6 v := in_lt 6 (by decide) (by decide)
  have e1 : I 2 1 = I 31 8 := h1.2.1
  have e2 : I 1000001 (Int32.toNatClampNeg 1) = 7 := h7 1000001 1 (by decide)
  cases hin : inI 0 6 v with
  | false =>
    refine ⟨I, I, -2, rl, sg, nb, ?_, ?_, hh⟩
    · unfold px_mt
      repeat refine e_s rfl ?_
      refine e_c rfl (r_below (d := d)) (by omega) ?_
      repeat refine e_s rfl ?_
      rw [e2]
      refine e_c rfl (r_below (d := d)) (by omega) ?_
      rw [ein, hin]
      repeat refine e_s rfl ?_
      exact e_r rfl
    · unfold px_mt
      repeat refine e_s rfl ?_
      refine e_c rfl (r_inI (D := d) (a := 0) (c := 5) (by decide) (by decide)) (by omega) ?_
      repeat refine e_s rfl ?_
      refine e_c rfl (r_inI (D := d) (a := 0) (c := 6) (by decide) (by decide)) (by omega) ?_
      rw [hin]
      repeat refine e_s rfl ?_
      exact e_r rfl
  | true =>
    refine ⟨px_u I 2 1 v, px_u (px_u I 2 1 v) 31 8 v, I 2 1, rl, sg, nb, ?_, ?_, hh.house (fun a j g => ?_) h0 ?_⟩
    · unfold px_mt
      repeat refine e_s rfl ?_
      refine e_c rfl (r_below (d := d)) (by omega) ?_
      repeat refine e_s rfl ?_
      rw [e2]
      refine e_c rfl (r_below (d := d)) (by omega) ?_
      rw [ein, hin]
      repeat refine e_s rfl ?_
      refine e_c rfl (pt_1 (d := d)) (by omega) ?_
      repeat refine e_s rfl ?_
      refine e_c rfl (pp_1 (d := d)) (by omega) ?_
      repeat refine e_s rfl ?_
      exact e_r rfl
    · unfold px_mt
      repeat refine e_s rfl ?_
      refine e_c rfl (r_inI (D := d) (a := 0) (c := 5) (by decide) (by decide)) (by omega) ?_
      repeat refine e_s rfl ?_
      refine e_c rfl (r_inI (D := d) (a := 0) (c := 6) (by decide) (by decide)) (by omega) ?_
      rw [hin]
      repeat refine e_s rfl ?_
      rw [show px_u I 2 1 v 31 8 = I 2 1 from e1.symm]
      exact e_r rfl
    · unfold hFt at g
      rw [u_ne (fun e => by omega), u_ne (fun e => by omega)]
    · obtain ⟨a1, a2, a3, a4, a5, a6, a7, a8, a9, a10, a11⟩ := h1
      exact ⟨a1, rfl, a3, a4, a5, a6, a7, a8, a9, a10, a11⟩
theorem o_set2 (h : Inv xs L so dr ds I n cc tc rl sg tp ca kd nb ta ua wa tz) : ∃ I1 I2 v' rl' sg' nb', px_mt (d + 4) 43 [.ref 0, .int 2, .int y, .int v] I J (dR so dr) (dS L ds) n q (some (.int v'), I1, J, dR so dr, dS L ds, n, q) ∧ px_mt (d + 4) 143 [.ref 31, .int 2, .int y, .int v] I1 J (dR so dr) (dS L ds) n q (some (.int v'), I2, J, dR so dr, dS L ds, n, q) ∧ Inv xs L so dr ds I2 n cc tc rl' sg' tp ca kd nb' ta ua wa tz := by
  have hh := h
  obtain ⟨h0, h1, h2, h3, h4, h5, h6, h7, h8, h9, h10, h11, h12⟩ := h
  have ein : decide (0 ≤ v ∧ v < 2) = inI 0 1 v := in_lt 1 (by decide) (by decide)
  have e1 : I 2 2 = I 31 9 := h1.2.2.1
  have e2 : I 1000001 (Int32.toNatClampNeg 2) = 2 := h7 1000001 2 (by decide)
  cases hin : inI 0 1 v with
  | false =>
    refine ⟨I, I, -2, rl, sg, nb, ?_, ?_, hh⟩
    · unfold px_mt
      repeat refine e_s rfl ?_
      refine e_c rfl (r_below (d := d)) (by omega) ?_
      repeat refine e_s rfl ?_
      rw [e2]
      refine e_c rfl (r_below (d := d)) (by omega) ?_
      rw [ein, hin]
      repeat refine e_s rfl ?_
      exact e_r rfl
    · unfold px_mt
      repeat refine e_s rfl ?_
      refine e_c rfl (r_inI (D := d) (a := 0) (c := 5) (by decide) (by decide)) (by omega) ?_
      repeat refine e_s rfl ?_
      refine e_c rfl (r_inI (D := d) (a := 0) (c := 1) (by decide) (by decide)) (by omega) ?_
      rw [hin]
      repeat refine e_s rfl ?_
      exact e_r rfl
  | true =>
    refine ⟨px_u I 2 2 v, px_u (px_u I 2 2 v) 31 9 v, I 2 2, rl, sg, nb, ?_, ?_, hh.house (fun a j g => ?_) h0 ?_⟩
    · unfold px_mt
      repeat refine e_s rfl ?_
      refine e_c rfl (r_below (d := d)) (by omega) ?_
      repeat refine e_s rfl ?_
      rw [e2]
      refine e_c rfl (r_below (d := d)) (by omega) ?_
      rw [ein, hin]
      repeat refine e_s rfl ?_
      refine e_c rfl (pt_2 (d := d)) (by omega) ?_
      repeat refine e_s rfl ?_
      refine e_c rfl (pp_2 (d := d)) (by omega) ?_
      repeat refine e_s rfl ?_
      exact e_r rfl
    · unfold px_mt
      repeat refine e_s rfl ?_
      refine e_c rfl (r_inI (D := d) (a := 0) (c := 5) (by decide) (by decide)) (by omega) ?_
      repeat refine e_s rfl ?_
      refine e_c rfl (r_inI (D := d) (a := 0) (c := 1) (by decide) (by decide)) (by omega) ?_
      rw [hin]
      repeat refine e_s rfl ?_
      rw [show px_u I 2 2 v 31 9 = I 2 2 from e1.symm]
      exact e_r rfl
    · unfold hFt at g
      rw [u_ne (fun e => by omega), u_ne (fun e => by omega)]
    · obtain ⟨a1, a2, a3, a4, a5, a6, a7, a8, a9, a10, a11⟩ := h1
      exact ⟨a1, a2, rfl, a4, a5, a6, a7, a8, a9, a10, a11⟩
theorem o_set3 (h : Inv xs L so dr ds I n cc tc rl sg tp ca kd nb ta ua wa tz) : ∃ I1 I2 v' rl' sg' nb', px_mt (d + 4) 43 [.ref 0, .int 3, .int y, .int v] I J (dR so dr) (dS L ds) n q (some (.int v'), I1, J, dR so dr, dS L ds, n, q) ∧ px_mt (d + 4) 143 [.ref 31, .int 3, .int y, .int v] I1 J (dR so dr) (dS L ds) n q (some (.int v'), I2, J, dR so dr, dS L ds, n, q) ∧ Inv xs L so dr ds I2 n cc tc rl' sg' tp ca kd nb' ta ua wa tz := by
  have hh := h
  obtain ⟨h0, h1, h2, h3, h4, h5, h6, h7, h8, h9, h10, h11, h12⟩ := h
  have ein : decide (0 ≤ v ∧ v < 2) = inI 0 1 v := in_lt 1 (by decide) (by decide)
  have e1 : I 2 3 = I 31 10 := h1.2.2.2.1
  have e2 : I 1000001 (Int32.toNatClampNeg 3) = 2 := h7 1000001 3 (by decide)
  cases hin : inI 0 1 v with
  | false =>
    refine ⟨I, I, -2, rl, sg, nb, ?_, ?_, hh⟩
    · unfold px_mt
      repeat refine e_s rfl ?_
      refine e_c rfl (r_below (d := d)) (by omega) ?_
      repeat refine e_s rfl ?_
      rw [e2]
      refine e_c rfl (r_below (d := d)) (by omega) ?_
      rw [ein, hin]
      repeat refine e_s rfl ?_
      exact e_r rfl
    · unfold px_mt
      repeat refine e_s rfl ?_
      refine e_c rfl (r_inI (D := d) (a := 0) (c := 5) (by decide) (by decide)) (by omega) ?_
      repeat refine e_s rfl ?_
      refine e_c rfl (r_inI (D := d) (a := 0) (c := 1) (by decide) (by decide)) (by omega) ?_
      rw [hin]
      repeat refine e_s rfl ?_
      exact e_r rfl
  | true =>
    refine ⟨px_u I 2 3 v, px_u (px_u I 2 3 v) 31 10 v, I 2 3, rl, sg, nb, ?_, ?_, hh.house (fun a j g => ?_) h0 ?_⟩
    · unfold px_mt
      repeat refine e_s rfl ?_
      refine e_c rfl (r_below (d := d)) (by omega) ?_
      repeat refine e_s rfl ?_
      rw [e2]
      refine e_c rfl (r_below (d := d)) (by omega) ?_
      rw [ein, hin]
      repeat refine e_s rfl ?_
      refine e_c rfl (pt_3 (d := d)) (by omega) ?_
      repeat refine e_s rfl ?_
      refine e_c rfl (pp_3 (d := d)) (by omega) ?_
      repeat refine e_s rfl ?_
      exact e_r rfl
    · unfold px_mt
      repeat refine e_s rfl ?_
      refine e_c rfl (r_inI (D := d) (a := 0) (c := 5) (by decide) (by decide)) (by omega) ?_
      repeat refine e_s rfl ?_
      refine e_c rfl (r_inI (D := d) (a := 0) (c := 1) (by decide) (by decide)) (by omega) ?_
      rw [hin]
      repeat refine e_s rfl ?_
      rw [show px_u I 2 3 v 31 10 = I 2 3 from e1.symm]
      exact e_r rfl
    · unfold hFt at g
      rw [u_ne (fun e => by omega), u_ne (fun e => by omega)]
    · obtain ⟨a1, a2, a3, a4, a5, a6, a7, a8, a9, a10, a11⟩ := h1
      exact ⟨a1, a2, a3, rfl, a5, a6, a7, a8, a9, a10, a11⟩
theorem o_set4 (h : Inv xs L so dr ds I n cc tc rl sg tp ca kd nb ta ua wa tz) : ∃ I1 I2 v' rl' sg' nb', px_mt (d + 4) 43 [.ref 0, .int 4, .int y, .int v] I J (dR so dr) (dS L ds) n q (some (.int v'), I1, J, dR so dr, dS L ds, n, q) ∧ px_mt (d + 4) 143 [.ref 31, .int 4, .int y, .int v] I1 J (dR so dr) (dS L ds) n q (some (.int v'), I2, J, dR so dr, dS L ds, n, q) ∧ Inv xs L so dr ds I2 n cc tc rl' sg' tp ca kd nb' ta ua wa tz := by
  have hh := h
  obtain ⟨h0, h1, h2, h3, h4, h5, h6, h7, h8, h9, h10, h11, h12⟩ := h
  have ein : decide (0 ≤ v ∧ v < 2) = inI 0 1 v := in_lt 1 (by decide) (by decide)
  have e1 : I 2 4 = I 31 11 := h1.2.2.2.2.1
  have e2 : I 1000001 (Int32.toNatClampNeg 4) = 2 := h7 1000001 4 (by decide)
  cases hin : inI 0 1 v with
  | false =>
    refine ⟨I, I, -2, rl, sg, nb, ?_, ?_, hh⟩
    · unfold px_mt
      repeat refine e_s rfl ?_
      refine e_c rfl (r_below (d := d)) (by omega) ?_
      repeat refine e_s rfl ?_
      rw [e2]
      refine e_c rfl (r_below (d := d)) (by omega) ?_
      rw [ein, hin]
      repeat refine e_s rfl ?_
      exact e_r rfl
    · unfold px_mt
      repeat refine e_s rfl ?_
      refine e_c rfl (r_inI (D := d) (a := 0) (c := 5) (by decide) (by decide)) (by omega) ?_
      repeat refine e_s rfl ?_
      refine e_c rfl (r_inI (D := d) (a := 0) (c := 1) (by decide) (by decide)) (by omega) ?_
      rw [hin]
      repeat refine e_s rfl ?_
      exact e_r rfl
  | true =>
    refine ⟨px_u I 2 4 v, px_u (px_u I 2 4 v) 31 11 v, I 2 4, rl, sg, nb, ?_, ?_, hh.house (fun a j g => ?_) h0 ?_⟩
    · unfold px_mt
      repeat refine e_s rfl ?_
      refine e_c rfl (r_below (d := d)) (by omega) ?_
      repeat refine e_s rfl ?_
      rw [e2]
      refine e_c rfl (r_below (d := d)) (by omega) ?_
      rw [ein, hin]
      repeat refine e_s rfl ?_
      refine e_c rfl (pt_4 (d := d)) (by omega) ?_
      repeat refine e_s rfl ?_
      refine e_c rfl (pp_4 (d := d)) (by omega) ?_
      repeat refine e_s rfl ?_
      exact e_r rfl
    · unfold px_mt
      repeat refine e_s rfl ?_
      refine e_c rfl (r_inI (D := d) (a := 0) (c := 5) (by decide) (by decide)) (by omega) ?_
      repeat refine e_s rfl ?_
      refine e_c rfl (r_inI (D := d) (a := 0) (c := 1) (by decide) (by decide)) (by omega) ?_
      rw [hin]
      repeat refine e_s rfl ?_
      rw [show px_u I 2 4 v 31 11 = I 2 4 from e1.symm]
      exact e_r rfl
    · unfold hFt at g
      rw [u_ne (fun e => by omega), u_ne (fun e => by omega)]
    · obtain ⟨a1, a2, a3, a4, a5, a6, a7, a8, a9, a10, a11⟩ := h1
      exact ⟨a1, a2, a3, a4, rfl, a6, a7, a8, a9, a10, a11⟩
theorem o_set5 (h : Inv xs L so dr ds I n cc tc rl sg tp ca kd nb ta ua wa tz) : ∃ I1 I2 v' rl' sg' nb', px_mt (d + 4) 43 [.ref 0, .int 5, .int y, .int v] I J (dR so dr) (dS L ds) n q (some (.int v'), I1, J, dR so dr, dS L ds, n, q) ∧ px_mt (d + 4) 143 [.ref 31, .int 5, .int y, .int v] I1 J (dR so dr) (dS L ds) n q (some (.int v'), I2, J, dR so dr, dS L ds, n, q) ∧ Inv xs L so dr ds I2 n cc tc rl' sg' tp ca kd nb' ta ua wa tz := by
  have hh := h
  obtain ⟨h0, h1, h2, h3, h4, h5, h6, h7, h8, h9, h10, h11, h12⟩ := h
  have c7 := h2.1
  rcases pk_ix y (n := cc) (by omega) with g | g | ⟨i, hi, rfl⟩
  · refine ⟨I, I, -2, rl, sg, nb, ?_, ?_, hh⟩
    · unfold px_mt
      repeat refine e_s rfl ?_
      refine e_c rfl (k := 44) (d' := d + 3) (v := some (.int (-2))) (I1 := I) (J1 := J) (R1 := dR so dr) (S1 := dS L ds) (n1 := n) (q1 := q) ?_ (by omega) ?_
      · unfold px_mt
        repeat refine e_s rfl ?_
        refine e_c rfl (r_callerNo (d := d) h2 (Or.inl g)) (by omega) ?_
        repeat refine e_s rfl ?_
        exact e_r rfl
      · exact e_r rfl
    · unfold px_mt
      repeat refine e_s rfl ?_
      refine e_c rfl (r_inI (D := d) (a := 0) (c := 5) (by decide) (by decide)) (by omega) ?_
      repeat refine e_s rfl ?_
      refine e_c rfl (r_isOne (d := d) h2.2.2.1 c7) (by omega) ?_
      rw [out_k (Or.inl g)]
      repeat refine e_s rfl ?_
      exact e_r rfl
  · refine ⟨I, I, -2, rl, sg, nb, ?_, ?_, hh⟩
    · unfold px_mt
      repeat refine e_s rfl ?_
      refine e_c rfl (k := 44) (d' := d + 3) (v := some (.int (-2))) (I1 := I) (J1 := J) (R1 := dR so dr) (S1 := dS L ds) (n1 := n) (q1 := q) ?_ (by omega) ?_
      · unfold px_mt
        repeat refine e_s rfl ?_
        refine e_c rfl (r_callerNo (d := d) h2 (Or.inr g)) (by omega) ?_
        repeat refine e_s rfl ?_
        exact e_r rfl
      · exact e_r rfl
    · unfold px_mt
      repeat refine e_s rfl ?_
      refine e_c rfl (r_inI (D := d) (a := 0) (c := 5) (by decide) (by decide)) (by omega) ?_
      repeat refine e_s rfl ?_
      refine e_c rfl (r_isOne (d := d) h2.2.2.1 c7) (by omega) ?_
      rw [out_k (Or.inr g)]
      repeat refine e_s rfl ?_
      exact e_r rfl
  · have ein : decide (0 ≤ v ∧ v < 10) = inI 0 9 v := in_lt 9 (by decide) (by decide)
    obtain ⟨g1, g2, g3, g4, g5, g6, g7, g8⟩ := h2.2.2.2 i hi
    obtain ⟨c49, cn⟩ := h10 i hi
    cases hin : inI 0 9 v with
    | false =>
      refine ⟨I, I, -2, rl, sg, nb, ?_, ?_, hh⟩
      · unfold px_mt
        repeat refine e_s rfl ?_
        refine e_c rfl (k := 44) (d' := d + 3) (v := some (.int (-2))) (I1 := I) (J1 := J) (R1 := dR so dr) (S1 := dS L ds) (n1 := n) (q1 := q) ?_ (by omega) ?_
        · unfold px_mt
          repeat refine e_s rfl ?_
          refine e_c rfl (r_callerAt (d := d) h2 hi) (by omega) ?_
          repeat refine e_s rfl ?_
          refine e_c rfl (r_below (d := d)) (by omega) ?_
          rw [ein, hin]
          repeat refine e_s rfl ?_
          exact e_r rfl
        · exact e_r rfl
      · unfold px_mt
        repeat refine e_s rfl ?_
        refine e_c rfl (r_inI (D := d) (a := 0) (c := 5) (by decide) (by decide)) (by omega) ?_
        repeat refine e_s rfl ?_
        refine e_c rfl (r_isOne (d := d) h2.2.2.1 c7) (by omega) ?_
        rw [in_k hi (by omega)]
        repeat refine e_s rfl ?_
        refine e_c rfl (r_inI (D := d) (a := 0) (c := 9) (by decide) (by decide)) (by omega) ?_
        rw [hin]
        repeat refine e_s rfl ?_
        exact e_r rfl
    | true =>
      have hv := of_decide_eq_true (ein.trans hin)
      obtain ⟨b, hb, rfl⟩ : ∃ t, t < 10 ∧ v = nI t := by
        rcases pk_ix v (n := 10) (by omega) with g | g | ⟨j, hj, e⟩
        · exact absurd hv.1 (Int32.not_le.mpr g)
        · exact absurd hv.2 (Int32.not_lt.mpr g)
        · exact ⟨j, hj, e⟩
      have fr : ∀ a j, ¬ (a = ca i ∧ j = 1) → ¬ (a = 36 ∧ j = i) → px_u (px_u I (ca i) 1 (nI b)) 36 i (nI b) a j = I a j := fun a j g g' => by
        rw [u_ne (fun e => (fun e2 => g' ⟨e, e2⟩)), u_ne (fun e => (fun e2 => g ⟨e, e2⟩))]
      refine ⟨px_u I (ca i) 1 (nI b), px_u (px_u I (ca i) 1 (nI b)) 36 i (nI b), nI (nb i), rl, sg, fun t => if t = i then b else nb t, ?_, ?_, h0, h1.fr (fun a j g => fr a j ?_ ?_), ?_, h3.g2 (fr _ _ (by omega) (by omega)) (fr _ _ (by omega) (by omega)) (fun j => fr _ _ (by omega) (by omega)) (fun j => fr _ _ (by omega) (by omega)) (fun t j ht => fr _ _ ?_ ?_) (fun t j ht => fr _ _ ?_ ?_), h4.fr (fun a j g => fr a j ?_ ?_), h5.fr (fun a j g => fr a j ?_ ?_), h6.fr (fun a j g => fr a j ?_ ?_), fun a j g => (fr a j ?_ ?_).trans (h7 a j g), h8, h9, h10, h11, h12⟩
      · unfold px_mt
        repeat refine e_s rfl ?_
        refine e_c rfl (k := 44) (d' := d + 3) (v := some (.int (nI (nb i)))) (I1 := px_u I (ca i) 1 (nI b)) (J1 := J) (R1 := dR so dr) (S1 := dS L ds) (n1 := n) (q1 := q) ?_ (by omega) ?_
        · unfold px_mt
          repeat refine e_s rfl ?_
          refine e_c rfl (r_callerAt (d := d) h2 hi) (by omega) ?_
          repeat refine e_s rfl ?_
          refine e_c rfl (r_below (d := d)) (by omega) ?_
          rw [ein, hin]
          repeat refine e_s rfl ?_
          refine e_gi rfl g2 ?_ ?_
          · clear g2
            revert g3
            generalize kd i = k
            intro g3
            match k, g3 with
            | 0, _ => rfl
            | 1, _ => rfl
            | 2, _ => rfl
            | 3, _ => rfl
            | 4, _ => rfl
            | 5, _ => rfl
          rw [g6]
          repeat refine e_s rfl ?_
          refine e_pi rfl g2 ?_ rfl ?_
          · clear g2
            revert g3
            generalize kd i = k
            intro g3
            match k, g3 with
            | 0, _ => rfl
            | 1, _ => rfl
            | 2, _ => rfl
            | 3, _ => rfl
            | 4, _ => rfl
            | 5, _ => rfl
          repeat refine e_s rfl ?_
          exact e_r rfl
        · exact e_r rfl
      · unfold px_mt
        repeat refine e_s rfl ?_
        refine e_c rfl (r_inI (D := d) (a := 0) (c := 5) (by decide) (by decide)) (by omega) ?_
        repeat refine e_s rfl ?_
        refine e_c rfl (r_isOne (d := d) (cc := cc) ((u_ne (fun e => by omega)).trans h2.2.2.1) c7) (by omega) ?_
        rw [in_k hi (by omega)]
        repeat refine e_s rfl ?_
        refine e_c rfl (r_inI (D := d) (a := 0) (c := 9) (by decide) (by decide)) (by omega) ?_
        rw [hin]
        repeat refine e_s rfl ?_
        refine e_ia rfl rfl rfl (show i < 7 by omega) (by decide) ?_
        rw [u_ne (fun e => by omega), g8]
        repeat refine e_s rfl ?_
        refine e_is rfl rfl rfl (show i < 7 by omega) (by decide) ?_
        repeat refine e_s rfl ?_
        exact e_r rfl
      · unfold hFt at g
        omega
      · unfold hFt at g
        omega
      · refine ⟨c7, (fr _ _ (by omega) (by omega)).trans h2.2.1, (fr _ _ (by omega) (by omega)).trans h2.2.2.1, fun t ht => ?_⟩
        obtain ⟨k1, k2, k3, k4, k5, k6, k7, k8⟩ := h2.2.2.2 t ht
        by_cases e : t = i
        · subst e
          refine ⟨k1, k2, k3, ?_, (fr _ _ (by omega) (by omega)).trans k5, ?_, (fr _ _ (by omega) (by omega)).trans k7, ?_⟩
          · show (if t = t then b else nb t) ≤ 9
            rw [if_pos rfl]
            omega
          · show _ = nI (if t = t then b else nb t)
            rw [if_pos rfl, u_ne (fun e => by omega), u_eq]
          · show _ = nI (if t = t then b else nb t)
            rw [if_pos rfl, u_eq]
        · have hne : ¬ ca t = ca i := fun g => e (h11 t i ht hi g)
          have h49 := (h10 t ht).1
          refine ⟨k1, k2, k3, ?_, (fr _ _ (by omega) (by omega)).trans k5, ?_, (fr _ _ (by omega) (by omega)).trans k7, ?_⟩
          · show (if t = i then b else nb t) ≤ 9
            rw [if_neg e]
            exact k4
          · show _ = nI (if t = i then b else nb t)
            rw [if_neg e]
            exact (fr _ _ (by omega) (by omega)).trans k6
          · show _ = nI (if t = i then b else nb t)
            rw [if_neg e]
            exact (fr _ _ (by omega) (by omega)).trans k8
      · intro e
        have g := (h3.2.2.2.2 t ht).2.1.1
        rw [e.1, g2] at g
        have := (Prod.mk.inj g).1
        have := cls_lt (k := kd i)
        omega
      · have := h12 t ht
        omega
      · intro e
        have g := (h3.2.2.2.2 t ht).2.1.2.2.2.1
        rw [e.1, g2] at g
        have := (Prod.mk.inj g).1
        have := cls_lt (k := kd i)
        omega
      · have := (h3.2.2.2.2 t ht).2.2.2.2.2.2.1
        omega
      · unfold pFt at g
        omega
      · unfold pFt at g
        omega
      · unfold kFt at g
        omega
      · unfold kFt at g
        omega
      · unfold sFt at g
        omega
      · unfold sFt at g
        omega
      · omega
      · omega
theorem o_set (h : Inv xs L so dr ds I n cc tc rl sg tp ca kd nb ta ua wa tz) : ∃ I1 I2 v' rl' sg' nb', px_mt (d + 4) 43 [.ref 0, .int x, .int y, .int v] I J (dR so dr) (dS L ds) n q (some (.int v'), I1, J, dR so dr, dS L ds, n, q) ∧ px_mt (d + 4) 143 [.ref 31, .int x, .int y, .int v] I1 J (dR so dr) (dS L ds) n q (some (.int v'), I2, J, dR so dr, dS L ds, n, q) ∧ Inv xs L so dr ds I2 n cc tc rl' sg' tp ca kd nb' ta ua wa tz := by
  have key : (x < 0 ∨ nI 6 ≤ x) → ∃ I1 I2 v' rl' sg' nb', px_mt (d + 4) 43 [.ref 0, .int x, .int y, .int v] I J (dR so dr) (dS L ds) n q (some (.int v'), I1, J, dR so dr, dS L ds, n, q) ∧ px_mt (d + 4) 143 [.ref 31, .int x, .int y, .int v] I1 J (dR so dr) (dS L ds) n q (some (.int v'), I2, J, dR so dr, dS L ds, n, q) ∧ Inv xs L so dr ds I2 n cc tc rl' sg' tp ca kd nb' ta ua wa tz := by
    intro g
    have g5 : x < 0 ∨ nI 5 ≤ x := g.imp id (fun g => Int32.le_trans (by decide) g)
    have hx5 : ¬ x = 5 := by
      intro e
      subst e
      revert g
      decide
    have ein : inI 0 5 x = false := (in_lt (a := nI 6) 5 (by decide) (by decide)).symm.trans (out_k g)
    refine ⟨I, I, -2, rl, sg, nb, ?_, ?_, h⟩
    · unfold px_mt
      repeat refine e_s rfl ?_
      refine e_bt hx5 ?_
      repeat refine e_s rfl ?_
      refine e_c rfl (r_below (d := d)) (by omega) ?_
      rw [show decide (0 ≤ x ∧ x < Int32.ofNat (dS L ds 1000001).snd) = false from out_k g5]
      repeat refine e_s rfl ?_
      exact e_r rfl
    · unfold px_mt
      repeat refine e_s rfl ?_
      refine e_c rfl (r_inI (D := d) (a := 0) (c := 5) (by decide) (by decide)) (by omega) ?_
      rw [ein]
      repeat refine e_s rfl ?_
      exact e_r rfl
  rcases pk_ix x (n := 6) (by decide) with g | g | ⟨j, hj, e⟩
  · exact key (Or.inl g)
  · exact key (Or.inr g)
  · match j, hj with
    | 0, _ => rw [show x = 0 from e]; exact o_set0 h
    | 1, _ => rw [show x = 1 from e]; exact o_set1 h
    | 2, _ => rw [show x = 2 from e]; exact o_set2 h
    | 3, _ => rw [show x = 3 from e]; exact o_set3 h
    | 4, _ => rw [show x = 4 from e]; exact o_set4 h
    | 5, _ => rw [show x = 5 from e]; exact o_set5 h
end PXI4
