/-! force, on both sides -/
theorem in_cc {x : Int32} {k : Nat} (h1 : 1 ≤ k) (h2 : k < 1000) : decide (0 ≤ x ∧ x < nI k) = inI 0 (nI k - 1) x := by
  obtain ⟨m, rfl⟩ : ∃ m, k = m + 1 := ⟨k - 1, by omega⟩
  exact in_lt m (by rw [nI_toInt (by omega)]; rfl) (by rw [nI_pred, nI_toInt (by omega)])
section PXI3
variable {d n q L cc tc rl sg tp : Nat} {so : Option Nat} {dr : px_HR} {ds : px_HS} {I : px_HI} {J : px_HJ} {xs : Nat → Int32} {ca kd nb ta ua wa tz : Nat → Nat} {x : Int32}
theorem o_force (h : Inv xs L so dr ds I n cc tc rl sg tp ca kd nb ta ua wa tz) : ∃ I1 I2 v rl', px_mt (d + 2) 81 [.ref 0, .int x] I J (dR so dr) (dS L ds) n q (some (.int v), I1, J, dR so dr, dS L ds, n, q) ∧ px_mt (d + 2) 201 [.ref 31, .int x] I1 J (dR so dr) (dS L ds) n q (some (.int v), I2, J, dR so dr, dS L ds, n, q) ∧ Inv xs L so dr ds I2 n cc tc rl' sg tp ca kd nb ta ua wa tz := by
  have hh := h
  obtain ⟨h0, h1, h2, h3, h4, h5, h6, h7, h8, h9, h10, h11, h12⟩ := h
  have e25 : I 2 5 = nI rl := h1.2.2.2.2.2.1
  have e4 : I 31 4 = nI rl := h1.2.2.2.2.2.2.1
  have e09 : I 0 9 = nI tc := h3.2.2.1
  have e3 : I 31 3 = nI tc := h3.2.2.2.1
  have htc := h3.2.1
  have ein : decide (0 ≤ x ∧ x < nI tc) = inI 0 (nI tc - 1) x := in_cc h3.1 (by omega)
  cases hin : inI 0 (nI tc - 1) x with
  | false =>
    refine ⟨I, I, -2, rl, ?_, ?_, hh⟩
    · unfold px_mt
      repeat refine e_s rfl ?_
      rw [e09]
      refine e_c rfl (r_below (d := d)) (by omega) ?_
      rw [ein, hin]
      repeat refine e_s rfl ?_
      exact e_r rfl
    · unfold px_mt
      repeat refine e_s rfl ?_
      rw [e3]
      refine e_c rfl (r_inI (D := d) (a := 0) (c := nI tc - 1) (by decide) rfl) (by omega) ?_
      rw [hin]
      repeat refine e_s rfl ?_
      exact e_r rfl
  | true =>
    have hx := of_decide_eq_true (ein.trans hin)
    obtain ⟨t, ht, rfl⟩ : ∃ t, t < tc ∧ x = nI t := by
      rcases pk_ix x (n := tc) (by omega) with g | g | ⟨j, hj, e⟩
      · exact absurd hx.1 (Int32.not_le.mpr g)
      · exact absurd hx.2 (Int32.not_lt.mpr g)
      · exact ⟨j, hj, e⟩
    refine ⟨px_u I 2 5 (nI t), px_u (px_u I 2 5 (nI t)) 31 4 (nI t), nI rl, t, ?_, ?_, ht, ?_, h2.g (fun i hi => (h10 i hi).1) (fun a j g => ?_), h3.g (fun t ht => (h12 t ht).1) (fun a j g => ?_), h4.fr (fun a j g => ?_), h5.fr (fun a j g => ?_), h6.fr (fun a j g => ?_), fun a j g => ?_, h8, h9, h10, h11, h12⟩
    · unfold px_mt
      repeat refine e_s rfl ?_
      rw [e09]
      refine e_c rfl (r_below (d := d)) (by omega) ?_
      rw [ein, hin]
      repeat refine e_s rfl ?_
      rw [e25]
      exact e_r rfl
    · unfold px_mt
      repeat refine e_s rfl ?_
      rw [show px_u I 2 5 (nI t) 31 3 = nI tc from e3]
      refine e_c rfl (r_inI (D := d) (a := 0) (c := nI tc - 1) (by decide) rfl) (by omega) ?_
      rw [hin]
      repeat refine e_s rfl ?_
      rw [show px_u I 2 5 (nI t) 31 4 = nI rl from e4]
      exact e_r rfl
    · obtain ⟨a1, a2, a3, a4, a5, a6, a7, a8, a9, a10, a11⟩ := h1
      exact ⟨a1, a2, a3, a4, a5, rfl, rfl, a8, a9, a10, a11⟩
    · unfold cFt at g
      rw [u_ne (fun e => by omega), u_ne (fun e => by omega)]
    · unfold tFt at g
      rw [u_ne (fun e => by omega), u_ne (fun e => by omega)]
    · unfold pFt at g
      rw [u_ne (fun e => by omega), u_ne (fun e => by omega)]
    · unfold kFt at g
      rw [u_ne (fun e => by omega), u_ne (fun e => by omega)]
    · unfold sFt at g
      rw [u_ne (fun e => by omega), u_ne (fun e => by omega)]
    · rw [u_ne (fun e => by omega), u_ne (fun e => by omega)]
      exact h7 a j g
end PXI3
