/-! hear, on both sides -/
theorem in_lt {x : Int32} {a b : Int32} (k : Int) (ha : a.toInt = k + 1) (hb : b.toInt = k) : decide (0 ≤ x ∧ x < a) = inI 0 b x := by
  unfold inI
  refine decide_eq_decide.mpr (and_congr Iff.rfl ?_)
  rw [Int32.lt_iff_toInt_lt, Int32.le_iff_toInt_le, ha, hb]
  omega
section PXI2
variable {d n q L cc tc rl sg tp : Nat} {so : Option Nat} {dr : px_HR} {ds : px_HS} {I : px_HI} {J : px_HJ} {xs : Nat → Int32} {ca kd nb ta ua wa tz : Nat → Nat} {x : Int32}
theorem o_hear (h : Inv xs L so dr ds I n cc tc rl sg tp ca kd nb ta ua wa tz) : ∃ I1 I2 v sg', px_mt (d + 2) 57 [.ref 0, .int x] I J (dR so dr) (dS L ds) n q (some (.int v), I1, J, dR so dr, dS L ds, n, q) ∧ px_mt (d + 2) 147 [.ref 31, .int x] I1 J (dR so dr) (dS L ds) n q (some (.int v), I2, J, dR so dr, dS L ds, n, q) ∧ Inv xs L so dr ds I2 n cc tc rl sg' tp ca kd nb ta ua wa tz := by
  have hh := h
  obtain ⟨h0, h1, h2, h3, h4, h5, h6, h7, h8, h9, h10, h11, h12⟩ := h
  have e26 : I 2 6 = nI sg := h1.2.2.2.2.2.2.2.1
  have e16 : I 31 16 = nI sg := h1.2.2.2.2.2.2.2.2.1
  have s6 := h1.2.2.2.2.2.2.2.2.2.1
  have ein : decide (0 ≤ x ∧ x < 4) = inI 0 3 x := in_lt 3 (by decide) (by decide)
  cases hin : inI 0 3 x with
  | false =>
    refine ⟨I, I, -2, sg, ?_, ?_, hh⟩
    · unfold px_mt
      repeat refine e_s rfl ?_
      refine e_c rfl (r_below (d := d)) (by omega) ?_
      rw [ein, hin]
      repeat refine e_s rfl ?_
      exact e_r rfl
    · unfold px_mt
      repeat refine e_s rfl ?_
      refine e_c rfl (r_inI (D := d) (a := 0) (c := 3) (by decide) (by decide)) (by omega) ?_
      rw [hin]
      repeat refine e_s rfl ?_
      exact e_r rfl
  | true =>
    by_cases hs : sg = 6
    · refine ⟨I, I, -4, sg, ?_, ?_, hh⟩
      · unfold px_mt
        repeat refine e_s rfl ?_
        refine e_c rfl (r_below (d := d)) (by omega) ?_
        rw [ein, hin]
        repeat refine e_s rfl ?_
        rw [e26]
        refine e_bf (nI_nlt (b := 6) (by omega) (by omega)) ?_
        refine e_s rfl ?_
        exact e_r rfl
      · unfold px_mt
        repeat refine e_s rfl ?_
        refine e_c rfl (r_inI (D := d) (a := 0) (c := 3) (by decide) (by decide)) (by omega) ?_
        rw [hin]
        repeat refine e_s rfl ?_
        rw [e16]
        refine e_bf (fun g => g (by rw [hs]; rfl)) ?_
        refine e_s rfl ?_
        exact e_r rfl
    · have hs6 : sg < 6 := by omega
      refine ⟨px_u (px_u I 3 sg x) 2 6 (nI (sg + 1)), px_u (px_u (px_u (px_u I 3 sg x) 2 6 (nI (sg + 1))) 37 sg x) 31 16 (nI (sg + 1)), nI (sg + 1), sg + 1, ?_, ?_, h0, ?_, h2.g (fun i hi => (h10 i hi).1) (fun a j g => ?_), h3.g (fun t ht => (h12 t ht).1) (fun a j g => ?_), h4.fr (fun a j g => ?_), h5.fr (fun a j g => ?_), h6.fr (fun a j g => ?_), fun a j g => ?_, h8, h9, h10, h11, h12⟩
      · unfold px_mt
        repeat refine e_s rfl ?_
        refine e_c rfl (r_below (d := d)) (by omega) ?_
        rw [ein, hin]
        repeat refine e_s rfl ?_
        rw [e26]
        refine e_bt (nI_lt (b := 6) hs6 (by decide)) ?_
        repeat refine e_s rfl ?_
        refine e_c rfl (r_sadd_2 (d := d) e26 hs6) (by omega) ?_
        repeat refine e_s rfl ?_
        exact e_r rfl
      · unfold px_mt
        repeat refine e_s rfl ?_
        refine e_c rfl (r_inI (D := d) (a := 0) (c := 3) (by decide) (by decide)) (by omega) ?_
        rw [hin]
        repeat refine e_s rfl ?_
        rw [show px_u (px_u I 3 sg x) 2 6 (nI (sg + 1)) 31 16 = nI sg from e16]
        refine e_bt (fun g => hs ((nI_eq (b := 6) (by omega) (by omega)).mp g)) ?_
        repeat refine e_s rfl ?_
        rw [show px_u (px_u I 3 sg x) 2 6 (nI (sg + 1)) 31 16 = nI sg from e16]
        refine e_is rfl rfl rfl hs6 (by decide) ?_
        repeat refine e_s rfl ?_
        rw [show px_u (px_u (px_u I 3 sg x) 2 6 (nI (sg + 1))) 37 sg x 31 16 = nI sg from e16, nI_1]
        exact e_r rfl
      · obtain ⟨a1, a2, a3, a4, a5, a6, a7, a8, a9, a10, a11⟩ := h1
        refine ⟨a1, a2, a3, a4, a5, a6, a7, rfl, rfl, by omega, fun j hj => ?_⟩
        show px_u I 3 sg x 3 j = px_u (px_u (px_u I 3 sg x) 2 6 (nI (sg + 1))) 37 sg x 37 j
        by_cases e : j = sg
        · subst e
          rw [u_eq, u_eq]
        · rw [u_ne (fun _ => e), u_ne (fun _ => e)]
          exact a11 j hj
      · unfold cFt at g
        rw [u_ne (fun e => by omega), u_ne (fun e => by omega), u_ne (fun e => by omega), u_ne (fun e => by omega)]
      · unfold tFt at g
        rw [u_ne (fun e => by omega), u_ne (fun e => by omega), u_ne (fun e => by omega), u_ne (fun e => by omega)]
      · unfold pFt at g
        rw [u_ne (fun e => by omega), u_ne (fun e => by omega), u_ne (fun e => by omega), u_ne (fun e => by omega)]
      · unfold kFt at g
        rw [u_ne (fun e => by omega), u_ne (fun e => by omega), u_ne (fun e => by omega), u_ne (fun e => by omega)]
      · unfold sFt at g
        rw [u_ne (fun e => by omega), u_ne (fun e => by omega), u_ne (fun e => by omega), u_ne (fun e => by omega)]
      · rw [u_ne (fun e => by omega), u_ne (fun e => by omega), u_ne (fun e => by omega), u_ne (fun e => by omega)]
        exact h7 a j g
end PXI2
