/-! feed, on both sides -/
theorem dS_t {L : Nat} {ds : px_HS} : dS L ds = tS L (dS L ds) := by
  funext a
  unfold tS
  cases h : (Nat.ble 9 a && Nat.ble a 14) with
  | true =>
    have h2 := Nat.le_of_ble_eq_true (Bool.and_eq_true_iff.mp h).2
    unfold dS
    rw [show Nat.ble a 48 = true from Nat.ble_eq_true_of_le (by omega)]
    rfl
  | false =>
    cases h2 : Nat.ble 1000000 a with
    | true =>
      have h3 := Nat.le_of_ble_eq_true h2
      unfold dS
      rw [show Nat.ble a 48 = false from Bool.eq_false_iff.mpr (fun z => by have := Nat.le_of_ble_eq_true z; omega), h2]
      rfl
    | false => rfl
theorem dR_t {so : Option Nat} {dr : px_HR} : dR so dr = tR so (dR so dr) := by
  funext a k
  unfold tR
  cases h : (Nat.ble 9 a && Nat.ble a 14) with
  | true =>
    have h2 := Nat.le_of_ble_eq_true (Bool.and_eq_true_iff.mp h).2
    unfold dR
    rw [show Nat.ble a 48 = true from Nat.ble_eq_true_of_le (by omega)]
    show (match RF a k with
      | some r => some r
      | none => dr a k) = match RF a k with
      | some r => some r
      | none => match RF a k with
        | some r => some r
        | none => dr a k
    cases RF a k <;> rfl
  | false =>
    cases h2 : Nat.ble 1000000 a with
    | true =>
      have h3 := Nat.le_of_ble_eq_true h2
      unfold dR
      rw [show Nat.ble a 48 = false from Bool.eq_false_iff.mpr (fun z => by have := Nat.le_of_ble_eq_true z; omega), h2]
      rfl
    | false => rfl
section PXI4
variable {d n q L cc tc rl sg tp : Nat} {so : Option Nat} {dr : px_HR} {ds : px_HS} {I : px_HI} {J : px_HJ} {xs : Nat → Int32} {ca kd nb ta ua wa tz : Nat → Nat} {x : Int32}
theorem r_putD {z : Nat} (h160 : z < 160) (hz : I 10 1 = nI z) : px_mt (d + 1) 13 [.ref 10, .int x] I J (dR so dr) (dS L ds) n q (none, px_u (px_u I 11 z x) 10 1 (nI (z + 1)), J, dR so dr, dS L ds, n, q) := by
  have h := r_put (d := d) (n := n) (q := q) (J := J) (so := so) (r0 := dR so dr) (L := L) (s0 := dS L ds) (x := x) h160 hz
  rw [← dS_t, ← dR_t] at h
  exact h
theorem o_feed (h : Inv xs L so dr ds I n cc tc rl sg tp ca kd nb ta ua wa tz) : ∃ I1 I2 v tp', px_mt (d + 2) 79 [.ref 0, .int x] I J (dR so dr) (dS L ds) n q (some (.int v), I1, J, dR so dr, dS L ds, n, q) ∧ px_mt (d + 2) 153 [.ref 31, .int x] I1 J (dR so dr) (dS L ds) n q (some (.int v), I2, J, dR so dr, dS L ds, n, q) ∧ Inv xs L so dr ds I2 n cc tc rl sg tp' ca kd nb ta ua wa tz := by
  have hh := h
  obtain ⟨h0, h1, h2, h3, h4, h5, h6, h7, h8, h9, h10, h11, h12⟩ := h
  have e10 : I 10 1 = nI tp := h4.1
  have e6 : I 31 6 = nI tp := h4.2.1
  have t160 := h4.2.2.1
  have ein : decide (0 ≤ x ∧ x < 256) = inI 0 255 x := in_lt 255 (by decide) (by decide)
  cases hin : inI 0 255 x with
  | false =>
    refine ⟨I, I, -2, tp, ?_, ?_, hh⟩
    · unfold px_mt
      repeat refine e_s rfl ?_
      refine e_c rfl (r_below (d := d)) (by omega) ?_
      rw [ein, hin]
      repeat refine e_s rfl ?_
      exact e_r rfl
    · unfold px_mt
      repeat refine e_s rfl ?_
      refine e_c rfl (r_inI (D := d) (a := 0) (c := 255) (by decide) (by decide)) (by omega) ?_
      rw [hin]
      repeat refine e_s rfl ?_
      exact e_r rfl
  | true =>
    have hx := of_decide_eq_true hin
    by_cases hs : tp = 160
    · refine ⟨I, I, -4, tp, ?_, ?_, hh⟩
      · unfold px_mt
        repeat refine e_s rfl ?_
        refine e_c rfl (r_below (d := d)) (by omega) ?_
        rw [ein, hin]
        repeat refine e_s rfl ?_
        rw [e10]
        refine e_bf (nI_nlt (b := 160) (by omega) (by omega)) ?_
        refine e_s rfl ?_
        exact e_r rfl
      · unfold px_mt
        repeat refine e_s rfl ?_
        refine e_c rfl (r_inI (D := d) (a := 0) (c := 255) (by decide) (by decide)) (by omega) ?_
        rw [hin]
        repeat refine e_s rfl ?_
        rw [e6]
        refine e_bf (fun g => g (by rw [hs]; rfl)) ?_
        refine e_s rfl ?_
        exact e_r rfl
    · have hs6 : tp < 160 := by omega
      refine ⟨px_u (px_u I 11 tp x) 10 1 (nI (tp + 1)), px_u (px_u (px_u (px_u I 11 tp x) 10 1 (nI (tp + 1))) 34 tp x) 31 6 (nI (tp + 1)), nI (tp + 1), tp + 1, ?_, ?_, h0, h1.fr (fun a j g => ?_), h2.g (fun i hi => (h10 i hi).1) (fun a j g => ?_), h3.g (fun t ht => (h12 t ht).1) (fun a j g => ?_), ?_, h5.fr (fun a j g => ?_), h6.fr (fun a j g => ?_), fun a j g => ?_, h8, h9, h10, h11, h12⟩
      · unfold px_mt
        repeat refine e_s rfl ?_
        refine e_c rfl (r_below (d := d)) (by omega) ?_
        rw [ein, hin]
        repeat refine e_s rfl ?_
        rw [e10]
        refine e_bt (nI_lt (b := 160) hs6 (by decide)) ?_
        repeat refine e_s rfl ?_
        refine e_c rfl (r_putD (d := d) hs6 e10) (by omega) ?_
        repeat refine e_s rfl ?_
        exact e_r rfl
      · unfold px_mt
        repeat refine e_s rfl ?_
        refine e_c rfl (r_inI (D := d) (a := 0) (c := 255) (by decide) (by decide)) (by omega) ?_
        rw [hin]
        repeat refine e_s rfl ?_
        rw [show px_u (px_u I 11 tp x) 10 1 (nI (tp + 1)) 31 6 = nI tp from e6]
        refine e_bt (fun g => hs ((nI_eq (b := 160) (by omega) (by omega)).mp g)) ?_
        repeat refine e_s rfl ?_
        rw [show px_u (px_u I 11 tp x) 10 1 (nI (tp + 1)) 31 6 = nI tp from e6]
        refine e_is rfl rfl rfl hs6 (by decide) ?_
        repeat refine e_s rfl ?_
        rw [show px_u (px_u (px_u I 11 tp x) 10 1 (nI (tp + 1))) 34 tp x 31 6 = nI tp from e6, nI_1]
        exact e_r rfl
      · unfold hFt at g
        rw [u_ne (fun e => by omega), u_ne (fun e => by omega), u_ne (fun e => by omega), u_ne (fun e => by omega)]
      · unfold cFt at g
        rw [u_ne (fun e => by omega), u_ne (fun e => by omega), u_ne (fun e => by omega), u_ne (fun e => by omega)]
      · unfold tFt at g
        rw [u_ne (fun e => by omega), u_ne (fun e => by omega), u_ne (fun e => by omega), u_ne (fun e => by omega)]
      · refine ⟨rfl, rfl, by omega, fun j hj => ?_⟩
        show px_u I 11 tp x 11 j = px_u (px_u (px_u I 11 tp x) 10 1 (nI (tp + 1))) 34 tp x 34 j ∧ 0 ≤ px_u (px_u (px_u I 11 tp x) 10 1 (nI (tp + 1))) 34 tp x 34 j
        by_cases e : j = tp
        · subst e
          rw [u_eq, u_eq]
          exact ⟨rfl, hx.1⟩
        · rw [u_ne (fun _ => e), u_ne (fun _ => e)]
          exact h4.2.2.2 j (by omega)
      · unfold kFt at g
        rw [u_ne (fun e => by omega), u_ne (fun e => by omega), u_ne (fun e => by omega), u_ne (fun e => by omega)]
      · unfold sFt at g
        rw [u_ne (fun e => by omega), u_ne (fun e => by omega), u_ne (fun e => by omega), u_ne (fun e => by omega)]
      · rw [u_ne (fun e => by omega), u_ne (fun e => by omega), u_ne (fun e => by omega), u_ne (fun e => by omega)]
        exact h7 a j g
end PXI4
