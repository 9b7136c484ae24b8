/-! peep, on both sides: by one sign more, and the call as a whole -/
section PXPD
variable {d D n q L cc tc rl sg tp c k s m : Nat} {so : Option Nat} {dr R : px_HR} {ds S : px_HS} {I I' I0 : px_HI} {J : px_HJ} {xs : Nat → Int32} {ca kd nb ta ua wa tz : Nat → Nat} {x y z v w one : Int32} {W : Nat → Int64} {N : Nat → Nat} {X : Nat → Int32} {r : Option Value × px_G} {sn : Nat → Nat → Nat}
theorem o_peep1 (h : Inv xs L so dr ds I n cc tc rl sg tp ca kd nb ta ua wa tz) : ∃ I1 J1 I2 J2 v, px_mt (D + 84) 103 [.ref 0, .int 1, .int y] I J (dR so dr) (dS L ds) n q (some (.long v), I1, J1, dR so dr, dS L ds, n, q) ∧ px_mt (D + 84) 213 [.ref 31, .int 1, .int y] I1 J1 (dR so dr) (dS L ds) n q (some (.long v), I2, J2, dR so dr, dS L ds, n, q) ∧ Inv xs L so dr ds I2 n cc tc rl sg tp ca kd nb ta ua wa tz := by
  have c7 := h.2.2.1.1
  have a8 := h.2.1.2.2.2.2.2.2.2.1
  have a9 := h.2.1.2.2.2.2.2.2.2.2.1
  have a10 := h.2.1.2.2.2.2.2.2.2.2.2.1
  by_cases hs : sg = 6
  · refine ⟨I, J, I, J, NOl, ?_, ?_, h⟩
    · unfold px_mt
      repeat refine e_s rfl ?_
      rw [a8, hs]
      repeat refine e_s rfl ?_
      exact e_r rfl
    · unfold px_mt
      repeat refine e_s rfl ?_
      refine e_c rfl (r_inI (D := 0) (a := 0) (c := 1) (by decide) (by decide)) (by omega) ?_
      repeat refine e_s rfl ?_
      refine e_c rfl (r_inI (D := 0) (a := 0) (c := 1) (by decide) (by decide)) (by omega) ?_
      cases hy : inI 0 1 y with
      | false =>
        repeat refine e_s rfl ?_
        exact e_r rfl
      | true =>
        repeat refine e_s rfl ?_
        rw [a9, hs]
        repeat refine e_s rfl ?_
        exact e_r rfl
  have s6 : sg < 6 := by omega
  obtain ⟨I1, J1, k1, k2, k3, k4, k5, k6⟩ := q_now (d := 0) (q := q) (J := J) h
  have h' := h.keep k2
  have hB : ∀ t, t < cc → nW I tz kd nb rl sg t ≤ 11379234375 := fun t ht => (nW_ok h ht).2
  have hZ : ∀ t, t < cc → -99 ≤ (mX I tz kd rl sg t).toInt ∧ (mX I tz kd rl sg t).toInt ≤ 99 := fun t _ => gX_z
  have hsn : ∀ g, g < 4 → ∀ t, t < cc → snd (kd t) (nI (nb t)) (nI g) (nI sg) = nI (snS kd nb sg g t) ∧ snS kd nb sg g t ≤ 15 := fun g _ t ht => snS_ok h ht
  have hbg : ∀ g, g < 4 → bgS (nW I tz kd nb rl sg) (snS kd nb sg) cc g ≤ 7 * 170688515625 := fun g hg => by
    have h1 := smN_le (N := fun t => nW I tz kd nb rl sg t * snS kd nb sg g t) (B := 170688515625) cc 0 (fun t ht => by
      have := Nat.mul_le_mul (hB t (by omega)) (hsn g hg t (by omega)).2
      show nW I tz kd nb rl sg t * snS kd nb sg g t ≤ 170688515625
      omega)
    have h2 : cc * 170688515625 ≤ 7 * 170688515625 := Nat.mul_le_mul_right _ c7
    exact Nat.le_trans h1 h2
  have hbn : smN (bgS (nW I tz kd nb rl sg) (snS kd nb sg) cc) 4 0 < 2 ^ 63 := by
    have h1 := smN_le (N := bgS (nW I tz kd nb rl sg) (snS kd nb sg) cc) 4 0 (fun t ht => hbg t (by omega))
    exact Nat.lt_of_le_of_lt h1 (by decide)
  have hA := szS_b (f := sgS (nW I tz kd nb rl sg) (mX I tz kd rl sg) (snS kd nb sg) cc) (B := 118287141328125) (by omega) 4 0 0 (fun g hg => sgS_b c7 hB hZ (fun t ht => (hsn g (by omega) t ht).2))
  have hG := szS_b (f := fun g => mx0 (sgS (nW I tz kd nb rl sg) (mX I tz kd rl sg) (snS kd nb sg) cc g)) (B := 118287141328125) (by omega) 4 0 0 (fun g hg => by
    have h1 := sgS_b c7 hB hZ (fun t ht => (hsn g (by omega) t ht).2)
    show -118287141328125 ≤ mx0 (sgS (nW I tz kd nb rl sg) (mX I tz kd rl sg) (snS kd nb sg) cc g) ∧ mx0 (sgS (nW I tz kd nb rl sg) (mX I tz kd rl sg) (snS kd nb sg) cc g) ≤ 118287141328125
    unfold mx0
    by_cases g' : sgS (nW I tz kd nb rl sg) (mX I tz kd rl sg) (snS kd nb sg) cc g < 0
    · rw [if_pos g']
      omega
    · rw [if_neg g']
      omega)
  have hle := szS_le (f := sgS (nW I tz kd nb rl sg) (mX I tz kd rl sg) (snS kd nb sg) cc) (g := fun g => mx0 (sgS (nW I tz kd nb rl sg) (mX I tz kd rl sg) (snS kd nb sg) cc g)) 4 0 0 0 (by omega) (fun t _ => mx0_le.1)
  have h0G := szS_0 (f := fun g => mx0 (sgS (nW I tz kd nb rl sg) (mX I tz kd rl sg) (snS kd nb sg) cc g)) 4 0 0 (by omega) (fun t _ => mx0_le.2)
  generalize hGe : szS (fun g => mx0 (sgS (nW I tz kd nb rl sg) (mX I tz kd rl sg) (snS kd nb sg) cc g)) 4 0 0 = G at hG hle h0G
  generalize hAe : szS (sgS (nW I tz kd nb rl sg) (mX I tz kd rl sg) (snS kd nb sg) cc) 4 0 0 = A at hA hle
  generalize hbe : smN (bgS (nW I tz kd nb rl sg) (snS kd nb sg) cc) 4 0 = b at hbn
  have hmx : mx0 A ≤ G := by
    unfold mx0
    by_cases g : A < 0
    · rw [if_pos g]
      omega
    · rw [if_neg g]
      omega
  have hm := mx0_le (a := A)
  have cls : px_mt (D + 84) 103 [.ref 0, .int 1, .int y] I J (dR so dr) (dS L ds) n q (some (.long (lowS (G - mx0 A).toNat b y)), I1, J1, dR so dr, dS L ds, n, q) := by
    unfold px_mt
    repeat refine e_s rfl ?_
    rw [a8]
    refine e_bt (nI_lt (b := 6) s6 (by decide)) ?_
    repeat refine e_s rfl ?_
    refine e_c rfl k1 (by omega) ?_
    repeat refine e_s rfl ?_
    refine e_c rfl (k := 105) (d' := 5) (v := some (.long (lowS (G - mx0 A).toNat b y))) (I1 := I1) (J1 := J1) (R1 := dR so dr) (S1 := dS L ds) (n1 := n) (q1 := q) ?_ (by omega) ?_
    · unfold px_mt
      iterate 8 refine e_s rfl ?_
      refine w_lsO (d := 0) h'.2.2.1 h'.2.1.2.2.2.2.2.2.2.1 a10 (fun t ht => (k3 t ht).trans (nW_ok h ht).1) k4 hB hZ hsn 4 0 0 0 0 none none none none (by omega) (fun x9 x11 x12 x13 => ?_)
      rw [hGe, hAe, hbe, show 0 + b = b from Nat.zero_add b]
      refine e_s rfl ?_
      refine e_s rfl ?_
      refine e_s rfl ?_
      refine e_s rfl ?_
      rw [lz_mx (by omega) (by omega)]
      refine e_s rfl ?_
      rw [lz_sub, show lz (G - mx0 A) = lN (G - mx0 A).toNat from lz_nn (by omega)]
      refine e_s rfl ?_
      refine e_s rfl ?_
      refine e_c rfl (r_low (d := 0) (by omega) hbn) (by omega) ?_
      exact e_r rfl
    · exact e_r rfl
  cases hy : inI 0 1 y with
  | false =>
    rw [lowS_o hy] at cls
    refine ⟨I1, J1, I1, J1, NOl, cls, ?_, h'⟩
    unfold px_mt
    repeat refine e_s rfl ?_
    refine e_c rfl (r_inI (D := 0) (a := 0) (c := 1) (by decide) (by decide)) (by omega) ?_
    repeat refine e_s rfl ?_
    refine e_c rfl (r_inI (D := 0) (a := 0) (c := 1) (by decide) (by decide)) (by omega) ?_
    rw [hy]
    repeat refine e_s rfl ?_
    exact e_r rfl
  | true =>
    obtain ⟨I2, J2, m1, m2, m3, m4, m5⟩ := q_gath (D := D) (q := q) (J := J1) h'
    obtain ⟨ew, ex, _⟩ := mW_k h k2
    rw [ew] at m3
    rw [ex] at m4
    have h'' := h'.keep m2
    refine ⟨I1, J1, I2, J2, _, cls, ?_, h''⟩
    unfold px_mt
    repeat refine e_s rfl ?_
    refine e_c rfl (r_inI (D := 0) (a := 0) (c := 1) (by decide) (by decide)) (by omega) ?_
    repeat refine e_s rfl ?_
    refine e_c rfl (r_inI (D := 0) (a := 0) (c := 1) (by decide) (by decide)) (by omega) ?_
    rw [hy]
    repeat refine e_s rfl ?_
    rw [h'.2.1.2.2.2.2.2.2.2.2.1]
    refine e_bt (fun g => hs ((nI_eq (b := 6) (by omega) (by decide)).mp g)) ?_
    repeat refine e_s rfl ?_
    refine e_c rfl m1 (by omega) ?_
    iterate 8 refine e_s rfl ?_
    refine w_psO (d := D + 82) (N := nW I tz kd nb rl sg) (X := mX I tz kd rl sg) (sn := snS kd nb sg) h''.2.2.1 h''.2.1.2.2.2.2.2.2.2.2.1 (fun t ht => (m3 t ht).trans (nW_ok h ht).1) m4 hB hZ hsn 4 0 0 0 0 none none none (by omega) (fun x10 x12 x13 => ?_)
    rw [hGe, hAe, hbe, show 0 + b = b from Nat.zero_add b]
    exact w_pe (d := D + 82) hmx (by omega) (by omega) (by omega) hbn (in01 hy)
theorem o_peep (h : Inv xs L so dr ds I n cc tc rl sg tp ca kd nb ta ua wa tz) : ∃ I1 J1 I2 J2 v, px_mt (D + 84) 103 [.ref 0, .int x, .int y] I J (dR so dr) (dS L ds) n q (some (.long v), I1, J1, dR so dr, dS L ds, n, q) ∧ px_mt (D + 84) 213 [.ref 31, .int x, .int y] I1 J1 (dR so dr) (dS L ds) n q (some (.long v), I2, J2, dR so dr, dS L ds, n, q) ∧ Inv xs L so dr ds I2 n cc tc rl sg tp ca kd nb ta ua wa tz := by
  cases hx : inI 0 1 x with
  | true =>
    rcases in01 hx with e | e
    · rw [e]
      exact o_peep0 h
    · rw [e]
      exact o_peep1 h
  | false =>
    refine ⟨I, J, I, J, NOl, ?_, ?_, h⟩
    · unfold px_mt
      repeat refine e_s rfl ?_
      refine e_b (fun g => ?_) (fun g1 => ?_)
      · repeat refine e_s rfl ?_
        exact e_r rfl
      repeat refine e_s rfl ?_
      refine e_bt (Int32.not_le.mp (fun g2 => ?_)) ?_
      · rw [show inI 0 1 x = true from decide_eq_true ⟨Int32.not_lt.mp g1, g2⟩] at hx
        cases hx
      repeat refine e_s rfl ?_
      exact e_r rfl
    · unfold px_mt
      repeat refine e_s rfl ?_
      refine e_c rfl (r_inI (D := 0) (a := 0) (c := 1) (by decide) (by decide)) (by omega) ?_
      rw [hx]
      repeat refine e_s rfl ?_
      exact e_r rfl
end PXPD
