/-! peep, on both sides: the call -/
section PXPC
variable {d D n q L cc tc rl sg tp c k s m : Nat} {so : Option Nat} {dr R : px_HR} {ds S : px_HS} {I I' I0 : px_HI} {J : px_HJ} {xs : Nat → Int32} {ca kd nb ta ua wa tz : Nat → Nat} {x y z v w one : Int32} {W : Nat → Int64} {N : Nat → Nat} {X : Nat → Int32} {r : Option Value × px_G} {sn : Nat → Nat → Nat}
/-- the end of the model's peep -/
theorem w_pe {G A : Int} {b : Nat} {x1 : Int32} {x9 x10 x12 x13 : Option Value} (hG : mx0 A ≤ G) (a1 : -9223372036854775808 ≤ A) (a2 : A < 9223372036854775808) (g2 : G < 9223372036854775808) (hb : b < 2 ^ 63) (hy : y = 0 ∨ y = 1) : px_ev (d + 2) 213 208 [some (.ref 31), some (.int x1), some (.int y), some (.long (lz G)), none, some (.long (lz A)), none, some (.long (lN b)), none, x9, x10, none, x12, x13, none] [] I J (dR so dr) (dS L ds) n q (some (.long (lowS (G - mx0 A).toNat b y)), I, J, dR so dr, dS L ds, n, q) := by
  have hm := mx0_le (a := A)
  have hlow : ∀ z : Int64, z = lz (mx0 A) → ¬ b = 0 → px_ev (d + 2) 213 235 [some (.ref 31), some (.int x1), some (.int y), some (.long (lz G)), none, some (.long (lz A)), none, some (.long (lN b)), none, x9, x10, none, x12, x13, none] [.long z, .long (lz G)] I J (dR so dr) (dS L ds) n q (some (.long (lowS (G - mx0 A).toNat b y)), I, J, dR so dr, dS L ds, n, q) := by
    intro z hz b0
    refine e_s rfl ?_
    rw [hz, lz_sub, show lz (G - mx0 A) = lN (G - mx0 A).toNat from lz_nn (by omega)]
    repeat refine e_s rfl ?_
    refine e_c rfl (r_lowM (d := d) (by omega) hb b0 hy) (by omega) ?_
    exact e_r rfl
  refine e_s rfl ?_
  refine e_s rfl ?_
  refine e_s rfl ?_
  refine e_s rfl ?_
  by_cases b0 : b = 0
  · rw [b0]
    repeat refine e_s rfl ?_
    exact e_r rfl
  · refine e_bt (fun g => b0 ((lN_0 hb).mp ((lg_cmp_eq _ _).mp g))) ?_
    refine e_s rfl ?_
    refine e_s rfl ?_
    refine e_s rfl ?_
    refine e_s rfl ?_
    refine e_s rfl ?_
    have hlt : (lz 0 < lz A) ↔ 0 < A := lz_lt (by omega) (by omega) a1 a2
    by_cases hp : 0 < A
    · refine e_bf (fun g => lg_le_not_lt ((lg_cmp_le _ _).mp g) (hlt.mpr hp)) ?_
      refine e_s rfl ?_
      refine e_s rfl ?_
      refine hlow _ ?_ b0
      unfold mx0
      rw [if_neg (by omega)]
    · refine e_bt ((lg_cmp_le _ _).mpr (Int64.not_lt.mp (fun g => hp (hlt.mp g)))) ?_
      refine e_s rfl ?_
      refine hlow _ ?_ b0
      unfold mx0
      by_cases g : A < 0
      · rw [if_pos g]
        rfl
      · rw [if_neg g, show A = 0 by omega]
        rfl
/-- the weights as they are, as whole numbers -/
def nW (I : px_HI) (tz kd nb : Nat → Nat) (rl sg t : Nat) : Nat := (mW I tz kd nb rl sg t).toInt.toNat
theorem nW_ok (h : Inv xs L so dr ds I n cc tc rl sg tp ca kd nb ta ua wa tz) {t : Nat} (ht : t < cc) : mW I tz kd nb rl sg t = lN (nW I tz kd nb rl sg t) ∧ nW I tz kd nb rl sg t ≤ 11379234375 := by
  obtain ⟨u, hu, e⟩ := gW_n (I := I) (tz := tz) (kd := kd) (nb := nb) (h := I 31 7) (d := I 31 8) (hm := I 31 9) (dg := I 31 10) (nt := I 31 11) (rl := rl) (sg := sg) (i := t) (f := I 37) (h.2.2.1.2.2.2 t ht).2.2.2.1 h.2.1.2.2.2.2.2.2.2.2.2.1
  have e1 : mW I tz kd nb rl sg t = lN u := e
  unfold nW
  rw [e1, lN_t (by omega), Int.toNat_natCast]
  exact ⟨rfl, hu⟩
def snS (kd nb : Nat → Nat) (sg g t : Nat) : Nat := (snd (kd t) (nI (nb t)) (nI g) (nI sg)).toNatClampNeg
theorem snS_ok (h : Inv xs L so dr ds I n cc tc rl sg tp ca kd nb ta ua wa tz) {g t : Nat} (ht : t < cc) : snd (kd t) (nI (nb t)) (nI g) (nI sg) = nI (snS kd nb sg g t) ∧ snS kd nb sg g t ≤ 15 := by
  obtain ⟨u, hu, e⟩ := snd_15 (kd := kd t) (nb := nb t) (i := sg) (g := nI g) (h.2.2.1.2.2.2 t ht).2.2.2.1 h.2.1.2.2.2.2.2.2.2.2.2.1
  unfold snS
  rw [e, nI_clamp (by omega)]
  exact ⟨rfl, hu⟩
theorem o_peep0 (h : Inv xs L so dr ds I n cc tc rl sg tp ca kd nb ta ua wa tz) : ∃ I1 J1 I2 J2 v, px_mt (D + 84) 103 [.ref 0, .int 0, .int y] I J (dR so dr) (dS L ds) n q (some (.long v), I1, J1, dR so dr, dS L ds, n, q) ∧ px_mt (D + 84) 213 [.ref 31, .int 0, .int y] I1 J1 (dR so dr) (dS L ds) n q (some (.long v), I2, J2, dR so dr, dS L ds, n, q) ∧ Inv xs L so dr ds I2 n cc tc rl sg tp ca kd nb ta ua wa tz := by
  have c7 := h.2.2.1.1
  obtain ⟨I1, J1, k1, k2, k3, k4, k5, k6⟩ := q_now (d := 0) (q := q) (J := J) h
  have h' := h.keep k2
  have hB : ∀ t, t < cc → nW I tz kd nb rl sg t ≤ 11379234375 := fun t ht => (nW_ok h ht).2
  have hZ : ∀ t, t < cc → -99 ≤ (mX I tz kd rl sg t).toInt ∧ (mX I tz kd rl sg t).toInt ≤ 99 := fun t _ => gX_z
  have hbn : smN (nW I tz kd nb rl sg) cc 0 < 2 ^ 63 := by
    have h1 := smN_le cc 0 (fun t ht => hB t (by omega))
    have h2 : cc * 11379234375 ≤ 7 * 11379234375 := Nat.mul_le_mul_right _ c7
    omega
  have eA : J1 0 13 = lN (smN (nW I tz kd nb rl sg) cc 0) := k5.trans (gA_sm cc (fun t ht => (nW_ok h ht).1))
  have hA := szS_b (f := fun t => nW I tz kd nb rl sg t * (mX I tz kd rl sg t).toInt) (B := 1126544203125) (by omega) cc 0 0 (fun t ht => by
    have := mul_b (hB t (by omega)) (hZ t (by omega)).1 (hZ t (by omega)).2
    show -1126544203125 ≤ (nW I tz kd nb rl sg t : Int) * (mX I tz kd rl sg t).toInt ∧ (nW I tz kd nb rl sg t : Int) * (mX I tz kd rl sg t).toInt ≤ 1126544203125
    omega)
  have hG := szS_b (f := fun t => mx0 (nW I tz kd nb rl sg t * (mX I tz kd rl sg t).toInt)) (B := 1126544203125) (by omega) cc 0 0 (fun t ht => by
    have h1 := mul_b (hB t (by omega)) (hZ t (by omega)).1 (hZ t (by omega)).2
    show -1126544203125 ≤ mx0 ((nW I tz kd nb rl sg t : Int) * (mX I tz kd rl sg t).toInt) ∧ mx0 ((nW I tz kd nb rl sg t : Int) * (mX I tz kd rl sg t).toInt) ≤ 1126544203125
    unfold mx0
    by_cases g : (nW I tz kd nb rl sg t : Int) * (mX I tz kd rl sg t).toInt < 0
    · rw [if_pos g]
      omega
    · rw [if_neg g]
      omega)
  have hle := szS_le (f := fun t => nW I tz kd nb rl sg t * (mX I tz kd rl sg t).toInt) (g := fun t => mx0 (nW I tz kd nb rl sg t * (mX I tz kd rl sg t).toInt)) cc 0 0 0 (by omega) (fun t _ => mx0_le.1)
  have h0G := szS_0 (f := fun t => mx0 (nW I tz kd nb rl sg t * (mX I tz kd rl sg t).toInt)) cc 0 0 (by omega) (fun t _ => mx0_le.2)
  generalize hGe : szS (fun t => mx0 (nW I tz kd nb rl sg t * (mX I tz kd rl sg t).toInt)) cc 0 0 = G at hG hle h0G
  generalize hAe : szS (fun t => nW I tz kd nb rl sg t * (mX I tz kd rl sg t).toInt) cc 0 0 = A at hA hle
  have hmx : mx0 A ≤ G := by
    unfold mx0
    by_cases g : A < 0
    · rw [if_pos g]
      omega
    · rw [if_neg g]
      omega
  have hm := mx0_le (a := A)
  have cls : px_mt (D + 84) 103 [.ref 0, .int 0, .int y] I J (dR so dr) (dS L ds) n q (some (.long (lowS (G - mx0 A).toNat (smN (nW I tz kd nb rl sg) cc 0) y)), I1, J1, dR so dr, dS L ds, n, q) := by
    unfold px_mt
    repeat refine e_s rfl ?_
    refine e_c rfl k1 (by omega) ?_
    repeat refine e_s rfl ?_
    refine e_c rfl (k := 104) (d' := 3) (v := some (.long (lowS (G - mx0 A).toNat (smN (nW I tz kd nb rl sg) cc 0) y))) (I1 := I1) (J1 := J1) (R1 := dR so dr) (S1 := dS L ds) (n1 := n) (q1 := q) ?_ (by omega) ?_
    · unfold px_mt
      refine e_s rfl ?_
      refine e_s rfl ?_
      refine e_s rfl ?_
      refine e_s rfl ?_
      refine e_s rfl ?_
      refine e_s rfl ?_
      refine w_ppC (d := 2) h'.2.2.1.2.1 c7 (fun t ht => (k3 t ht).trans (nW_ok h ht).1) k4 hB hZ cc 0 0 0 none (by omega) (fun x7 => ?_)
      rw [hGe, hAe]
      refine e_s rfl ?_
      refine e_s rfl ?_
      refine e_s rfl ?_
      refine e_s rfl ?_
      rw [lz_mx (by omega) (by omega)]
      refine e_s rfl ?_
      rw [lz_sub, show lz (G - mx0 A) = lN (G - mx0 A).toNat from lz_nn (by omega)]
      refine e_s rfl ?_
      refine e_s rfl ?_
      rw [eA]
      refine e_s rfl ?_
      refine e_c rfl (r_low (d := 0) (by omega) hbn) (by omega) ?_
      exact e_r rfl
    · repeat refine e_s rfl ?_
      exact e_r rfl
  cases hy : inI 0 1 y with
  | false =>
    rw [lowS_o hy] at cls
    refine ⟨I1, J1, I1, J1, NOl, cls, ?_, h'⟩
    unfold px_mt
    repeat refine e_s rfl ?_
    refine e_c rfl (r_inI (D := 0) (a := 0) (c := 1) (by decide) (by decide)) (by omega) ?_
    repeat refine e_s rfl ?_
    refine e_c rfl (r_inI (D := 0) (a := 0) (c := 1) (by decide) (by decide)) (by omega) ?_
    rw [hy]
    repeat refine e_s rfl ?_
    exact e_r rfl
  | true =>
    obtain ⟨I2, J2, m1, m2, m3, m4, m5⟩ := q_gath (D := D) (q := q) (J := J1) h'
    obtain ⟨ew, ex, _⟩ := mW_k h k2
    rw [ew] at m3
    rw [ex] at m4
    have h'' := h'.keep m2
    refine ⟨I1, J1, I2, J2, _, cls, ?_, h''⟩
    unfold px_mt
    repeat refine e_s rfl ?_
    refine e_c rfl (r_inI (D := 0) (a := 0) (c := 1) (by decide) (by decide)) (by omega) ?_
    repeat refine e_s rfl ?_
    refine e_c rfl (r_inI (D := 0) (a := 0) (c := 1) (by decide) (by decide)) (by omega) ?_
    rw [hy]
    repeat refine e_s rfl ?_
    refine e_c rfl m1 (by omega) ?_
    iterate 8 refine e_s rfl ?_
    iterate 6 refine e_s rfl ?_
    iterate 4 refine e_s rfl ?_
    refine w_ppM (d := D + 83) (N := nW I tz kd nb rl sg) (X := mX I tz kd rl sg) h''.2.2.1.2.2.1 c7 (fun t ht => (m3 t ht).trans (nW_ok h ht).1) m4 hZ cc 0 0 0 0 none (by omega) (fun x13 => ?_)
    rw [hGe, hAe, Nat.zero_add]
    refine e_s rfl ?_
    refine e_s rfl ?_
    refine e_s rfl ?_
    rw [show (0 : Int64) + lz A = lz A from Int64.zero_add _]
    refine e_s rfl ?_
    refine e_s rfl ?_
    refine e_s rfl ?_
    refine e_s rfl ?_
    refine e_s rfl ?_
    refine e_s rfl ?_
    refine e_s rfl ?_
    rw [Int64.add_zero]
    refine e_s rfl ?_
    refine e_s rfl ?_
    refine e_s rfl ?_
    refine e_s rfl ?_
    refine e_s rfl ?_
    refine e_s rfl ?_
    refine e_s rfl ?_
    refine e_s rfl ?_
    refine e_s rfl ?_
    exact w_pe (d := D + 82) hmx (by omega) (by omega) (by omega) hbn (in01 hy)
end PXPC
