/-! how great weights are; odds, on both sides -/
theorem snd_15 {kd nb i : Nat} {g : Int32} (hn : nb ≤ 9) (hi : i ≤ 6) : ∃ s, s ≤ 15 ∧ snd kd (nI nb) g (nI i) = nI s := by
  have hp : ∃ s, s ≤ 15 ∧ pst g = nI s := by
    unfold pst
    split
    · exact ⟨9, by omega, rfl⟩
    · exact ⟨1, by omega, rfl⟩
  have hq : ∃ s, s ≤ 15 ∧ qut g = nI s := by
    unfold qut
    split
    · exact ⟨12, by omega, rfl⟩
    · exact ⟨2, by omega, rfl⟩
  unfold snd
  split
  · exact ⟨5, by omega, rfl⟩
  · exact hp
  · exact hq
  · split
    · next h =>
      refine ⟨1 + nb, by omega, ?_⟩
      rw [h.2, show pst 1 = nI 1 from rfl, nI_add]
    · exact hp
  · split
    · exact ⟨15, by omega, rfl⟩
    · exact hq
  · split
    · next h =>
      refine ⟨1 + i, by omega, ?_⟩
      rw [h, show pst 1 = nI 1 from rfl, nI_add]
    · exact hp
theorem wFd_n {kd nb : Nat} {hrd : Nat → Int32} (hn : nb ≤ 9) : ∀ k i a, i + k ≤ 6 → ∃ w, w ≤ a * 15 ^ k ∧ wFd kd (nI nb) hrd k i (lN a) = lN w
  | 0, i, a, _ => ⟨a, by omega, rfl⟩
  | k + 1, i, a, h => by
    obtain ⟨s, hs, e⟩ := snd_15 (kd := kd) (g := hrd i) hn (show i ≤ 6 by omega)
    obtain ⟨w, hw, e2⟩ := wFd_n (kd := kd) (hrd := hrd) hn k (i + 1) (a * s) (by omega)
    refine ⟨w, ?_, ?_⟩
    · refine Nat.le_trans hw ?_
      rw [Nat.pow_succ, Nat.mul_assoc, Nat.mul_comm (15 ^ k) 15, ]
      exact Nat.mul_le_mul_left a (Nat.mul_le_mul_right _ hs)
    · unfold wFd
      rw [e, nI_l (by omega), lN_mul, e2]
theorem clp_n {v : Int32} : ∃ c, c ≤ 999 ∧ clp 0 999 v = nI c := by
  have h2 : clp 0 999 v ≤ 999 := by
    unfold clp
    by_cases h : v < 0
    · rw [if_pos h]
      decide
    · rw [if_neg h]
      by_cases h2 : 999 < v
      · rw [if_pos h2]
        decide
      · rw [if_neg h2]
        exact Int32.not_lt.mp h2
  exact nI_of2 (M := 999) (n := 999) (by decide) (Int32.not_lt.mpr clp_nn) h2
theorem gW_n {I : px_HI} {tz kd nb : Nat → Nat} {h d hm dg nt : Int32} {rl sg i : Nat} {f : Nat → Int32} (hn : nb i ≤ 9) (h6 : sg ≤ 6) : ∃ w, w ≤ 11379234375 ∧ gW I tz kd nb h d hm dg nt rl sg f i = lN w := by
  obtain ⟨c, hc, e⟩ := clp_n (v := tV I tz rl 0 (nmE h d (nI (kd i)) hm (nI sg) (nI i)))
  have hb : ∃ b, b ≤ 1 ∧ (bI (sty (kd i) dg nt)).toInt64 = lN b := by
    cases sty (kd i) dg nt with
    | false => exact ⟨0, by omega, rfl⟩
    | true => exact ⟨1, by omega, rfl⟩
  obtain ⟨b, hb1, eb⟩ := hb
  obtain ⟨w, hw, ew⟩ := wFd_n (kd := kd i) (hrd := f) hn sg 0 (b * c) (by omega)
  refine ⟨w, ?_, ?_⟩
  · have h1 : b * c ≤ 999 := by
      have := Nat.mul_le_mul hb1 hc
      omega
    have h2 : 15 ^ sg ≤ 15 ^ 6 := Nat.pow_le_pow_right (by decide) h6
    have h3 : b * c * 15 ^ sg ≤ 999 * 15 ^ 6 := Nat.mul_le_mul h1 h2
    have h4 : 999 * 15 ^ 6 = 11379234375 := by decide
    omega
  · unfold gW wSp
    rw [e, eb, nI_l (by omega), lN_mul, ew]
theorem gA_n {W : Nat → Int64} {B : Nat} : ∀ k, (∀ t, t < k → ∃ w, w ≤ B ∧ W t = lN w) → ∃ w, w ≤ k * B ∧ gA W k = lN w
  | 0, _ => ⟨0, by omega, rfl⟩
  | k + 1, h => by
    obtain ⟨w, hw, e⟩ := gA_n k (fun t ht => h t (by omega))
    obtain ⟨v, hv, e2⟩ := h k (by omega)
    refine ⟨w + v, ?_, ?_⟩
    · rw [Nat.succ_mul]
      omega
    · show gA W k + W k = _
      rw [e, e2, lN_add]
theorem lowS_o {a b : Nat} {y : Int32} (h : inI 0 1 y = false) : lowS a b y = NOl := by
  have h0 : ¬ y = 0 := fun e => by rw [e] at h; exact absurd h (by decide)
  have h1 : ¬ y = 1 := fun e => by rw [e] at h; exact absurd h (by decide)
  unfold lowS
  by_cases hb : b = 0
  · rw [if_pos hb]
  · rw [if_neg hb, if_neg h0, if_neg h1]
theorem in01 {y : Int32} (h : inI 0 1 y = true) : y = 0 ∨ y = 1 := by
  have g := of_decide_eq_true h
  rw [Int32.le_iff_toInt_le, Int32.le_iff_toInt_le, show (0 : Int32).toInt = 0 by decide, show (1 : Int32).toInt = 1 by decide] at g
  have : y.toInt = 0 ∨ y.toInt = 1 := by omega
  rcases this with t | t
  · exact Or.inl (Int32.toInt_inj.mp (t.trans (by decide)))
  · exact Or.inr (Int32.toInt_inj.mp (t.trans (by decide)))
section PXOD
variable {d D n q L cc tc rl sg tp c k s m : Nat} {so : Option Nat} {dr R : px_HR} {ds S : px_HS} {I I0 : px_HI} {J : px_HJ} {xs : Nat → Int32} {ca kd nb ta ua wa tz : Nat → Nat} {x y z v w : Int32} {W : Nat → Int64}
theorem o_odds (h : Inv xs L so dr ds I n cc tc rl sg tp ca kd nb ta ua wa tz) : ∃ I1 J1 I2 J2 v, px_mt (D + 83) 97 [.ref 0, .int x, .int y] I J (dR so dr) (dS L ds) n q (some (.long v), I1, J1, dR so dr, dS L ds, n, q) ∧ px_mt (D + 83) 208 [.ref 31, .int x, .int y] I1 J1 (dR so dr) (dS L ds) n q (some (.long v), I2, J2, dR so dr, dS L ds, n, q) ∧ Inv xs L so dr ds I2 n cc tc rl sg tp ca kd nb ta ua wa tz := by
  have c7 := h.2.2.1.1
  rcases ix_or (x := x) (k := cc) (by omega) with g | ⟨i, hi, rfl⟩
  · refine ⟨I, J, I, J, NOl, ?_, ?_, h⟩
    · unfold px_mt
      repeat refine e_s rfl ?_
      refine e_c rfl (r_callerNo (d := 0) h.2.2.1 g) (by omega) ?_
      repeat refine e_s rfl ?_
      exact e_r rfl
    · unfold px_mt
      repeat refine e_s rfl ?_
      refine e_c rfl (r_isOne (d := 0) h.2.2.1.2.2.1 c7) (by omega) ?_
      rw [out_k g]
      repeat refine e_s rfl ?_
      exact e_r rfl
  obtain ⟨I1, J1, k1, k2, k3, k4, k5, k6⟩ := q_now (d := 0) (q := q) (J := J) h
  have h' := h.keep k2
  have hB : ∀ t, t < cc → ∃ w, w ≤ 11379234375 ∧ mW I tz kd nb rl sg t = lN w := fun t ht => gW_n (h.2.2.1.2.2.2 t ht).2.2.2.1 h.2.1.2.2.2.2.2.2.2.2.2.1
  obtain ⟨A, hA, eA⟩ := gA_n cc hB
  obtain ⟨w, hw, ew⟩ := hB i hi
  have hA2 : A < 2 ^ 63 := by
    have : cc * 11379234375 ≤ 7 * 11379234375 := Nat.mul_le_mul_right _ c7
    omega
  have hw2 : w < 2 ^ 63 := by omega
  have cls : px_mt (D + 83) 97 [.ref 0, .int (nI i), .int y] I J (dR so dr) (dS L ds) n q (some (.long (lowS w A y)), I1, J1, dR so dr, dS L ds, n, q) := by
    unfold px_mt
    repeat refine e_s rfl ?_
    refine e_c rfl (r_callerAt (d := 0) h.2.2.1 hi) (by omega) ?_
    repeat refine e_s rfl ?_
    refine e_c rfl k1 (by omega) ?_
    repeat refine e_s rfl ?_
    refine e_la rfl rfl rfl (show i < 7 by omega) (by decide) ?_
    rw [k3 i hi, ew]
    repeat refine e_s rfl ?_
    rw [k5, eA]
    refine e_c rfl (r_low (d := 0) hw2 hA2) (by omega) ?_
    exact e_r rfl
  cases hy : inI 0 1 y with
  | false =>
    rw [lowS_o hy] at cls
    refine ⟨I1, J1, I1, J1, NOl, cls, ?_, h'⟩
    unfold px_mt
    repeat refine e_s rfl ?_
    refine e_c rfl (r_isOne (d := 0) h'.2.2.1.2.2.1 c7) (by omega) ?_
    rw [in_k hi (by omega)]
    repeat refine e_s rfl ?_
    refine e_c rfl (r_inI (D := 0) (a := 0) (c := 1) (by decide) (by decide)) (by omega) ?_
    rw [hy]
    repeat refine e_s rfl ?_
    exact e_r rfl
  | true =>
    obtain ⟨I2, J2, m1, m2, m3, m4, m5⟩ := q_gath (D := D) (q := q) (J := J1) h'
    have ew' := (mW_k h k2).1
    rw [ew'] at m3 m5
    refine ⟨I1, J1, I2, J2, lowS w A y, cls, ?_, h'.keep m2⟩
    unfold px_mt
    repeat refine e_s rfl ?_
    refine e_c rfl (r_isOne (d := 0) h'.2.2.1.2.2.1 c7) (by omega) ?_
    rw [in_k hi (by omega)]
    repeat refine e_s rfl ?_
    refine e_c rfl (r_inI (D := 0) (a := 0) (c := 1) (by decide) (by decide)) (by omega) ?_
    rw [hy]
    repeat refine e_s rfl ?_
    refine e_c rfl m1 (by omega) ?_
    refine e_s rfl ?_
    refine e_s rfl ?_
    rw [m5, eA]
    refine e_s rfl ?_
    refine e_s rfl ?_
    refine e_s rfl ?_
    by_cases a0 : A = 0
    · subst a0
      repeat refine e_s rfl ?_
      exact e_r rfl
    · refine e_bt (fun g => a0 ((lN_0 hA2).mp ((lg_cmp_eq _ _).mp g))) ?_
      repeat refine e_s rfl ?_
      refine e_la rfl rfl rfl (show i < 7 by omega) (by decide) ?_
      rw [m3 i hi, ew]
      repeat refine e_s rfl ?_
      rw [m5, eA]
      refine e_c rfl (r_lowM (d := 0) hw2 hA2 a0 (in01 hy)) (by omega) ?_
      exact e_r rfl
end PXOD
