/-! the house as it is, reckoned on both sides -/
def mW (I : px_HI) (tz kd nb : Nat → Nat) (rl sg : Nat) : Nat → Int64 := gW I tz kd nb (I 31 7) (I 31 8) (I 31 9) (I 31 10) (I 31 11) rl sg (I 37)
def mX (I : px_HI) (tz kd : Nat → Nat) (rl sg : Nat) : Nat → Int32 := gX I tz kd (I 31 7) (I 31 8) (I 31 9) rl sg
def mC (I : px_HI) (tz : Nat → Nat) (rl sg : Nat) : Int32 := clp 0 99 (tV I tz rl 2 (nmE (I 31 7) (I 31 8) 0 (I 31 9) (nI sg) 0))
theorem gW_c {I I' : px_HI} {tz kd nb : Nat → Nat} {h d hm dg nt : Int32} {rl sg : Nat} {f g : Nat → Int32} (e : ∀ j, I' 32 j = I 32 j) (hf : ∀ j, j < sg → f j = g j) : gW I' tz kd nb h d hm dg nt rl sg f = gW I tz kd nb h d hm dg nt rl sg g := by
  funext i
  unfold gW wSp
  rw [tV_fr e]
  exact wFd_c sg 0 _ (fun j hj => hf j (by omega))
theorem gX_c {I I' : px_HI} {tz kd : Nat → Nat} {h d hm : Int32} {rl sg : Nat} (e : ∀ j, I' 32 j = I 32 j) : gX I' tz kd h d hm rl sg = gX I tz kd h d hm rl sg := by
  funext i
  unfold gX
  rw [tV_fr e]
section PXQ1
variable {d D n q L cc tc rl sg tp : Nat} {so : Option Nat} {dr : px_HR} {ds : px_HS} {I I' : px_HI} {J : px_HJ} {xs : Nat → Int32} {ca kd nb ta ua wa tz : Nat → Nat} {x : Int32}
theorem mW_k (h : Inv xs L so dr ds I n cc tc rl sg tp ca kd nb ta ua wa tz) (f : kpF wa tc I I') : mW I' tz kd nb rl sg = mW I tz kd nb rl sg ∧ mX I' tz kd rl sg = mX I tz kd rl sg ∧ mC I' tz rl sg = mC I tz rl sg ∧ I' 31 7 = I 31 7 ∧ ∀ j, I' 32 j = I 32 j := by
  have e : ∀ j, j < 12 → I' 31 j = I 31 j := fun j hj => f.lo h (by omega) (by omega) (by omega) (by omega) (by omega) (by omega) (by omega)
  have e37 : ∀ j, I' 37 j = I 37 j := fun j => f.lo h (by omega) (by omega) (by omega) (by omega) (by omega) (by omega) (by omega)
  have e32 : ∀ j, I' 32 j = I 32 j := fun j => f.lo h (by omega) (by omega) (by omega) (by omega) (by omega) (by omega) (by omega)
  unfold mW mX mC
  rw [e 7 (by omega), e 8 (by omega), e 9 (by omega), e 10 (by omega), e 11 (by omega), tV_fr e32]
  exact ⟨gW_c e32 (fun j _ => e37 j), gX_c e32, rfl, rfl, e32⟩
theorem q_now (h : Inv xs L so dr ds I n cc tc rl sg tp ca kd nb ta ua wa tz) : ∃ I' J', px_mt (d + 7) 83 [.ref 0, .ref 2] I J (dR so dr) (dS L ds) n q (none, I', J', dR so dr, dS L ds, n, q) ∧ kpF wa tc I I' ∧ (∀ t, t < cc → J' 17 t = mW I tz kd nb rl sg t) ∧ (∀ t, t < cc → I' 18 t = mX I tz kd rl sg t) ∧ J' 0 13 = gA (mW I tz kd nb rl sg) cc ∧ I' 0 14 = mC I tz rl sg := by
  obtain ⟨h0, h1, h2, h3, h4, h5, h6, h7, h8, h9, h10, h11, h12⟩ := h
  obtain ⟨a1, a2, a3, a4, a5, a6, a7, a8, a9, a10, a11⟩ := h1
  obtain ⟨I', J', k1, k2, k3, k4, k5, k6, k7⟩ := r_reckon (d := d) (n := n) (q := q) (J0 := J) (sc := 2) (hs := 3) h3 h2 rfl rfl rfl (by decide) (by decide) (by decide) (by decide) a6 h0 a8 a10
  have ew : gW I tz kd nb (I 2 0) (I 2 1) (I 2 2) (I 2 3) (I 2 4) rl sg (I 3) = mW I tz kd nb rl sg := by
    unfold mW
    rw [a1, a2, a3, a4, a5]
    exact gW_c (fun _ => rfl) (fun j hj => a11 j (by omega))
  rw [ew] at k4 k6
  rw [a1, a2, a3] at k5 k7
  refine ⟨I', J', k1, fun a j g => k2 a j (fun e => g (Or.inr (Or.inr (Or.inr (Or.inr (Or.inl ⟨rl, h0, e⟩)))))) (fun e => g (Or.inr (Or.inr (Or.inl e)))) (fun e e2 => g (Or.inr (Or.inr (Or.inr (Or.inl ⟨e, e2⟩))))), k4, k5, k6, k7⟩
theorem mF3_k {I I' : px_HI} {wa : Nat → Nat} {tc : Nat} (h : mF3 I I') : kpF wa tc I I' := fun a j g => h a j (fun e => by
  by_cases e2 : j < 17 ∨ 31 < j
  · exact e2
  · exact absurd (Or.inr (Or.inr (Or.inr (Or.inr (Or.inr (Or.inl ⟨e, Or.inl (by omega)⟩)))))) g)
theorem mFr3_k {I I' : px_HI} {J J' : px_HJ} {wa : Nat → Nat} {tc : Nat} (h : mFr3 I I' J J') : kpF wa tc I I' := mF3_k h.1
theorem q_gath (h : Inv xs L so dr ds I n cc tc rl sg tp ca kd nb ta ua wa tz) : ∃ I' J', px_mt (D + 82) 203 [.ref 31] I J (dR so dr) (dS L ds) n q (none, I', J', dR so dr, dS L ds, n, q) ∧ kpF wa tc I I' ∧ (∀ t, t < cc → J' 38 t = mW I tz kd nb rl sg t) ∧ (∀ t, t < cc → J' 39 t = (mX I tz kd rl sg t).toInt64) ∧ J' 31 34 = gA (mW I tz kd nb rl sg) cc := by
  obtain ⟨h0, h1, h2, h3, h4, h5, h6, h7, h8, h9, h10, h11, h12⟩ := h
  obtain ⟨a1, a2, a3, a4, a5, a6, a7, a8, a9, a10, a11⟩ := h1
  obtain ⟨I', J', k1, k2, k3, k4, k5, k6⟩ := r_gathers (D := D) (n := n) (q := q) (J0 := J) h3 h2 a7 h0 a9 a10
  exact ⟨I', J', k1, mF3_k k2, k4, k5, k6⟩
/-- who -/
theorem o_who (h : Inv xs L so dr ds I n cc tc rl sg tp ca kd nb ta ua wa tz) : ∃ I1 J1 I2 J2 v, px_mt (D + 83) 95 [.ref 0] I J (dR so dr) (dS L ds) n q (some (.int v), I1, J1, dR so dr, dS L ds, n, q) ∧ px_mt (D + 83) 206 [.ref 31] I1 J1 (dR so dr) (dS L ds) n q (some (.int v), I2, J2, dR so dr, dS L ds, n, q) ∧ Inv xs L so dr ds I2 n cc tc rl sg tp ca kd nb ta ua wa tz := by
  obtain ⟨I1, J1, k1, k2, k3, k4, k5, k6⟩ := q_now (d := 0) (q := q) (J := J) h
  have h' := h.keep k2
  obtain ⟨I2, J2, m1, m2, m3, m4, m5⟩ := q_gath (D := D) (q := q) (J := J1) h'
  have h'' := h'.keep m2
  have ew := mW_k h k2
  rw [ew.1] at m3
  refine ⟨I1, J1, I2, J2, bstW (mW I tz kd nb rl sg) cc, ?_, ?_, h''⟩
  · unfold px_mt
    repeat refine e_s rfl ?_
    refine e_c rfl k1 (by omega) ?_
    repeat refine e_s rfl ?_
    refine e_c rfl (r_heaviest (d := 0) h'.2.2.1.2.1 h'.2.2.1.1 k3) (by omega) ?_
    exact e_r rfl
  · unfold px_mt
    repeat refine e_s rfl ?_
    refine e_c rfl m1 (by omega) ?_
    repeat refine e_s rfl ?_
    refine e_c rfl (r_likeliest (d := 0) h''.2.2.1.2.2.1 h''.2.2.1.1 m3) (by omega) ?_
    exact e_r rfl
/-- weight -/
theorem o_weight (h : Inv xs L so dr ds I n cc tc rl sg tp ca kd nb ta ua wa tz) : ∃ I1 J1 I2 J2 v, px_mt (D + 83) 82 [.ref 0, .int x] I J (dR so dr) (dS L ds) n q (some (.long v), I1, J1, dR so dr, dS L ds, n, q) ∧ px_mt (D + 83) 202 [.ref 31, .int x] I1 J1 (dR so dr) (dS L ds) n q (some (.long v), I2, J2, dR so dr, dS L ds, n, q) ∧ Inv xs L so dr ds I2 n cc tc rl sg tp ca kd nb ta ua wa tz := by
  obtain ⟨I1, J1, k1, k2, k3, k4, k5, k6⟩ := q_now (d := 0) (q := q) (J := J) h
  have h' := h.keep k2
  obtain ⟨I2, J2, m1, m2, m3, m4, m5⟩ := q_gath (D := D) (q := q) (J := J1) h'
  have h'' := h'.keep m2
  have ew := mW_k h k2
  rw [ew.1] at m3 m5
  have c7 := h.2.2.1.1
  by_cases e : x = -1
  · subst e
    refine ⟨I1, J1, I2, J2, gA (mW I tz kd nb rl sg) cc, ?_, ?_, h''⟩
    · unfold px_mt
      repeat refine e_s rfl ?_
      refine e_c rfl k1 (by omega) ?_
      repeat refine e_s rfl ?_
      rw [k5]
      exact e_r rfl
    · unfold px_mt
      repeat refine e_s rfl ?_
      refine e_c rfl m1 (by omega) ?_
      repeat refine e_s rfl ?_
      rw [m5]
      exact e_r rfl
  · rcases (show (x < 0 ∨ nI cc ≤ x) ∨ ∃ i, i < cc ∧ x = nI i from (pk_ix x (n := cc) (by omega)).elim (fun g => Or.inl (Or.inl g)) (fun g => g.elim (fun g => Or.inl (Or.inr g)) Or.inr)) with g | ⟨i, hi, rfl⟩
    · refine ⟨I, J, I, J, NOl, ?_, ?_, h⟩
      · unfold px_mt
        repeat refine e_s rfl ?_
        refine e_bf e ?_
        repeat refine e_s rfl ?_
        refine e_c rfl (r_callerNo (d := 0) h.2.2.1 g) (by omega) ?_
        repeat refine e_s rfl ?_
        exact e_r rfl
      · unfold px_mt
        repeat refine e_s rfl ?_
        refine e_bf e ?_
        repeat refine e_s rfl ?_
        refine e_c rfl (r_isOne (d := 0) h.2.2.1.2.2.1 c7) (by omega) ?_
        rw [out_k g]
        repeat refine e_s rfl ?_
        exact e_r rfl
    · refine ⟨I1, J1, I2, J2, mW I tz kd nb rl sg i, ?_, ?_, h''⟩
      · unfold px_mt
        repeat refine e_s rfl ?_
        refine e_bf e ?_
        repeat refine e_s rfl ?_
        refine e_c rfl (r_callerAt (d := 0) h.2.2.1 hi) (by omega) ?_
        repeat refine e_s rfl ?_
        refine e_c rfl k1 (by omega) ?_
        repeat refine e_s rfl ?_
        refine e_bt e ?_
        repeat refine e_s rfl ?_
        refine e_la rfl rfl rfl (show i < 7 by omega) (by decide) ?_
        rw [k3 i hi]
        exact e_r rfl
      · unfold px_mt
        repeat refine e_s rfl ?_
        refine e_bf e ?_
        repeat refine e_s rfl ?_
        refine e_c rfl (r_isOne (d := 0) h'.2.2.1.2.2.1 c7) (by omega) ?_
        rw [in_k hi (by omega)]
        repeat refine e_s rfl ?_
        refine e_c rfl m1 (by omega) ?_
        repeat refine e_s rfl ?_
        refine e_bt e ?_
        repeat refine e_s rfl ?_
        refine e_la rfl rfl rfl (show i < 7 by omega) (by decide) ?_
        rw [m3 i hi]
        exact e_r rfl
end PXQ1
