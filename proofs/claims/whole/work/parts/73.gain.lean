/-! gain and open, on both sides -/
def gG (W : Nat → Int64) (X : Nat → Int32) (kd nb : Nat → Nat) (h C : Int32) (cc : Nat) (mn : Int32) : Int64 := gSm W (fun t => (X t).toInt64) (fun t => wts (kd t) (nI (nb t)) h) mn cc 0 0 - gA W cc * C.toInt64 * mn.toInt64
def opn (G : Nat → Int64) : Nat → Nat → Int32 → Int64 → Int32 × Int64
  | 0, _, b, m => (b, m)
  | k + 1, t, b, m => if m < G t then opn G k (t + 1) (nI t) (G t) else opn G k (t + 1) b m
def opR (b : Int32) (m : Int64) (b' : Int32) (m' : Int64) : Prop := (m' ≤ 0 ∧ m = 0 ∧ b = -1) ∨ (0 < m' ∧ m = m' ∧ b = b')
theorem opn_r {G : Nat → Int64} : ∀ k t b m b' m', opR b m b' m' → opR (opn G k t b m).1 (opn G k t b m).2 (opn G k t b' m').1 (opn G k t b' m').2
  | 0, _, _, _, _, _, h => h
  | k + 1, t, b, m, b', m', h => by
    unfold opn
    rcases h with ⟨h1, rfl, rfl⟩ | ⟨h1, rfl, rfl⟩
    · by_cases g : 0 < G t
      · have g' : m' < G t := by
          rw [Int64.lt_iff_toInt_lt] at g ⊢
          rw [Int64.le_iff_toInt_le] at h1
          omega
        rw [if_pos g, if_pos g']
        exact opn_r k (t + 1) _ _ _ _ (Or.inr ⟨g, rfl, rfl⟩)
      · rw [if_neg g]
        by_cases g' : m' < G t
        · rw [if_pos g']
          exact opn_r k (t + 1) _ _ _ _ (Or.inl ⟨Int64.not_lt.mp g, rfl, rfl⟩)
        · rw [if_neg g']
          exact opn_r k (t + 1) _ _ _ _ (Or.inl ⟨h1, rfl, rfl⟩)
    · by_cases g : m < G t
      · rw [if_pos g]
        refine opn_r k (t + 1) _ _ _ _ (Or.inr ⟨?_, rfl, rfl⟩)
        rw [Int64.lt_iff_toInt_lt] at g h1 ⊢
        omega
      · rw [if_neg g]
        exact opn_r k (t + 1) _ _ _ _ (Or.inr ⟨h1, rfl, rfl⟩)
theorem opn_s {G : Nat → Int64} {k t : Nat} {b : Int32} {m : Int64} : opn G (k + 1) t b m = opn G k (t + 1) (opn G 1 t b m).1 (opn G 1 t b m).2 := by
  by_cases g : m < G t
  · have e : opn G 1 t b m = (nI t, G t) := by
      show (if m < G t then _ else _) = _
      rw [if_pos g]
      rfl
    rw [e]
    show (if m < G t then _ else _) = _
    rw [if_pos g]
  · have e : opn G 1 t b m = (b, m) := by
      show (if m < G t then _ else _) = _
      rw [if_neg g]
      rfl
    rw [e]
    show (if m < G t then _ else _) = _
    rw [if_neg g]
section PXQ2
variable {d D n q L cc tc rl sg tp : Nat} {so : Option Nat} {dr : px_HR} {ds : px_HS} {I I' I0 : px_HI} {J : px_HJ} {xs : Nat → Int32} {ca kd nb ta ua wa tz : Nat → Nat} {x : Int32} {W : Nat → Int64} {X : Nat → Int32} {C h0 : Int32} {r : Option Value × px_G}
theorem q_gain (hC : cIv I (dR so dr) (dS L ds) cc ca kd nb) (h2 : I 2 0 = h0) (k3 : ∀ t, t < cc → J 17 t = W t) (k4 : ∀ t, t < cc → I 18 t = X t) (k5 : J 0 13 = gA W cc) (k6 : I 0 14 = C) : px_mt (d + 5) 101 [.ref 0, .int x] I J (dR so dr) (dS L ds) n q (some (.long (gG W X kd nb h0 C cc x)), I, J, dR so dr, dS L ds, n, q) := by
  have g := r_gain (d := d) (n := n) (q := q) (mn := x) (X := fun t => (X t).toInt64) hC k3 (fun t ht => by rw [k4 t ht])
  rw [h2, k5, k6] at g
  exact g
theorem q_gainM (hh : Inv xs L so dr ds I n cc tc rl sg tp ca kd nb ta ua wa tz) (m3 : ∀ t, t < cc → J 38 t = W t) (m4 : ∀ t, t < cc → J 39 t = (X t).toInt64) (m5 : J 31 34 = gA W cc) : ∃ I' J', px_mt (D + 82) 211 [.ref 31, .int x] I J (dR so dr) (dS L ds) n q (some (.long (gG W X kd nb (I 31 7) (mC I tz rl sg) cc x)), I', J', dR so dr, dS L ds, n, q) ∧ kpF wa tc I I' ∧ (∀ t, t < cc → J' 38 t = W t) ∧ (∀ t, t < cc → J' 39 t = (X t).toInt64) ∧ J' 31 34 = gA W cc := by
  obtain ⟨h0, h1, h2, h3, h4, h5, h6, h7, h8, h9, h10, h11, h12⟩ := hh
  obtain ⟨a1, a2, a3, a4, a5, a6, a7, a8, a9, a10, a11⟩ := h1
  obtain ⟨I1, J1, g1, g2⟩ := r_gainM (D := D) (n := n) (q := q) (mn := x) (X := fun t => (X t).toInt64) h3 h2 a7 h0 a9 m3 m4
  rw [m5] at g1
  refine ⟨I1, J1, g1, mFr3_k g2, fun t ht => (g2.2 38 t (fun e => by omega)).trans (m3 t ht), fun t ht => (g2.2 39 t (fun e => by omega)).trans (m4 t ht), (g2.2 31 34 (fun _ => by decide)).trans m5⟩
theorem o_gain (h : Inv xs L so dr ds I n cc tc rl sg tp ca kd nb ta ua wa tz) : ∃ I1 J1 I2 J2 v, px_mt (D + 83) 100 [.ref 0, .int x] I J (dR so dr) (dS L ds) n q (some (.long v), I1, J1, dR so dr, dS L ds, n, q) ∧ px_mt (D + 83) 210 [.ref 31, .int x] I1 J1 (dR so dr) (dS L ds) n q (some (.long v), I2, J2, dR so dr, dS L ds, n, q) ∧ Inv xs L so dr ds I2 n cc tc rl sg tp ca kd nb ta ua wa tz := by
  have ein : decide (0 ≤ x ∧ x < 21) = inI 0 20 x := in_lt 20 (by decide) (by decide)
  cases hin : inI 0 20 x with
  | false =>
    refine ⟨I, J, I, J, NOl, ?_, ?_, h⟩
    · unfold px_mt
      repeat refine e_s rfl ?_
      refine e_c rfl (r_below (d := 0)) (by omega) ?_
      rw [ein, hin]
      repeat refine e_s rfl ?_
      exact e_r rfl
    · unfold px_mt
      repeat refine e_s rfl ?_
      refine e_c rfl (r_inI (D := 0) (a := 0) (c := 20) (by decide) (by decide)) (by omega) ?_
      rw [hin]
      repeat refine e_s rfl ?_
      exact e_r rfl
  | true =>
    obtain ⟨I1, J1, k1, k2, k3, k4, k5, k6⟩ := q_now (d := 0) (q := q) (J := J) h
    have h' := h.keep k2
    obtain ⟨I2, J2, m1, m2, m3, m4, m5⟩ := q_gath (D := D) (q := q) (J := J1) h'
    have h'' := h'.keep m2
    obtain ⟨ew, ex, ec, eh, _⟩ := mW_k h k2
    obtain ⟨_, _, ec', eh', _⟩ := mW_k h' m2
    rw [ew] at m3 m5
    rw [ex] at m4
    obtain ⟨I3, J3, p1, p2, _⟩ := q_gainM (D := D) (q := q) (x := x) h'' m3 m4 m5
    rw [ec', ec, eh'] at p1
    refine ⟨I1, J1, I3, J3, gG (mW I tz kd nb rl sg) (mX I tz kd rl sg) kd nb (I1 31 7) (mC I tz rl sg) cc x, ?_, ?_, h''.keep p2⟩
    · unfold px_mt
      repeat refine e_s rfl ?_
      refine e_c rfl (r_below (d := 0)) (by omega) ?_
      rw [ein, hin]
      repeat refine e_s rfl ?_
      refine e_c rfl k1 (by omega) ?_
      repeat refine e_s rfl ?_
      refine e_c rfl (q_gain (d := 0) h'.2.2.1 h'.2.1.1 k3 k4 k5 k6) (by omega) ?_
      exact e_r rfl
    · unfold px_mt
      repeat refine e_s rfl ?_
      refine e_c rfl (r_inI (D := 0) (a := 0) (c := 20) (by decide) (by decide)) (by omega) ?_
      rw [hin]
      repeat refine e_s rfl ?_
      refine e_c rfl m1 (by omega) ?_
      repeat refine e_s rfl ?_
      refine e_c rfl p1 (by omega) ?_
      exact e_r rfl
theorem w_op (hC : cIv I (dR so dr) (dS L ds) cc ca kd nb) (h2 : I 2 0 = h0) (k3 : ∀ t, t < cc → J 17 t = W t) (k4 : ∀ t, t < cc → I 18 t = X t) (k5 : J 0 13 = gA W cc) (k6 : I 0 14 = C) : ∀ k t (b : Int32) (m : Int64) (x5 x6 : Option Value), t + k = 21 → px_ev (d + 6) 102 15 [some (.ref 0), some (.int b), some (.long m), none, some (.int (nI t)), x5, x6] [] I J (dR so dr) (dS L ds) n q (some (.int (opn (fun t => gG W X kd nb h0 C cc (nI t)) k t b m).1), I, J, dR so dr, dS L ds, n, q)
  | 0, t, b, m, x5, x6, ht => by
    have e : t = 21 := by omega
    subst e
    repeat refine e_s rfl ?_
    exact e_r rfl
  | k + 1, t, b, m, x5, x6, ht => by
    repeat refine e_s rfl ?_
    refine e_bf (nI_ge (b := 21) (by omega) (by omega)) ?_
    repeat refine e_s rfl ?_
    refine e_c rfl (q_gain (d := d) hC h2 k3 k4 k5 k6) (by omega) ?_
    repeat refine e_s rfl ?_
    unfold opn
    refine e_b (fun h => ?_) (fun h => ?_)
    · rw [if_neg (lg_le_not_lt ((lg_cmp_le _ _).mp h))]
      refine e_s rfl ?_
      refine e_s rfl ?_
      rw [nI_1]
      exact w_op hC h2 k3 k4 k5 k6 k (t + 1) b m _ _ (by omega)
    · rw [if_pos ((lg_cmp_gt _ _).mp (Int32.not_le.mp h))]
      refine e_s rfl ?_
      refine e_s rfl ?_
      refine e_s rfl ?_
      refine e_s rfl ?_
      refine e_s rfl ?_
      refine e_s rfl ?_
      rw [nI_1]
      exact w_op hC h2 k3 k4 k5 k6 k (t + 1) _ _ _ _ (by omega)
theorem w_opM (hI0 : Inv xs L so dr ds I0 n cc tc rl sg tp ca kd nb ta ua wa tz) : ∀ k t (b : Int32) (m : Int64) (x5 x6 : Option Value) (I : px_HI) (J : px_HJ), t + k = 21 → kpF wa tc I0 I → (∀ t, t < cc → J 38 t = W t) → (∀ t, t < cc → J 39 t = (X t).toInt64) → J 31 34 = gA W cc → ∃ I' J', px_ev (D + 83) 212 15 [some (.ref 31), some (.int b), some (.long m), none, some (.int (nI t)), x5, x6] [] I J (dR so dr) (dS L ds) n q (some (.int (if 0 < (opn (fun t => gG W X kd nb (I0 31 7) (mC I0 tz rl sg) cc (nI t)) k t b m).2 then (opn (fun t => gG W X kd nb (I0 31 7) (mC I0 tz rl sg) cc (nI t)) k t b m).1 else -1)), I', J', dR so dr, dS L ds, n, q) ∧ kpF wa tc I0 I'
  | 0, t, b, m, x5, x6, I, J, ht, hk, m3, m4, m5 => by
    have e : t = 21 := by omega
    subst e
    refine ⟨I, J, ?_, hk⟩
    repeat refine e_s rfl ?_
    unfold opn
    refine e_b (fun h => ?_) (fun h => ?_)
    · rw [if_neg (lg_le_not_lt ((lg_cmp_le _ _).mp h))]
      refine e_s rfl ?_
      exact e_r rfl
    · rw [if_pos ((lg_cmp_gt _ _).mp (Int32.not_le.mp h))]
      repeat refine e_s rfl ?_
      exact e_r rfl
  | k + 1, t, b, m, x5, x6, I, J, ht, hk, m3, m4, m5 => by
    obtain ⟨I3, J3, p1, p2, p3, p4, p5⟩ := q_gainM (D := D) (q := q) (x := nI t) (hI0.keep hk) m3 m4 m5
    obtain ⟨_, _, ec, eh, _⟩ := mW_k hI0 hk
    rw [ec, eh] at p1
    by_cases hg : m < gG W X kd nb (I0 31 7) (mC I0 tz rl sg) cc (nI t)
    · obtain ⟨I', J', u1, u2⟩ := w_opM hI0 k (t + 1) (nI t) (gG W X kd nb (I0 31 7) (mC I0 tz rl sg) cc (nI t)) (some (.long (gG W X kd nb (I0 31 7) (mC I0 tz rl sg) cc (nI t)))) none I3 J3 (by omega) (hk.trans p2) p3 p4 p5
      refine ⟨I', J', ?_, u2⟩
      repeat refine e_s rfl ?_
      refine e_bf (fun g => absurd g (Int32.not_lt.mpr (nI_le (b := 20) (by omega) (by omega)))) ?_
      repeat refine e_s rfl ?_
      refine e_c rfl p1 (by omega) ?_
      repeat refine e_s rfl ?_
      unfold opn
      refine e_bf (fun h => lg_le_not_lt ((lg_cmp_le _ _).mp h) hg) ?_
      rw [if_pos hg]
      refine e_s rfl ?_
      refine e_s rfl ?_
      refine e_s rfl ?_
      refine e_s rfl ?_
      refine e_s rfl ?_
      refine e_s rfl ?_
      rw [nI_1]
      exact u1
    · obtain ⟨I', J', u1, u2⟩ := w_opM hI0 k (t + 1) b m (some (.long (gG W X kd nb (I0 31 7) (mC I0 tz rl sg) cc (nI t)))) none I3 J3 (by omega) (hk.trans p2) p3 p4 p5
      refine ⟨I', J', ?_, u2⟩
      repeat refine e_s rfl ?_
      refine e_bf (fun g => absurd g (Int32.not_lt.mpr (nI_le (b := 20) (by omega) (by omega)))) ?_
      repeat refine e_s rfl ?_
      refine e_c rfl p1 (by omega) ?_
      repeat refine e_s rfl ?_
      unfold opn
      refine e_bt ((lg_cmp_le _ _).mpr (Int64.not_lt.mp hg)) ?_
      rw [if_neg hg]
      refine e_s rfl ?_
      refine e_s rfl ?_
      rw [nI_1]
      exact u1
theorem o_open (h : Inv xs L so dr ds I n cc tc rl sg tp ca kd nb ta ua wa tz) : ∃ I1 J1 I2 J2 v, px_mt (D + 83) 102 [.ref 0] I J (dR so dr) (dS L ds) n q (some (.int v), I1, J1, dR so dr, dS L ds, n, q) ∧ px_mt (D + 83) 212 [.ref 31] I1 J1 (dR so dr) (dS L ds) n q (some (.int v), I2, J2, dR so dr, dS L ds, n, q) ∧ Inv xs L so dr ds I2 n cc tc rl sg tp ca kd nb ta ua wa tz := by
  obtain ⟨I1, J1, k1, k2, k3, k4, k5, k6⟩ := q_now (d := 0) (q := q) (J := J) h
  have h' := h.keep k2
  obtain ⟨I2, J2, m1, m2, m3, m4, m5⟩ := q_gath (D := D) (q := q) (J := J1) h'
  have h'' := h'.keep m2
  obtain ⟨ew, ex, ec, eh, _⟩ := mW_k h k2
  obtain ⟨_, _, ec', eh', _⟩ := mW_k h' m2
  rw [ew] at m3 m5
  rw [ex] at m4
  obtain ⟨I3, J3, p1, p2, p3, p4, p5⟩ := q_gainM (D := D) (q := q) (x := nI 0) h'' m3 m4 m5
  have h3 := h''.keep p2
  obtain ⟨_, _, ec3, eh3, _⟩ := mW_k h'' p2
  rw [ec', ec, eh'] at p1
  have fin : ∃ I' J', px_mt (D + 83) 212 [.ref 31] I1 J1 (dR so dr) (dS L ds) n q (some (.int (opn (fun t => gG (mW I tz kd nb rl sg) (mX I tz kd rl sg) kd nb (I1 31 7) (mC I tz rl sg) cc (nI t)) 21 0 (-1) 0).1), I', J', dR so dr, dS L ds, n, q) ∧ kpF wa tc I3 I' := by
    obtain ⟨I', J', u1, u2⟩ := w_opM (D := D) (q := q) (W := mW I tz kd nb rl sg) (X := mX I tz kd rl sg) h3 20 1 0 (gG (mW I tz kd nb rl sg) (mX I tz kd rl sg) kd nb (I1 31 7) (mC I tz rl sg) cc (nI 0)) none none I3 J3 (by omega) kpF.refl p3 p4 p5
    rw [ec3, ec', ec, eh3, eh'] at u1
    refine ⟨I', J', ?_, u2⟩
    have rel := opn_r (G := fun t => gG (mW I tz kd nb rl sg) (mX I tz kd rl sg) kd nb (I1 31 7) (mC I tz rl sg) cc (nI t)) 20 1 (opn (fun t => gG (mW I tz kd nb rl sg) (mX I tz kd rl sg) kd nb (I1 31 7) (mC I tz rl sg) cc (nI t)) 1 0 (-1) 0).1 (opn (fun t => gG (mW I tz kd nb rl sg) (mX I tz kd rl sg) kd nb (I1 31 7) (mC I tz rl sg) cc (nI t)) 1 0 (-1) 0).2 0 (gG (mW I tz kd nb rl sg) (mX I tz kd rl sg) kd nb (I1 31 7) (mC I tz rl sg) cc (nI 0)) (by
      unfold opn
      by_cases g : 0 < gG (mW I tz kd nb rl sg) (mX I tz kd rl sg) kd nb (I1 31 7) (mC I tz rl sg) cc (nI 0)
      · rw [if_pos g]
        exact Or.inr ⟨g, rfl, rfl⟩
      · rw [if_neg g]
        exact Or.inl ⟨Int64.not_lt.mp g, rfl, rfl⟩)
    have es : opn (fun t => gG (mW I tz kd nb rl sg) (mX I tz kd rl sg) kd nb (I1 31 7) (mC I tz rl sg) cc (nI t)) 21 0 (-1) 0 = opn (fun t => gG (mW I tz kd nb rl sg) (mX I tz kd rl sg) kd nb (I1 31 7) (mC I tz rl sg) cc (nI t)) 20 1 (opn (fun t => gG (mW I tz kd nb rl sg) (mX I tz kd rl sg) kd nb (I1 31 7) (mC I tz rl sg) cc (nI t)) 1 0 (-1) 0).1 (opn (fun t => gG (mW I tz kd nb rl sg) (mX I tz kd rl sg) kd nb (I1 31 7) (mC I tz rl sg) cc (nI t)) 1 0 (-1) 0).2 := by
      exact opn_s
    rw [es]
    have ev : (if 0 < (opn (fun t => gG (mW I tz kd nb rl sg) (mX I tz kd rl sg) kd nb (I1 31 7) (mC I tz rl sg) cc (nI t)) 20 1 0 (gG (mW I tz kd nb rl sg) (mX I tz kd rl sg) kd nb (I1 31 7) (mC I tz rl sg) cc (nI 0))).2 then (opn (fun t => gG (mW I tz kd nb rl sg) (mX I tz kd rl sg) kd nb (I1 31 7) (mC I tz rl sg) cc (nI t)) 20 1 0 (gG (mW I tz kd nb rl sg) (mX I tz kd rl sg) kd nb (I1 31 7) (mC I tz rl sg) cc (nI 0))).1 else (-1 : Int32)) = (opn (fun t => gG (mW I tz kd nb rl sg) (mX I tz kd rl sg) kd nb (I1 31 7) (mC I tz rl sg) cc (nI t)) 20 1 (opn (fun t => gG (mW I tz kd nb rl sg) (mX I tz kd rl sg) kd nb (I1 31 7) (mC I tz rl sg) cc (nI t)) 1 0 (-1) 0).1 (opn (fun t => gG (mW I tz kd nb rl sg) (mX I tz kd rl sg) kd nb (I1 31 7) (mC I tz rl sg) cc (nI t)) 1 0 (-1) 0).2).1 := by
      rcases rel with ⟨r1, r2, r3⟩ | ⟨r1, r2, r3⟩
      · rw [if_neg (Int64.not_lt.mpr r1), r3]
      · rw [if_pos r1, r3]
    rw [← ev]
    unfold px_mt
    repeat refine e_s rfl ?_
    refine e_c rfl m1 (by omega) ?_
    repeat refine e_s rfl ?_
    refine e_c rfl p1 (by omega) ?_
    refine e_s rfl ?_
    refine e_s rfl ?_
    refine e_s rfl ?_
    exact u1
  obtain ⟨I4, J4, f1, f2⟩ := fin
  refine ⟨I1, J1, I4, J4, _, ?_, f1, h3.keep f2⟩
  unfold px_mt
  repeat refine e_s rfl ?_
  refine e_c rfl k1 (by omega) ?_
  refine e_s rfl ?_
  refine e_s rfl ?_
  refine e_s rfl ?_
  refine e_s rfl ?_
  refine e_s rfl ?_
  refine e_s rfl ?_
  exact w_op (d := D + 77) h'.2.2.1 h'.2.1.1 k3 k4 k5 k6 21 0 (-1) 0 none none (by omega)
end PXQ2
