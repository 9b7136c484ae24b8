/-! the signs of a sheet, looked through and heard alone -/
def okS (f : Nat → Int32) : Nat → Nat → Bool
  | 0, _ => true
  | k + 1, i => cond (inI 0 3 (f i)) (okS f k (i + 1)) false
def rfS (f : Nat → Int32) (z : Nat) : Int32 := if z ≤ 6 then cond (okS f z 0) 0 (-2) else -2
theorem okS_c {f g : Nat → Int32} : ∀ k i, (∀ j, j < i + k → f j = g j) → okS f k i = okS g k i
  | 0, _, _ => rfl
  | k + 1, i, h => by
    unfold okS
    rw [h i (by omega), okS_c k (i + 1) (fun j hj => h j (by omega))]
section PXAL
variable {d D n q L cc tc rl sg tp c k s m : Nat} {so : Option Nat} {dr R : px_HR} {ds S : px_HS} {I I0 : px_HI} {J : px_HJ} {xs : Nat → Int32} {ca kd nb ta ua wa tz : Nat → Nat} {x y z v w : Int32}
theorem w_rfC (hs : s < 4) (hm : m ≤ 6) (e2 : I (20 + 2 * s) 2 = nI m) : ∀ k i, i + k = m → px_ev (d + 2) 120 31 [some (.ref (20 + 2 * s)), some (.int (nI i))] [] I J (dR so dr) (dS L ds) n q (some (.int (cond (okS (I (21 + 2 * s)) k i) 0 (-2))), I, J, dR so dr, dS L ds, n, q)
  | 0, i, hi => by
    obtain ⟨s1, s2, s3, s4⟩ := sh_S (ds := ds) (L := L) (so := so) (dr := dr) hs
    repeat refine e_s rfl ?_
    refine e_gi rfl s1 rfl ?_
    rw [e2]
    refine e_s rfl ?_
    refine e_bt (nI_le (by omega) (by omega)) ?_
    repeat refine e_s rfl ?_
    exact e_r rfl
  | k + 1, i, hi => by
    obtain ⟨s1, s2, s3, s4⟩ := sh_S (ds := ds) (L := L) (so := so) (dr := dr) hs
    have ein : decide (0 ≤ I (21 + 2 * s) i ∧ I (21 + 2 * s) i < 4) = inI 0 3 (I (21 + 2 * s) i) := in_lt 3 (by decide) (by decide)
    repeat refine e_s rfl ?_
    refine e_gi rfl s1 rfl ?_
    rw [e2]
    refine e_s rfl ?_
    refine e_bf (nI_ge (by omega) (by omega)) ?_
    repeat refine e_s rfl ?_
    refine e_cv rfl rfl rfl s1 rfl rfl (r_shAt (d := d) (i := i) hs e2 (by omega) (by omega)) (by omega) ?_
    refine e_s rfl ?_
    refine e_c rfl (r_below (d := d)) (by omega) ?_
    rw [ein]
    unfold okS
    cases hin : inI 0 3 (I (21 + 2 * s) i) with
    | false =>
      repeat refine e_s rfl ?_
      exact e_r rfl
    | true =>
      refine e_s rfl ?_
      refine e_s rfl ?_
      refine e_s rfl ?_
      rw [nI_1]
      exact w_rfC hs hm e2 k (i + 1) (by omega)
theorem r_refC (hs : s < 4) (hm : m ≤ 40) (hne : ¬ I (20 + 2 * s) 1 = -1) (e2 : I (20 + 2 * s) 2 = nI m) : px_mt (d + 2) 120 [.ref (20 + 2 * s)] I J (dR so dr) (dS L ds) n q (some (.int (rfS (I (21 + 2 * s)) m)), I, J, dR so dr, dS L ds, n, q) := by
  obtain ⟨s1, s2, s3, s4⟩ := sh_S (ds := ds) (L := L) (so := so) (dr := dr) hs
  unfold px_mt rfS
  repeat refine e_s rfl ?_
  refine e_cv rfl rfl rfl s1 rfl rfl (r_miss (d := d) hs) (by omega) ?_
  rw [decide_eq_false hne]
  repeat refine e_s rfl ?_
  refine e_gi rfl s1 rfl ?_
  rw [e2]
  refine e_s rfl ?_
  refine e_s rfl ?_
  by_cases h6 : m ≤ 6
  · rw [if_pos h6]
    refine e_bt (nI_le (b := 6) h6 (by decide)) ?_
    refine e_s rfl ?_
    refine e_s rfl ?_
    exact w_rfC hs h6 e2 m 0 (by omega)
  · rw [if_neg h6]
    refine e_bf (nI_ge (a := 6) (by omega) (by omega)) ?_
    repeat refine e_s rfl ?_
    exact e_r rfl
theorem w_rfM (hs : s < 4) (hm : m ≤ 6) (e2 : I 47 s = nI m) : ∀ k i, i + k = m → px_ev (d + 2) 222 38 [some (.ref 31), some (.int (nI s)), some (.int (nI i))] [] I J (dR so dr) (dS L ds) n q (some (.int (cond (okS (fun j => I 48 (40 * s + j)) k i) 0 (-2))), I, J, dR so dr, dS L ds, n, q)
  | 0, i, hi => by
    repeat refine e_s rfl ?_
    refine e_ia rfl rfl rfl hs (by decide) ?_
    rw [e2]
    refine e_s rfl ?_
    refine e_bt (nI_le (by omega) (by omega)) ?_
    repeat refine e_s rfl ?_
    exact e_r rfl
  | k + 1, i, hi => by
    repeat refine e_s rfl ?_
    refine e_ia rfl rfl rfl hs (by decide) ?_
    rw [e2]
    refine e_s rfl ?_
    refine e_bf (nI_ge (by omega) (by omega)) ?_
    repeat refine e_s rfl ?_
    rw [show (40 : Int32) * nI s = nI (40 * s) from pk_mul 40 s, nI_add]
    refine e_ia rfl rfl rfl (show 40 * s + i < 160 by omega) (by decide) ?_
    repeat refine e_s rfl ?_
    refine e_c rfl (r_inI (D := d) (a := 0) (c := 3) (by decide) (by decide)) (by omega) ?_
    unfold okS
    show px_ev _ _ _ _ ((some (Value.int (bI (inI 0 3 ((fun j => I 48 (40 * s + j)) i)))) : Option Value).toList ++ _) _ _ _ _ _ _ _
    cases hin : inI 0 3 ((fun j => I 48 (40 * s + j)) i) with
    | false =>
      repeat refine e_s rfl ?_
      exact e_r rfl
    | true =>
      refine e_s rfl ?_
      refine e_s rfl ?_
      refine e_s rfl ?_
      rw [nI_1]
      exact w_rfM hs hm e2 k (i + 1) (by omega)
theorem r_refM (hs : s < 4) (hm : m ≤ 40) (e45 : I 45 s = 1) (e2 : I 47 s = nI m) : px_mt (d + 3) 222 [.ref 31, .int (nI s)] I J (dR so dr) (dS L ds) n q (some (.int (rfS (fun j => I 48 (40 * s + j)) m)), I, J, dR so dr, dS L ds, n, q) := by
  unfold px_mt rfS
  repeat refine e_s rfl ?_
  refine e_c rfl (r_isSheet (d := d)) (by omega) ?_
  rw [in_k hs (by decide)]
  repeat refine e_s rfl ?_
  refine e_za rfl rfl rfl hs (by decide) ?_
  rw [e45]
  repeat refine e_s rfl ?_
  refine e_ia rfl rfl rfl hs (by decide) ?_
  rw [e2]
  refine e_s rfl ?_
  refine e_s rfl ?_
  by_cases h6 : m ≤ 6
  · rw [if_pos h6]
    refine e_bt (nI_le (b := 6) h6 (by decide)) ?_
    refine e_s rfl ?_
    refine e_s rfl ?_
    exact w_rfM (d := d + 1) hs h6 e2 m 0 (by omega)
  · rw [if_neg h6]
    refine e_bf (nI_ge (a := 6) (by omega) (by omega)) ?_
    repeat refine e_s rfl ?_
    exact e_r rfl
theorem al_A : ∃ Ia, (∀ r, px_ev (d + 1) 223 41 [some (.ref 31), some (.int (nI s)), some (.int (nI m)), some (.int 0)] [] Ia J (dR so dr) (dS L ds) n q r → px_mt (d + 1) 223 [.ref 31, .int (nI s), .int (nI m)] I J (dR so dr) (dS L ds) n q r) ∧ Ia 31 37 = I 31 16 ∧ Ia 31 16 = nI m ∧ (∀ j, j < 6 → Ia 41 j = I 37 j) ∧ ∀ a j, ¬ (a = 41 ∨ a = 31 ∧ (j = 37 ∨ j = 16)) → Ia a j = I a j := by
  apply Exists.intro
  apply And.intro
  · intro r kk
    unfold px_mt
    iterate 92 refine e_s rfl ?_
    exact kk
  · refine ⟨rfl, rfl, fun j hj => ?_, fun a j g => ?_⟩
    · match j, hj with
      | 0, _ => rfl
      | 1, _ => rfl
      | 2, _ => rfl
      | 3, _ => rfl
      | 4, _ => rfl
      | 5, _ => rfl
    · repeat rw [u_ne (fun e => by omega)]
theorem al_D : ∃ I', px_ev (d + 1) 223 73 [some (.ref 31), some (.int (nI s)), some (.int (nI m)), some (.int (nI m))] [] I J (dR so dr) (dS L ds) n q (none, I', J, dR so dr, dS L ds, n, q) ∧ I' 31 16 = I 31 37 ∧ (∀ j, j < 6 → I' 37 j = I 41 j) ∧ ∀ a j, ¬ (a = 31 ∧ j = 16) → (a = 37 → 6 ≤ j) → I' a j = I a j := by
  apply Exists.intro
  apply And.intro
  · repeat refine e_s rfl ?_
    exact e_r rfl
  · refine ⟨rfl, fun j hj => ?_, fun a j g g2 => ?_⟩
    · match j, hj with
      | 0, _ => rfl
      | 1, _ => rfl
      | 2, _ => rfl
      | 3, _ => rfl
      | 4, _ => rfl
      | 5, _ => rfl
    · exact (u_ne (k := 5) (fun e => by have := g2 e; omega)).trans ((u_ne (k := 4) (fun e => by have := g2 e; omega)).trans ((u_ne (k := 3) (fun e => by have := g2 e; omega)).trans ((u_ne (k := 2) (fun e => by have := g2 e; omega)).trans ((u_ne (k := 1) (fun e => by have := g2 e; omega)).trans ((u_ne (k := 0) (fun e => by have := g2 e; omega)).trans (u_ne (fun e => by omega)))))))
theorem w_al (hs : s < 4) (hm : m ≤ 6) : ∀ k i (I : px_HI), i + k = m → ∃ I', (∀ r, px_ev (d + 1) 223 69 [some (.ref 31), some (.int (nI s)), some (.int (nI m)), some (.int (nI m))] [] I' J (dR so dr) (dS L ds) n q r → px_ev (d + 1) 223 41 [some (.ref 31), some (.int (nI s)), some (.int (nI m)), some (.int (nI i))] [] I J (dR so dr) (dS L ds) n q r) ∧ (∀ j, i ≤ j → j < m → I' 37 j = I 48 (40 * s + j)) ∧ ∀ a j, (a = 37 → j < i ∨ m ≤ j) → I' a j = I a j
  | 0, i, I, hi => by
    refine ⟨I, fun r kk => ?_, fun j h1 h2 => by omega, fun _ _ _ => rfl⟩
    have e : i = m := by omega
    subst e
    refine e_s rfl ?_
    refine e_s rfl ?_
    refine e_s rfl ?_
    refine e_bt (nI_le (by omega) (by omega)) ?_
    exact kk
  | k + 1, i, I, hi => by
    obtain ⟨I', r1, r2, r3⟩ := w_al hs hm k (i + 1) (px_u I 37 i (I 48 (40 * s + i))) (by omega)
    refine ⟨I', fun r kk => ?_, fun j h1 h2 => ?_, fun a j g => ?_⟩
    · repeat refine e_s rfl ?_
      refine e_bf (nI_ge (by omega) (by omega)) ?_
      repeat refine e_s rfl ?_
      rw [show (40 : Int32) * nI s = nI (40 * s) from pk_mul 40 s, nI_add]
      refine e_ia rfl rfl rfl (show 40 * s + i < 160 by omega) (by decide) ?_
      refine e_is rfl rfl rfl (show i < 6 by omega) (by decide) ?_
      refine e_s rfl ?_
      refine e_s rfl ?_
      rw [nI_1]
      exact r1 r kk
    · by_cases e : j = i
      · subst e
        rw [r3 37 j (fun _ => by omega), u_eq]
      · rw [r2 j (by omega) h2, u_ne (by omega)]
    · rw [r3 a j (fun e => by have := g e; omega), u_ne (fun e => by have := g e; omega)]
theorem m_alone (h : Inv xs L so dr ds I n cc tc rl sg tp ca kd nb ta ua wa tz) (hs : s < 4) (hm : m ≤ 6) : ∃ I' J', px_mt (D + 83) 223 [.ref 31, .int (nI s), .int (nI m)] I J (dR so dr) (dS L ds) n q (none, I', J', dR so dr, dS L ds, n, q) ∧ kpF wa tc I I' ∧ (∀ t, t < cc → J' 38 t = gW I tz kd nb (I 31 7) (I 31 8) (I 31 9) (I 31 10) (I 31 11) rl m (fun j => I 48 (40 * s + j)) t) ∧ J' 31 34 = gA (gW I tz kd nb (I 31 7) (I 31 8) (I 31 9) (I 31 10) (I 31 11) rl m (fun j => I 48 (40 * s + j))) cc := by
  obtain ⟨h0, h1, h2, h3, h4, h5, h6, h7, h8, h9, h10, h11, h12⟩ := h
  obtain ⟨a1, a2, a3, a4, a5, a6, a7, a8, a9, a10, a11⟩ := h1
  obtain ⟨Ia, x1, x2, x3, x4, x5⟩ := al_A (d := D + 82) (n := n) (q := q) (L := L) (so := so) (dr := dr) (ds := ds) (I := I) (J := J) (s := s) (m := m)
  obtain ⟨Ib, y1, y2, y3⟩ := w_al (d := D + 82) (n := n) (q := q) (L := L) (so := so) (dr := dr) (ds := ds) (J := J) hs hm m 0 Ia (by omega)
  have fb : ∀ a j, ¬ (a = 41 ∨ a = 31 ∧ (j = 37 ∨ j = 16)) → (a = 37 → m ≤ j) → Ib a j = I a j := fun a j g1 g2 => by
    rw [y3 a j (fun e => Or.inr (g2 e)), x5 a j g1]
  have hC : cIv Ib (dR so dr) (dS L ds) cc ca kd nb := h2.g (fun i hi => (h10 i hi).1) (fun a j g => by
    unfold cFt at g
    exact fb a j (by omega) (by omega))
  have hT : tIv Ib (dR so dr) (dS L ds) tc ta ua wa tz := h3.g (fun t ht => (h12 t ht).1) (fun a j g => by
    unfold tFt at g
    exact fb a j (by omega) (by omega))
  have b31 : ∀ j, j < 16 → Ib 31 j = I 31 j := fun j hj => fb 31 j (by omega) (by omega)
  have b16 : Ib 31 16 = nI m := (y3 31 16 (by omega)).trans x3
  obtain ⟨Ic, Jc, k1, k2, k3, k4, k5, k6⟩ := r_gathers (D := D) (n := n) (q := q) (J0 := J) hT hC ((b31 4 (by decide)).trans a7) h0 b16 hm
  have eW : gW Ib tz kd nb (Ib 31 7) (Ib 31 8) (Ib 31 9) (Ib 31 10) (Ib 31 11) rl m (Ib 37) = gW I tz kd nb (I 31 7) (I 31 8) (I 31 9) (I 31 10) (I 31 11) rl m (fun j => I 48 (40 * s + j)) := by
    rw [b31 7 (by decide), b31 8 (by decide), b31 9 (by decide), b31 10 (by decide), b31 11 (by decide)]
    exact gW_c (fun j => fb 32 j (by omega) (by omega)) (fun j hj => by rw [y2 j (by omega) hj, x5 48 _ (by omega)])
  rw [eW] at k4 k6
  obtain ⟨Id, z1, z2, z3, z4⟩ := al_D (d := D + 82) (n := n) (q := q) (L := L) (so := so) (dr := dr) (ds := ds) (I := Ic) (J := Jc) (s := s) (m := m)
  refine ⟨Id, Jc, x1 _ (y1 _ ?_), fun a j g => ?_, k4, k6⟩
  · refine e_s rfl ?_
    refine e_c rfl k1 (by omega) ?_
    exact z1
  · by_cases e1 : a = 31 ∧ j = 16
    · obtain ⟨rfl, rfl⟩ := e1
      rw [z2, k2 31 37 (fun _ => by omega), y3 31 37 (by omega), x2]
    · by_cases e2 : a = 37 ∧ j < 6
      · obtain ⟨rfl, e2⟩ := e2
        rw [z3 j e2, k2 41 j (fun e => by omega), y3 41 j (by omega), x4 j e2]
      · have ns : ¬ a = 41 := fun e => g (Or.inr (Or.inr (Or.inr (Or.inr (Or.inr (Or.inr e))))))
        have ns2 : a = 31 → (j < 17 ∨ 31 < j) ∧ j ≠ 37 := fun e => by
          by_cases e3 : (j < 17 ∨ 31 < j) ∧ j ≠ 37
          · exact e3
          · exact absurd (Or.inr (Or.inr (Or.inr (Or.inr (Or.inr (Or.inl ⟨e, by omega⟩)))))) g
        rw [z4 a j e1 (by omega), k2 a j (fun e => (ns2 e).1), fb a j (by omega) (by omega)]
end PXAL
