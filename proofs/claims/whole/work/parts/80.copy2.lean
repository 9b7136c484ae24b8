/-! copy, on both sides: the call -/
section PXCP
variable {d D n q L cc tc rl sg tp s : Nat} {so : Option Nat} {dr : px_HR} {ds : px_HS} {I I0 : px_HI} {J : px_HJ} {xs : Nat → Int32} {ca kd nb ta ua wa tz : Nat → Nat} {x y z v w : Int32}
theorem r_sheetQ (x : Int32) : ∃ v : Value, (v = .null ∨ ∃ s, v = .ref s) ∧ px_mt (d + 2) 113 [.ref 0, .int x] I J (dR so dr) (dS L ds) n q (some v, I, J, dR so dr, dS L ds, n, q) := by
  rcases ix_or (x := x) (k := 4) (by decide) with g | ⟨s, hs, rfl⟩
  · exact ⟨.null, Or.inl rfl, r_sheetNo g⟩
  · exact ⟨.ref (20 + 2 * s), Or.inr ⟨_, rfl⟩, r_sheetAt hs⟩
theorem o_copy (h : Inv xs L so dr ds I n cc tc rl sg tp ca kd nb ta ua wa tz) : ∃ I1 I2 v', px_mt (d + 3) 136 [.ref 0, .int x, .int y, .int z, .int w, .int v] I J (dR so dr) (dS L ds) n q (some (.int v'), I1, J, dR so dr, dS L ds, n, q) ∧ px_mt (d + 3) 234 [.ref 31, .int x, .int y, .int z, .int w, .int v] I1 J (dR so dr) (dS L ds) n q (some (.int v'), I2, J, dR so dr, dS L ds, n, q) ∧ Inv xs L so dr ds I2 n cc tc rl sg tp ca kd nb ta ua wa tz := by
  have hh := h
  obtain ⟨h0, h1, h2, h3, h4, h5, h6, h7, h8, h9, h10, h11, h12⟩ := h
  rcases ix_or (x := x) (k := 4) (by decide) with g | ⟨s, hs, rfl⟩
  · refine ⟨I, I, -2, ?_, ?_, hh⟩
    · obtain ⟨vz, hvz, hz⟩ := r_sheetQ (d := d) (n := n) (q := q) (L := L) (so := so) (dr := dr) (ds := ds) (I := I) (J := J) z
      unfold px_mt
      repeat refine e_s rfl ?_
      refine e_c rfl (r_sheetNo (d := d) g) (by omega) ?_
      repeat refine e_s rfl ?_
      refine e_c rfl hz (by omega) ?_
      rcases hvz with rfl | ⟨o, rfl⟩
      · repeat refine e_s rfl ?_
        exact e_r rfl
      · repeat refine e_s rfl ?_
        exact e_r rfl
    · unfold px_mt
      repeat refine e_s rfl ?_
      refine e_c rfl (r_isSheet (d := d)) (by omega) ?_
      rw [out_k g]
      repeat refine e_s rfl ?_
      exact e_r rfl
  rcases ix_or (x := z) (k := 4) (by decide) with g | ⟨o, ho, rfl⟩
  · refine ⟨I, I, -2, ?_, ?_, hh⟩
    · unfold px_mt
      repeat refine e_s rfl ?_
      refine e_c rfl (r_sheetAt (d := d) hs) (by omega) ?_
      repeat refine e_s rfl ?_
      refine e_c rfl (r_sheetNo (d := d) g) (by omega) ?_
      repeat refine e_s rfl ?_
      exact e_r rfl
    · unfold px_mt
      repeat refine e_s rfl ?_
      refine e_c rfl (r_isSheet (d := d)) (by omega) ?_
      rw [in_k hs (by decide)]
      repeat refine e_s rfl ?_
      refine e_c rfl (r_isSheet (d := d)) (by omega) ?_
      rw [out_k g]
      repeat refine e_s rfl ?_
      exact e_r rfl
  obtain ⟨s1, s2, s3, s4⟩ := sh_S (ds := ds) (L := L) (so := so) (dr := dr) hs
  obtain ⟨o1, o2, o3, o4⟩ := sh_S (ds := ds) (L := L) (so := so) (dr := dr) ho
  rcases h6 s hs with ⟨q1, q2, q3⟩ | ⟨u, m, q1, q2, q3, q4, q5, q6, q7, q8⟩
  · refine ⟨I, I, -11, ?_, ?_, hh⟩
    · unfold px_mt
      repeat refine e_s rfl ?_
      refine e_c rfl (r_sheetAt (d := d) hs) (by omega) ?_
      repeat refine e_s rfl ?_
      refine e_c rfl (r_sheetAt (d := d) ho) (by omega) ?_
      repeat refine e_s rfl ?_
      refine e_cv rfl rfl rfl s1 rfl rfl (r_miss (d := d) hs) (by omega) ?_
      rw [decide_eq_true q2]
      repeat refine e_s rfl ?_
      exact e_r rfl
    · unfold px_mt
      repeat refine e_s rfl ?_
      refine e_c rfl (r_isSheet (d := d)) (by omega) ?_
      rw [in_k hs (by decide)]
      repeat refine e_s rfl ?_
      refine e_c rfl (r_isSheet (d := d)) (by omega) ?_
      rw [in_k ho (by decide)]
      repeat refine e_s rfl ?_
      refine e_za rfl rfl rfl hs (by decide) ?_
      rw [q1]
      repeat refine e_s rfl ?_
      exact e_r rfl
  have hne : ¬ I (20 + 2 * s) 1 = -1 := by
    rw [q4]
    match u, q1 with
    | 0, _ => decide
    | 1, _ => decide
    | 2, _ => decide
  rcases h6 o ho with ⟨p1, p2, p3⟩ | ⟨u', m', p1, p2, p3, p4, p5, p6, p7, p8⟩
  · refine ⟨I, I, -11, ?_, ?_, hh⟩
    · unfold px_mt
      repeat refine e_s rfl ?_
      refine e_c rfl (r_sheetAt (d := d) hs) (by omega) ?_
      repeat refine e_s rfl ?_
      refine e_c rfl (r_sheetAt (d := d) ho) (by omega) ?_
      repeat refine e_s rfl ?_
      refine e_cv rfl rfl rfl s1 rfl rfl (r_miss (d := d) hs) (by omega) ?_
      rw [decide_eq_false hne]
      repeat refine e_s rfl ?_
      refine e_cv rfl rfl rfl o1 rfl rfl (r_miss (d := d) ho) (by omega) ?_
      rw [decide_eq_true p2]
      repeat refine e_s rfl ?_
      exact e_r rfl
    · unfold px_mt
      repeat refine e_s rfl ?_
      refine e_c rfl (r_isSheet (d := d)) (by omega) ?_
      rw [in_k hs (by decide)]
      repeat refine e_s rfl ?_
      refine e_c rfl (r_isSheet (d := d)) (by omega) ?_
      rw [in_k ho (by decide)]
      repeat refine e_s rfl ?_
      refine e_za rfl rfl rfl hs (by decide) ?_
      rw [q3]
      repeat refine e_s rfl ?_
      refine e_za rfl rfl rfl ho (by decide) ?_
      rw [p1]
      repeat refine e_s rfl ?_
      exact e_r rfl
  have hne' : ¬ I (20 + 2 * o) 1 = -1 := by
    rw [p4]
    match u', p1 with
    | 0, _ => decide
    | 1, _ => decide
    | 2, _ => decide
  by_cases eu : nI u = nI u'
  rotate_left
  · refine ⟨I, I, -13, ?_, ?_, hh⟩
    · unfold px_mt
      repeat refine e_s rfl ?_
      refine e_c rfl (r_sheetAt (d := d) hs) (by omega) ?_
      repeat refine e_s rfl ?_
      refine e_c rfl (r_sheetAt (d := d) ho) (by omega) ?_
      repeat refine e_s rfl ?_
      refine e_cv rfl rfl rfl s1 rfl rfl (r_miss (d := d) hs) (by omega) ?_
      rw [decide_eq_false hne]
      repeat refine e_s rfl ?_
      refine e_cv rfl rfl rfl o1 rfl rfl (r_miss (d := d) ho) (by omega) ?_
      rw [decide_eq_false hne']
      repeat refine e_s rfl ?_
      refine e_gi rfl s1 rfl ?_
      rw [q4]
      repeat refine e_s rfl ?_
      refine e_gi rfl o1 rfl ?_
      rw [p4]
      repeat refine e_s rfl ?_
      refine e_bf eu ?_
      repeat refine e_s rfl ?_
      exact e_r rfl
    · unfold px_mt
      repeat refine e_s rfl ?_
      refine e_c rfl (r_isSheet (d := d)) (by omega) ?_
      rw [in_k hs (by decide)]
      repeat refine e_s rfl ?_
      refine e_c rfl (r_isSheet (d := d)) (by omega) ?_
      rw [in_k ho (by decide)]
      repeat refine e_s rfl ?_
      refine e_za rfl rfl rfl hs (by decide) ?_
      rw [q3]
      repeat refine e_s rfl ?_
      refine e_za rfl rfl rfl ho (by decide) ?_
      rw [p3]
      repeat refine e_s rfl ?_
      refine e_ia rfl rfl rfl hs (by decide) ?_
      rw [q5]
      repeat refine e_s rfl ?_
      refine e_ia rfl rfl rfl ho (by decide) ?_
      rw [p5]
      repeat refine e_s rfl ?_
      refine e_bf eu ?_
      repeat refine e_s rfl ?_
      exact e_r rfl
  by_cases hA : hld m y v ∧ hld m' w v
  rotate_left
  · refine ⟨I, I, -12, ?_, ?_, hh⟩
    · unfold px_mt
      repeat refine e_s rfl ?_
      refine e_c rfl (r_sheetAt (d := d) hs) (by omega) ?_
      repeat refine e_s rfl ?_
      refine e_c rfl (r_sheetAt (d := d) ho) (by omega) ?_
      repeat refine e_s rfl ?_
      refine e_cv rfl rfl rfl s1 rfl rfl (r_miss (d := d) hs) (by omega) ?_
      rw [decide_eq_false hne]
      repeat refine e_s rfl ?_
      refine e_cv rfl rfl rfl o1 rfl rfl (r_miss (d := d) ho) (by omega) ?_
      rw [decide_eq_false hne']
      repeat refine e_s rfl ?_
      refine e_gi rfl s1 rfl ?_
      rw [q4]
      repeat refine e_s rfl ?_
      refine e_gi rfl o1 rfl ?_
      rw [p4]
      repeat refine e_s rfl ?_
      refine e_bt eu ?_
      repeat refine e_s rfl ?_
      by_cases hB : hld m y v
      · refine e_cv rfl rfl rfl s1 rfl rfl ((r_holds (d := d) hs q2 q6).1 hB) (by omega) ?_
        repeat refine e_s rfl ?_
        refine e_cv rfl rfl rfl o1 rfl rfl ((r_holds (d := d) ho p2 p6).2 (fun g => hA ⟨hB, g⟩)) (by omega) ?_
        repeat refine e_s rfl ?_
        exact e_r rfl
      · refine e_cv rfl rfl rfl s1 rfl rfl ((r_holds (d := d) hs q2 q6).2 hB) (by omega) ?_
        repeat refine e_s rfl ?_
        exact e_r rfl
    · unfold px_mt
      repeat refine e_s rfl ?_
      refine e_c rfl (r_isSheet (d := d)) (by omega) ?_
      rw [in_k hs (by decide)]
      repeat refine e_s rfl ?_
      refine e_c rfl (r_isSheet (d := d)) (by omega) ?_
      rw [in_k ho (by decide)]
      repeat refine e_s rfl ?_
      refine e_za rfl rfl rfl hs (by decide) ?_
      rw [q3]
      repeat refine e_s rfl ?_
      refine e_za rfl rfl rfl ho (by decide) ?_
      rw [p3]
      repeat refine e_s rfl ?_
      refine e_ia rfl rfl rfl hs (by decide) ?_
      rw [q5]
      repeat refine e_s rfl ?_
      refine e_ia rfl rfl rfl ho (by decide) ?_
      rw [p5]
      repeat refine e_s rfl ?_
      refine e_bt eu ?_
      repeat refine e_s rfl ?_
      refine e_b (fun g => ?_) (fun g1 => ?_)
      · repeat refine e_s rfl ?_
        exact e_r rfl
      repeat refine e_s rfl ?_
      refine e_b (fun g => ?_) (fun g2 => ?_)
      · repeat refine e_s rfl ?_
        exact e_r rfl
      repeat refine e_s rfl ?_
      refine e_b (fun g => ?_) (fun g3 => ?_)
      · repeat refine e_s rfl ?_
        exact e_r rfl
      repeat refine e_s rfl ?_
      refine e_ia rfl rfl rfl hs (by decide) ?_
      rw [q7]
      repeat refine e_s rfl ?_
      refine e_b (fun g => ?_) (fun g4 => ?_)
      · repeat refine e_s rfl ?_
        exact e_r rfl
      repeat refine e_s rfl ?_
      refine e_ia rfl rfl rfl ho (by decide) ?_
      rw [p7]
      repeat refine e_s rfl ?_
      refine e_bf (fun g => hA ⟨⟨g2, g1, Int32.not_lt.mp g4⟩, g3, g1, g⟩) ?_
      repeat refine e_s rfl ?_
      exact e_r rfl
  obtain ⟨⟨y0, v0, hy⟩, w0, _, hw⟩ := hA
  have hy' := hy
  have hw' := hw
  rw [Int32.le_iff_toInt_le, sub_T q2 v0] at hy
  rw [Int32.le_iff_toInt_le, sub_T p2 v0] at hw
  obtain ⟨i, hi, rfl⟩ := nI_of y0
  obtain ⟨j, hj, rfl⟩ := nI_of w0
  obtain ⟨N, hN, rfl⟩ := nI_of v0
  rw [nI_toInt hi, nI_toInt hN] at hy
  rw [nI_toInt hj, nI_toInt hN] at hw
  have hiN : i + N ≤ m := by omega
  have hjN : j + N ≤ m' := by omega
  have fc : ∀ a p, a ≠ 21 + 2 * o → px_row I (21 + 2 * o) (va_cpy (I (21 + 2 * s)) (I (21 + 2 * o)) i j N) a p = I a p := fun a p g => row_ne g
  have key : ∃ I', px_mt (d + 3) 234 [.ref 31, .int (nI s), .int (nI i), .int (nI o), .int (nI j), .int (nI N)] (px_row I (21 + 2 * o) (va_cpy (I (21 + 2 * s)) (I (21 + 2 * o)) i j N)) J (dR so dr) (dS L ds) n q (some (.int (nI N)), I', J, dR so dr, dS L ds, n, q) ∧ (∀ q, q < N → I' 48 (40 * o + j + q) = I 48 (40 * s + i + q)) ∧ (∀ a p, a ≠ 21 + 2 * o → (a = 48 → p < 40 * o + j ∨ 40 * o + j + N ≤ p) → I' a p = I a p) ∧ ∀ p, I' (21 + 2 * o) p = va_cpy (I (21 + 2 * s)) (I (21 + 2 * o)) i j N p := by
    by_cases eo : s = o ∧ i < j
    · obtain ⟨e, hij⟩ := eo
      subst e
      obtain ⟨I', r1, r2, r3⟩ := w_cpB (d := d + 2) (n := n) (q := q) (J := J) (L := L) (so := so) (dr := dr) (ds := ds) (I0 := px_row I (21 + 2 * s) (va_cpy (I (21 + 2 * s)) (I (21 + 2 * s)) i j N)) hs hs (show i + N ≤ 40 by omega) (show j + N ≤ 40 by omega) (fun q q' g1 g2 => by omega) N 0 (px_row I (21 + 2 * s) (va_cpy (I (21 + 2 * s)) (I (21 + 2 * s)) i j N)) none (by omega) (fun q g1 g2 => by omega) (fun _ _ _ => rfl)
      refine ⟨I', ?_, fun q hq => (r2 q hq).trans (fc _ _ (by omega)), fun a p g1 g2 => (r3 a p g2).trans (fc _ _ g1), fun p => (r3 _ p (fun e => by omega)).trans row_eq⟩
      unfold px_mt
      repeat refine e_s rfl ?_
      refine e_c rfl (r_isSheet (d := d)) (by omega) ?_
      rw [in_k hs (by decide)]
      repeat refine e_s rfl ?_
      refine e_c rfl (r_isSheet (d := d)) (by omega) ?_
      rw [in_k hs (by decide)]
      repeat refine e_s rfl ?_
      refine e_za rfl rfl rfl hs (by decide) ?_
      rw [fc 45 s (by omega), q3]
      repeat refine e_s rfl ?_
      refine e_za rfl rfl rfl hs (by decide) ?_
      rw [fc 45 s (by omega), q3]
      repeat refine e_s rfl ?_
      refine e_ia rfl rfl rfl hs (by decide) ?_
      repeat refine e_s rfl ?_
      refine e_ia rfl rfl rfl hs (by decide) ?_
      refine e_s rfl ?_
      refine e_bt rfl ?_
      repeat refine e_s rfl ?_
      refine e_bf v0 ?_
      repeat refine e_s rfl ?_
      refine e_bf y0 ?_
      repeat refine e_s rfl ?_
      refine e_bf w0 ?_
      repeat refine e_s rfl ?_
      refine e_ia rfl rfl rfl hs (by decide) ?_
      rw [fc 47 s (by omega), q7]
      repeat refine e_s rfl ?_
      refine e_bf (Int32.not_lt.mpr hy') ?_
      repeat refine e_s rfl ?_
      refine e_ia rfl rfl rfl hs (by decide) ?_
      rw [fc 47 s (by omega), p7]
      repeat refine e_s rfl ?_
      refine e_bt hw' ?_
      refine e_s rfl ?_
      refine e_s rfl ?_
      refine e_s rfl ?_
      refine e_bf (fun g => g rfl) ?_
      refine e_s rfl ?_
      refine e_s rfl ?_
      refine e_s rfl ?_
      refine e_bf (nI_ge hij (by omega)) ?_
      refine e_s rfl ?_
      refine e_s rfl ?_
      refine e_s rfl ?_
      refine e_s rfl ?_
      refine e_s rfl ?_
      exact r1
    · obtain ⟨I', r1, r2, r3⟩ := w_cpF (d := d + 2) (n := n) (q := q) (J := J) (L := L) (so := so) (dr := dr) (ds := ds) (I0 := px_row I (21 + 2 * o) (va_cpy (I (21 + 2 * s)) (I (21 + 2 * o)) i j N)) hs ho (show i + N ≤ 40 by omega) (show j + N ≤ 40 by omega) (fun q q' g1 g2 => by omega) N 0 (px_row I (21 + 2 * o) (va_cpy (I (21 + 2 * s)) (I (21 + 2 * o)) i j N)) none (by omega) (fun q g1 => by omega) (fun _ _ _ => rfl)
      refine ⟨I', ?_, fun q hq => (r2 q hq).trans (fc _ _ (by omega)), fun a p g1 g2 => (r3 a p g2).trans (fc _ _ g1), fun p => (r3 _ p (fun e => by omega)).trans row_eq⟩
      unfold px_mt
      repeat refine e_s rfl ?_
      refine e_c rfl (r_isSheet (d := d)) (by omega) ?_
      rw [in_k hs (by decide)]
      repeat refine e_s rfl ?_
      refine e_c rfl (r_isSheet (d := d)) (by omega) ?_
      rw [in_k ho (by decide)]
      repeat refine e_s rfl ?_
      refine e_za rfl rfl rfl hs (by decide) ?_
      rw [fc 45 s (by omega), q3]
      repeat refine e_s rfl ?_
      refine e_za rfl rfl rfl ho (by decide) ?_
      rw [fc 45 o (by omega), p3]
      repeat refine e_s rfl ?_
      refine e_ia rfl rfl rfl hs (by decide) ?_
      rw [fc 46 s (by omega), q5]
      repeat refine e_s rfl ?_
      refine e_ia rfl rfl rfl ho (by decide) ?_
      rw [fc 46 o (by omega), p5]
      refine e_s rfl ?_
      refine e_bt eu ?_
      repeat refine e_s rfl ?_
      refine e_bf v0 ?_
      repeat refine e_s rfl ?_
      refine e_bf y0 ?_
      repeat refine e_s rfl ?_
      refine e_bf w0 ?_
      repeat refine e_s rfl ?_
      refine e_ia rfl rfl rfl hs (by decide) ?_
      rw [fc 47 s (by omega), q7]
      repeat refine e_s rfl ?_
      refine e_bf (Int32.not_lt.mpr hy') ?_
      repeat refine e_s rfl ?_
      refine e_ia rfl rfl rfl ho (by decide) ?_
      rw [fc 47 o (by omega), p7]
      repeat refine e_s rfl ?_
      refine e_bt hw' ?_
      refine e_s rfl ?_
      refine e_s rfl ?_
      refine e_s rfl ?_
      by_cases es : s = o
      · refine e_bf (fun g => g (by rw [es])) ?_
        refine e_s rfl ?_
        refine e_s rfl ?_
        refine e_s rfl ?_
        refine e_bt (nI_le (by omega) (by omega)) ?_
        refine e_s rfl ?_
        refine e_s rfl ?_
        refine e_s rfl ?_
        refine e_s rfl ?_
        exact r1
      · refine e_bt (fun g => es ((nI_eq (by omega) (by omega)).mp g)) ?_
        refine e_s rfl ?_
        refine e_s rfl ?_
        refine e_s rfl ?_
        refine e_s rfl ?_
        exact r1
  obtain ⟨I2, r1, r2, r3, r4⟩ := key
  refine ⟨px_row I (21 + 2 * o) (va_cpy (I (21 + 2 * s)) (I (21 + 2 * o)) i j N), I2, nI N, ?_, r1, hh.sheets (fun a p g => ?_) (fun s' hs' => ?_)⟩
  · unfold px_mt
    repeat refine e_s rfl ?_
    refine e_c rfl (r_sheetAt (d := d) hs) (by omega) ?_
    repeat refine e_s rfl ?_
    refine e_c rfl (r_sheetAt (d := d) ho) (by omega) ?_
    repeat refine e_s rfl ?_
    refine e_cv rfl rfl rfl s1 rfl rfl (r_miss (d := d) hs) (by omega) ?_
    rw [decide_eq_false hne]
    repeat refine e_s rfl ?_
    refine e_cv rfl rfl rfl o1 rfl rfl (r_miss (d := d) ho) (by omega) ?_
    rw [decide_eq_false hne']
    repeat refine e_s rfl ?_
    refine e_gi rfl s1 rfl ?_
    rw [q4]
    repeat refine e_s rfl ?_
    refine e_gi rfl o1 rfl ?_
    rw [p4]
    repeat refine e_s rfl ?_
    refine e_bt eu ?_
    repeat refine e_s rfl ?_
    refine e_cv rfl rfl rfl s1 rfl rfl ((r_holds (d := d) hs q2 q6).1 ⟨y0, v0, hy'⟩) (by omega) ?_
    repeat refine e_s rfl ?_
    refine e_cv rfl rfl rfl o1 rfl rfl ((r_holds (d := d) ho p2 p6).1 ⟨w0, v0, hw'⟩) (by omega) ?_
    repeat refine e_s rfl ?_
    refine e_gr rfl s1 rfl s4 ?_
    repeat refine e_s rfl ?_
    refine e_gr rfl o1 rfl o4 ?_
    repeat refine e_s rfl ?_
    refine e_ac rfl s2 o2 (show i + N ≤ 40 by omega) (show j + N ≤ 40 by omega) (by decide) (by decide) rfl ?_
    repeat refine e_s rfl ?_
    exact e_r rfl
  · unfold sFt at g
    exact r3 a p (by omega) (by omega)
  · by_cases e : s' = o
    · subst e
      refine Or.inr ⟨u', m', p1, p2, (r3 _ _ (by omega) (by omega)).trans p3, (r3 _ _ (by omega) (by omega)).trans p4, (r3 _ _ (by omega) (by omega)).trans p5, (r3 _ _ (by omega) (by omega)).trans p6, (r3 _ _ (by omega) (by omega)).trans p7, fun p hp => ?_⟩
      rw [r4 p]
      by_cases g : j ≤ p ∧ p < j + N
      · rw [pk_cpy_in g.1 g.2, q8 _ (by omega)]
        have := r2 (p - j) (by omega)
        rw [show 40 * s' + j + (p - j) = 40 * s' + p by omega] at this
        rw [this, Nat.add_assoc]
      · rw [pk_cpy_out (by omega), p8 p hp]
        exact (r3 _ _ (by omega) (by omega)).symm
    · rcases h6 s' hs' with ⟨q1, q2, q3⟩ | ⟨so', z', q1, q2, q3, q4, q5, q6, q7, q8⟩
      · exact Or.inl ⟨(r3 _ _ (by omega) (by omega)).trans q1, (r3 _ _ (by omega) (by omega)).trans q2, (r3 _ _ (by omega) (by omega)).trans q3⟩
      · exact Or.inr ⟨so', z', q1, q2, (r3 _ _ (by omega) (by omega)).trans q3, (r3 _ _ (by omega) (by omega)).trans q4, (r3 _ _ (by omega) (by omega)).trans q5, (r3 _ _ (by omega) (by omega)).trans q6, (r3 _ _ (by omega) (by omega)).trans q7, fun p hp => (r3 _ _ (by omega) (by omega)).trans ((q8 p hp).trans (r3 _ _ (by omega) (by omega)).symm)⟩
end PXCP
