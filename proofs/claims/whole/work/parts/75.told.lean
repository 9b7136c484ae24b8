/-! told, runs, count, taken, on both sides -/
theorem sw_out {tb : List (Nat × Nat)} {x : Int32} {k z : Nat} (h : x < 0 ∨ nI k ≤ x) (hl : tb.length ≤ k) (hk : k < 1000) : px_sw tb 0 x z = z := by
  rcases h with h | h
  · exact sw_lo h
  · refine sw_hi ?_
    rw [Int32.le_iff_toInt_le, nI_toInt (by omega)] at h
    rw [show (0 : Int32).toInt = 0 by decide]
    omega
theorem ix_or {x : Int32} {k : Nat} (hk : k < 1000) : (x < 0 ∨ nI k ≤ x) ∨ ∃ i, i < k ∧ x = nI i := (pk_ix x (n := k) (by omega)).elim (fun g => Or.inl (Or.inl g)) (fun g => g.elim (fun g => Or.inl (Or.inr g)) Or.inr)
def btS (f : Nat → Bool) : Nat → Nat → Int32 → Int32
  | 0, _, a => a
  | k + 1, i, a => btS f k (i + 1) (cond (f i) (a ||| ((1 : Int32) <<< (nI i &&& 31))) a)
theorem or_sh {a y : Int32} : a ||| ((0 : Int32) <<< y) = a := by
  rw [Int32.zero_shiftLeft, Int32.or_zero]
section PXO1
variable {d D n q L cc tc rl sg tp : Nat} {so : Option Nat} {dr : px_HR} {ds : px_HS} {I I0 : px_HI} {J : px_HJ} {xs : Nat → Int32} {ca kd nb ta ua wa tz : Nat → Nat} {x y v : Int32}
theorem o_told0 (h : Inv xs L so dr ds I n cc tc rl sg tp ca kd nb ta ua wa tz) {i : Nat} (hi : i < cc) : ∃ v, px_mt (d + 6) 60 [.ref 0, .int (nI i), .int 0] I J (dR so dr) (dS L ds) n q (some (.int v), I, J, dR so dr, dS L ds, n, q) ∧ px_mt (d + 6) 149 [.ref 31, .int (nI i), .int 0] I J (dR so dr) (dS L ds) n q (some (.int v), I, J, dR so dr, dS L ds, n, q) := by
  obtain ⟨h0, h1, h2, h3, h4, h5, h6, h7, h8, h9, h10, h11, h12⟩ := h
  obtain ⟨a1, a2, a3, a4, a5, a6, a7, a8, a9, a10, a11⟩ := h1
  obtain ⟨g1, g2, g3, g4, g5, g6, g7, g8⟩ := h2.2.2.2 i hi
  have c7 := h2.1
  refine ⟨nI (kd i), ?_, ?_⟩
  · unfold px_mt
    repeat refine e_s rfl ?_
    refine e_c rfl (r_callerAt (d := d) h2 hi) (by omega) ?_
    repeat refine e_s rfl ?_
    refine e_gi rfl g2 ?_ ?_
    · clear g2
      revert g3
      generalize kd i = k
      intro g3
      match k, g3 with
      | 0, _ => rfl
      | 1, _ => rfl
      | 2, _ => rfl
      | 3, _ => rfl
      | 4, _ => rfl
      | 5, _ => rfl
    rw [g5]
    exact e_r rfl
  · unfold px_mt
    repeat refine e_s rfl ?_
    refine e_c rfl (r_isOne (d := d) h2.2.2.1 c7) (by omega) ?_
    rw [in_k hi (by omega)]
    repeat refine e_s rfl ?_
    refine e_c rfl (r_inI (D := d) (a := 0) (c := 7) (by decide) (by decide)) (by omega) ?_
    repeat refine e_s rfl ?_
    refine e_ia rfl rfl rfl (show i < 7 by omega) (by decide) ?_
    rw [g7]
    repeat refine e_s rfl ?_
    exact e_r rfl
theorem o_told1 (h : Inv xs L so dr ds I n cc tc rl sg tp ca kd nb ta ua wa tz) {i : Nat} (hi : i < cc) : ∃ v, px_mt (d + 6) 60 [.ref 0, .int (nI i), .int 1] I J (dR so dr) (dS L ds) n q (some (.int v), I, J, dR so dr, dS L ds, n, q) ∧ px_mt (d + 6) 149 [.ref 31, .int (nI i), .int 1] I J (dR so dr) (dS L ds) n q (some (.int v), I, J, dR so dr, dS L ds, n, q) := by
  obtain ⟨h0, h1, h2, h3, h4, h5, h6, h7, h8, h9, h10, h11, h12⟩ := h
  obtain ⟨a1, a2, a3, a4, a5, a6, a7, a8, a9, a10, a11⟩ := h1
  obtain ⟨g1, g2, g3, g4, g5, g6, g7, g8⟩ := h2.2.2.2 i hi
  have c7 := h2.1
  refine ⟨nI (nb i), ?_, ?_⟩
  · unfold px_mt
    repeat refine e_s rfl ?_
    refine e_c rfl (r_callerAt (d := d) h2 hi) (by omega) ?_
    repeat refine e_s rfl ?_
    refine e_gi rfl g2 ?_ ?_
    · clear g2
      revert g3
      generalize kd i = k
      intro g3
      match k, g3 with
      | 0, _ => rfl
      | 1, _ => rfl
      | 2, _ => rfl
      | 3, _ => rfl
      | 4, _ => rfl
      | 5, _ => rfl
    rw [g6]
    exact e_r rfl
  · unfold px_mt
    repeat refine e_s rfl ?_
    refine e_c rfl (r_isOne (d := d) h2.2.2.1 c7) (by omega) ?_
    rw [in_k hi (by omega)]
    repeat refine e_s rfl ?_
    refine e_c rfl (r_inI (D := d) (a := 0) (c := 7) (by decide) (by decide)) (by omega) ?_
    repeat refine e_s rfl ?_
    refine e_ia rfl rfl rfl (show i < 7 by omega) (by decide) ?_
    rw [g8]
    repeat refine e_s rfl ?_
    exact e_r rfl
theorem o_told2 (h : Inv xs L so dr ds I n cc tc rl sg tp ca kd nb ta ua wa tz) {i : Nat} (hi : i < cc) : ∃ v, px_mt (d + 6) 60 [.ref 0, .int (nI i), .int 2] I J (dR so dr) (dS L ds) n q (some (.int v), I, J, dR so dr, dS L ds, n, q) ∧ px_mt (d + 6) 149 [.ref 31, .int (nI i), .int 2] I J (dR so dr) (dS L ds) n q (some (.int v), I, J, dR so dr, dS L ds, n, q) := by
  obtain ⟨h0, h1, h2, h3, h4, h5, h6, h7, h8, h9, h10, h11, h12⟩ := h
  obtain ⟨a1, a2, a3, a4, a5, a6, a7, a8, a9, a10, a11⟩ := h1
  obtain ⟨g1, g2, g3, g4, g5, g6, g7, g8⟩ := h2.2.2.2 i hi
  have c7 := h2.1
  refine ⟨wts (kd i) (nI (nb i)) (I 31 7), ?_, ?_⟩
  · unfold px_mt
    repeat refine e_s rfl ?_
    refine e_c rfl (r_callerAt (d := d) h2 hi) (by omega) ?_
    repeat refine e_s rfl ?_
    refine e_wt (d := d + 2) rfl g3 g2 rfl ?_
    rw [g6, a1]
    exact e_r rfl
  · unfold px_mt
    repeat refine e_s rfl ?_
    refine e_c rfl (r_isOne (d := d) h2.2.2.1 c7) (by omega) ?_
    rw [in_k hi (by omega)]
    repeat refine e_s rfl ?_
    refine e_c rfl (r_inI (D := d) (a := 0) (c := 7) (by decide) (by decide)) (by omega) ?_
    repeat refine e_s rfl ?_
    have hw := r_wtsM (D := d) (n := n) (q := q) (so := so) (dr := dr) (L := L) (ds := ds) (J := J) g3 (show i < 7 by omega) g7
    rw [g8] at hw
    refine e_c rfl hw (by omega) ?_
    repeat refine e_s rfl ?_
    exact e_r rfl
theorem o_told3 (h : Inv xs L so dr ds I n cc tc rl sg tp ca kd nb ta ua wa tz) {i : Nat} (hi : i < cc) : ∃ v, px_mt (d + 6) 60 [.ref 0, .int (nI i), .int 3] I J (dR so dr) (dS L ds) n q (some (.int v), I, J, dR so dr, dS L ds, n, q) ∧ px_mt (d + 6) 149 [.ref 31, .int (nI i), .int 3] I J (dR so dr) (dS L ds) n q (some (.int v), I, J, dR so dr, dS L ds, n, q) := by
  obtain ⟨h0, h1, h2, h3, h4, h5, h6, h7, h8, h9, h10, h11, h12⟩ := h
  obtain ⟨a1, a2, a3, a4, a5, a6, a7, a8, a9, a10, a11⟩ := h1
  obtain ⟨g1, g2, g3, g4, g5, g6, g7, g8⟩ := h2.2.2.2 i hi
  have c7 := h2.1
  refine ⟨bI (sty (kd i) (I 31 10) (I 31 11)), ?_, ?_⟩
  · unfold px_mt
    repeat refine e_s rfl ?_
    refine e_c rfl (r_callerAt (d := d) h2 hi) (by omega) ?_
    repeat refine e_s rfl ?_
    refine e_c rfl (r_sty (d := d) (sc := 2) g3 g2 rfl) (by omega) ?_
    rw [a4, a5]
    cases sty (kd i) (I 31 10) (I 31 11) with
    | false =>
      repeat refine e_s rfl ?_
      exact e_r rfl
    | true =>
      repeat refine e_s rfl ?_
      exact e_r rfl
  · unfold px_mt
    repeat refine e_s rfl ?_
    refine e_c rfl (r_isOne (d := d) h2.2.2.1 c7) (by omega) ?_
    rw [in_k hi (by omega)]
    repeat refine e_s rfl ?_
    refine e_c rfl (r_inI (D := d) (a := 0) (c := 7) (by decide) (by decide)) (by omega) ?_
    repeat refine e_s rfl ?_
    refine e_c rfl (r_styM (D := d) g3 (show i < 7 by omega) g7) (by omega) ?_
    repeat refine e_s rfl ?_
    exact e_r rfl
theorem o_told4 (h : Inv xs L so dr ds I n cc tc rl sg tp ca kd nb ta ua wa tz) {i : Nat} (hi : i < cc) : ∃ v, px_mt (d + 6) 60 [.ref 0, .int (nI i), .int 4] I J (dR so dr) (dS L ds) n q (some (.int v), I, J, dR so dr, dS L ds, n, q) ∧ px_mt (d + 6) 149 [.ref 31, .int (nI i), .int 4] I J (dR so dr) (dS L ds) n q (some (.int v), I, J, dR so dr, dS L ds, n, q) := by
  obtain ⟨h0, h1, h2, h3, h4, h5, h6, h7, h8, h9, h10, h11, h12⟩ := h
  obtain ⟨a1, a2, a3, a4, a5, a6, a7, a8, a9, a10, a11⟩ := h1
  obtain ⟨g1, g2, g3, g4, g5, g6, g7, g8⟩ := h2.2.2.2 i hi
  have c7 := h2.1
  refine ⟨snd (kd i) (nI (nb i)) (4 - 4) (nI sg), ?_, ?_⟩
  · unfold px_mt
    repeat refine e_s rfl ?_
    refine e_c rfl (r_callerAt (d := d) h2 hi) (by omega) ?_
    repeat refine e_s rfl ?_
    rw [a8]
    have hs := snd_nn (kd := kd i) (nb := nb i) (i := sg) (g := (4 : Int32) - 4) g4 a10
    rw [← g6] at hs
    refine e_c rfl (r_snd (d := d) g3 g2 hs) (by omega) ?_
    rw [g6]
    exact e_r rfl
  · unfold px_mt
    repeat refine e_s rfl ?_
    refine e_c rfl (r_isOne (d := d) h2.2.2.1 c7) (by omega) ?_
    rw [in_k hi (by omega)]
    repeat refine e_s rfl ?_
    refine e_c rfl (r_inI (D := d) (a := 0) (c := 7) (by decide) (by decide)) (by omega) ?_
    repeat refine e_s rfl ?_
    rw [a9]
    have hw := r_sndM (D := d) (n := n) (q := q) (so := so) (dr := dr) (L := L) (ds := ds) (J := J) (g := (4 : Int32) - 4) (i := nI sg) g3 (show i < 7 by omega) g7
    rw [g8] at hw
    refine e_c rfl hw (by omega) ?_
    exact e_r rfl
theorem o_told5 (h : Inv xs L so dr ds I n cc tc rl sg tp ca kd nb ta ua wa tz) {i : Nat} (hi : i < cc) : ∃ v, px_mt (d + 6) 60 [.ref 0, .int (nI i), .int 5] I J (dR so dr) (dS L ds) n q (some (.int v), I, J, dR so dr, dS L ds, n, q) ∧ px_mt (d + 6) 149 [.ref 31, .int (nI i), .int 5] I J (dR so dr) (dS L ds) n q (some (.int v), I, J, dR so dr, dS L ds, n, q) := by
  obtain ⟨h0, h1, h2, h3, h4, h5, h6, h7, h8, h9, h10, h11, h12⟩ := h
  obtain ⟨a1, a2, a3, a4, a5, a6, a7, a8, a9, a10, a11⟩ := h1
  obtain ⟨g1, g2, g3, g4, g5, g6, g7, g8⟩ := h2.2.2.2 i hi
  have c7 := h2.1
  refine ⟨snd (kd i) (nI (nb i)) (5 - 4) (nI sg), ?_, ?_⟩
  · unfold px_mt
    repeat refine e_s rfl ?_
    refine e_c rfl (r_callerAt (d := d) h2 hi) (by omega) ?_
    repeat refine e_s rfl ?_
    rw [a8]
    have hs := snd_nn (kd := kd i) (nb := nb i) (i := sg) (g := (5 : Int32) - 4) g4 a10
    rw [← g6] at hs
    refine e_c rfl (r_snd (d := d) g3 g2 hs) (by omega) ?_
    rw [g6]
    exact e_r rfl
  · unfold px_mt
    repeat refine e_s rfl ?_
    refine e_c rfl (r_isOne (d := d) h2.2.2.1 c7) (by omega) ?_
    rw [in_k hi (by omega)]
    repeat refine e_s rfl ?_
    refine e_c rfl (r_inI (D := d) (a := 0) (c := 7) (by decide) (by decide)) (by omega) ?_
    repeat refine e_s rfl ?_
    rw [a9]
    have hw := r_sndM (D := d) (n := n) (q := q) (so := so) (dr := dr) (L := L) (ds := ds) (J := J) (g := (5 : Int32) - 4) (i := nI sg) g3 (show i < 7 by omega) g7
    rw [g8] at hw
    refine e_c rfl hw (by omega) ?_
    exact e_r rfl
theorem o_told6 (h : Inv xs L so dr ds I n cc tc rl sg tp ca kd nb ta ua wa tz) {i : Nat} (hi : i < cc) : ∃ v, px_mt (d + 6) 60 [.ref 0, .int (nI i), .int 6] I J (dR so dr) (dS L ds) n q (some (.int v), I, J, dR so dr, dS L ds, n, q) ∧ px_mt (d + 6) 149 [.ref 31, .int (nI i), .int 6] I J (dR so dr) (dS L ds) n q (some (.int v), I, J, dR so dr, dS L ds, n, q) := by
  obtain ⟨h0, h1, h2, h3, h4, h5, h6, h7, h8, h9, h10, h11, h12⟩ := h
  obtain ⟨a1, a2, a3, a4, a5, a6, a7, a8, a9, a10, a11⟩ := h1
  obtain ⟨g1, g2, g3, g4, g5, g6, g7, g8⟩ := h2.2.2.2 i hi
  have c7 := h2.1
  refine ⟨snd (kd i) (nI (nb i)) (6 - 4) (nI sg), ?_, ?_⟩
  · unfold px_mt
    repeat refine e_s rfl ?_
    refine e_c rfl (r_callerAt (d := d) h2 hi) (by omega) ?_
    repeat refine e_s rfl ?_
    rw [a8]
    have hs := snd_nn (kd := kd i) (nb := nb i) (i := sg) (g := (6 : Int32) - 4) g4 a10
    rw [← g6] at hs
    refine e_c rfl (r_snd (d := d) g3 g2 hs) (by omega) ?_
    rw [g6]
    exact e_r rfl
  · unfold px_mt
    repeat refine e_s rfl ?_
    refine e_c rfl (r_isOne (d := d) h2.2.2.1 c7) (by omega) ?_
    rw [in_k hi (by omega)]
    repeat refine e_s rfl ?_
    refine e_c rfl (r_inI (D := d) (a := 0) (c := 7) (by decide) (by decide)) (by omega) ?_
    repeat refine e_s rfl ?_
    rw [a9]
    have hw := r_sndM (D := d) (n := n) (q := q) (so := so) (dr := dr) (L := L) (ds := ds) (J := J) (g := (6 : Int32) - 4) (i := nI sg) g3 (show i < 7 by omega) g7
    rw [g8] at hw
    refine e_c rfl hw (by omega) ?_
    exact e_r rfl
theorem o_told7 (h : Inv xs L so dr ds I n cc tc rl sg tp ca kd nb ta ua wa tz) {i : Nat} (hi : i < cc) : ∃ v, px_mt (d + 6) 60 [.ref 0, .int (nI i), .int 7] I J (dR so dr) (dS L ds) n q (some (.int v), I, J, dR so dr, dS L ds, n, q) ∧ px_mt (d + 6) 149 [.ref 31, .int (nI i), .int 7] I J (dR so dr) (dS L ds) n q (some (.int v), I, J, dR so dr, dS L ds, n, q) := by
  obtain ⟨h0, h1, h2, h3, h4, h5, h6, h7, h8, h9, h10, h11, h12⟩ := h
  obtain ⟨a1, a2, a3, a4, a5, a6, a7, a8, a9, a10, a11⟩ := h1
  obtain ⟨g1, g2, g3, g4, g5, g6, g7, g8⟩ := h2.2.2.2 i hi
  have c7 := h2.1
  refine ⟨snd (kd i) (nI (nb i)) (7 - 4) (nI sg), ?_, ?_⟩
  · unfold px_mt
    repeat refine e_s rfl ?_
    refine e_c rfl (r_callerAt (d := d) h2 hi) (by omega) ?_
    repeat refine e_s rfl ?_
    rw [a8]
    have hs := snd_nn (kd := kd i) (nb := nb i) (i := sg) (g := (7 : Int32) - 4) g4 a10
    rw [← g6] at hs
    refine e_c rfl (r_snd (d := d) g3 g2 hs) (by omega) ?_
    rw [g6]
    exact e_r rfl
  · unfold px_mt
    repeat refine e_s rfl ?_
    refine e_c rfl (r_isOne (d := d) h2.2.2.1 c7) (by omega) ?_
    rw [in_k hi (by omega)]
    repeat refine e_s rfl ?_
    refine e_c rfl (r_inI (D := d) (a := 0) (c := 7) (by decide) (by decide)) (by omega) ?_
    repeat refine e_s rfl ?_
    rw [a9]
    have hw := r_sndM (D := d) (n := n) (q := q) (so := so) (dr := dr) (L := L) (ds := ds) (J := J) (g := (7 : Int32) - 4) (i := nI sg) g3 (show i < 7 by omega) g7
    rw [g8] at hw
    refine e_c rfl hw (by omega) ?_
    exact e_r rfl
theorem o_told (h : Inv xs L so dr ds I n cc tc rl sg tp ca kd nb ta ua wa tz) : ∃ v, px_mt (d + 6) 60 [.ref 0, .int x, .int y] I J (dR so dr) (dS L ds) n q (some (.int v), I, J, dR so dr, dS L ds, n, q) ∧ px_mt (d + 6) 149 [.ref 31, .int x, .int y] I J (dR so dr) (dS L ds) n q (some (.int v), I, J, dR so dr, dS L ds, n, q) := by
  have c7 := h.2.2.1.1
  rcases ix_or (x := x) (k := cc) (by omega) with g | ⟨i, hi, rfl⟩
  · refine ⟨-2, ?_, ?_⟩
    · unfold px_mt
      repeat refine e_s rfl ?_
      refine e_c rfl (r_callerNo (d := d) h.2.2.1 g) (by omega) ?_
      repeat refine e_s rfl ?_
      exact e_r rfl
    · unfold px_mt
      repeat refine e_s rfl ?_
      refine e_c rfl (r_isOne (d := d) h.2.2.1.2.2.1 c7) (by omega) ?_
      rw [out_k g]
      repeat refine e_s rfl ?_
      exact e_r rfl
  · rcases ix_or (x := y) (k := 8) (by decide) with g | ⟨j, hj, e⟩
    · refine ⟨-2, ?_, ?_⟩
      · unfold px_mt
        repeat refine e_s rfl ?_
        refine e_c rfl (r_callerAt (d := d) h.2.2.1 hi) (by omega) ?_
        repeat refine e_s rfl ?_
        refine e_pc (sw_out g (by decide) (by decide)) ?_
        repeat refine e_s rfl ?_
        exact e_r rfl
      · unfold px_mt
        repeat refine e_s rfl ?_
        refine e_c rfl (r_isOne (d := d) h.2.2.1.2.2.1 c7) (by omega) ?_
        rw [in_k hi (by omega)]
        repeat refine e_s rfl ?_
        refine e_c rfl (r_inI (D := d) (a := 0) (c := 7) (by decide) (by decide)) (by omega) ?_
        rw [show inI 0 7 y = false from (in_lt (a := nI 8) 7 (by decide) (by decide)).symm.trans (out_k g)]
        repeat refine e_s rfl ?_
        exact e_r rfl
    · match j, hj with
      | 0, _ => rw [show y = 0 from e]; exact o_told0 h hi
      | 1, _ => rw [show y = 1 from e]; exact o_told1 h hi
      | 2, _ => rw [show y = 2 from e]; exact o_told2 h hi
      | 3, _ => rw [show y = 3 from e]; exact o_told3 h hi
      | 4, _ => rw [show y = 4 from e]; exact o_told4 h hi
      | 5, _ => rw [show y = 5 from e]; exact o_told5 h hi
      | 6, _ => rw [show y = 6 from e]; exact o_told6 h hi
      | 7, _ => rw [show y = 7 from e]; exact o_told7 h hi
theorem w_rn (hC : cIv I (dR so dr) (dS L ds) cc ca kd nb) : ∀ k i (a : Int32) (x3 : Option Value), i + k = cc → px_ev (d + 5) 118 4 [some (.ref 0), some (.int a), some (.int (nI i)), x3] [] I J (dR so dr) (dS L ds) n q (some (.int (btS (fun i => decide (wts (kd i) (nI (nb i)) (I 2 0) = 0)) k i a)), I, J, dR so dr, dS L ds, n, q)
  | 0, i, a, x3, hi => by
    have h7 := hC.1
    repeat refine e_s rfl ?_
    rw [hC.2.1]
    refine e_bt (nI_le (by omega) (by omega)) ?_
    repeat refine e_s rfl ?_
    exact e_r rfl
  | k + 1, i, a, x3, hi => by
    have h7 := hC.1
    obtain ⟨_, c2, c3, c4, c5, c6, _, _⟩ := hC.2.2.2 i (by omega)
    repeat refine e_s rfl ?_
    rw [hC.2.1]
    refine e_bf (nI_ge (by omega) (by omega)) ?_
    repeat refine e_s rfl ?_
    refine e_c rfl (r_callerAt (d := d) hC (show i < cc by omega)) (by omega) ?_
    repeat refine e_s rfl ?_
    refine e_wt (d := d + 1) rfl c3 c2 rfl ?_
    rw [c6]
    unfold btS
    by_cases hz : wts (kd i) (nI (nb i)) (I 2 0) = 0
    · refine e_s rfl ?_
      refine e_bf (fun g => g hz) ?_
      refine e_s rfl ?_
      refine e_s rfl ?_
      refine e_s rfl ?_
      refine e_s rfl ?_
      refine e_s rfl ?_
      refine e_s rfl ?_
      refine e_s rfl ?_
      refine e_s rfl ?_
      rw [nI_1, decide_eq_true hz]
      exact w_rn hC k (i + 1) _ _ (by omega)
    · refine e_s rfl ?_
      refine e_bt hz ?_
      refine e_s rfl ?_
      refine e_s rfl ?_
      rw [nI_1, decide_eq_false hz]
      exact w_rn hC k (i + 1) _ _ (by omega)
theorem w_rnM (hC : cIv I (dR so dr) (dS L ds) cc ca kd nb) : ∀ k i (a : Int32), i + k = cc → px_ev (d + 5) 220 4 [some (.ref 31), some (.int a), some (.int (nI i))] [] I J (dR so dr) (dS L ds) n q (some (.int (btS (fun i => decide (wts (kd i) (nI (nb i)) (I 31 7) = 0)) k i a)), I, J, dR so dr, dS L ds, n, q)
  | 0, i, a, hi => by
    have h7 := hC.1
    repeat refine e_s rfl ?_
    rw [hC.2.2.1]
    refine e_bt (nI_le (by omega) (by omega)) ?_
    repeat refine e_s rfl ?_
    exact e_r rfl
  | k + 1, i, a, hi => by
    have h7 := hC.1
    obtain ⟨_, _, c3, c4, _, _, c7, c8⟩ := hC.2.2.2 i (by omega)
    repeat refine e_s rfl ?_
    rw [hC.2.2.1]
    refine e_bf (nI_ge (by omega) (by omega)) ?_
    repeat refine e_s rfl ?_
    have hw := r_wtsM (D := d) (n := n) (q := q) (so := so) (dr := dr) (L := L) (ds := ds) (J := J) c3 (show i < 7 by omega) c7
    rw [c8] at hw
    refine e_c rfl hw (by omega) ?_
    unfold btS
    by_cases hz : wts (kd i) (nI (nb i)) (I 31 7) = 0
    · refine e_s rfl ?_
      refine e_bf (fun g => g hz) ?_
      refine e_s rfl ?_
      refine e_s rfl ?_
      refine e_s rfl ?_
      refine e_s rfl ?_
      refine e_s rfl ?_
      refine e_s rfl ?_
      refine e_s rfl ?_
      refine e_s rfl ?_
      rw [nI_1, decide_eq_true hz]
      exact w_rnM hC k (i + 1) _ (by omega)
    · refine e_s rfl ?_
      refine e_bt hz ?_
      refine e_s rfl ?_
      refine e_s rfl ?_
      refine e_s rfl ?_
      refine e_s rfl ?_
      refine e_s rfl ?_
      refine e_s rfl ?_
      refine e_s rfl ?_
      rw [nI_1, or_sh, decide_eq_false hz]
      exact w_rnM hC k (i + 1) _ (by omega)
theorem o_runs (h : Inv xs L so dr ds I n cc tc rl sg tp ca kd nb ta ua wa tz) : ∃ v, px_mt (d + 5) 118 [.ref 0] I J (dR so dr) (dS L ds) n q (some (.int v), I, J, dR so dr, dS L ds, n, q) ∧ px_mt (d + 5) 220 [.ref 31] I J (dR so dr) (dS L ds) n q (some (.int v), I, J, dR so dr, dS L ds, n, q) := by
  refine ⟨btS (fun i => decide (wts (kd i) (nI (nb i)) (I 31 7) = 0)) cc 0 0, ?_, ?_⟩
  rotate_left
  · unfold px_mt
    refine e_s rfl ?_
    refine e_s rfl ?_
    refine e_s rfl ?_
    refine e_s rfl ?_
    exact w_rnM h.2.2.1 cc 0 0 (by omega)
  · unfold px_mt
    refine e_s rfl ?_
    refine e_s rfl ?_
    refine e_s rfl ?_
    refine e_s rfl ?_
    rw [← h.2.1.1]
    exact w_rn h.2.2.1 cc 0 0 none (by omega)
theorem o_cnt0 (h : Inv xs L so dr ds I n cc tc rl sg tp ca kd nb ta ua wa tz) : ∃ v, px_mt (d + 2) 130 [.ref 0, .int 0] I J (dR so dr) (dS L ds) n q (some (.int v), I, J, dR so dr, dS L ds, n, q) ∧ px_mt (d + 2) 231 [.ref 31, .int 0] I J (dR so dr) (dS L ds) n q (some (.int v), I, J, dR so dr, dS L ds, n, q) := by
  obtain ⟨h0, h1, h2, h3, h4, h5, h6, h7, h8, h9, h10, h11, h12⟩ := h
  obtain ⟨a1, a2, a3, a4, a5, a6, a7, a8, a9, a10, a11⟩ := h1
  refine ⟨nI cc, ?_, ?_⟩
  · unfold px_mt
    repeat refine e_s rfl ?_
    rw [h2.2.1]
    exact e_r rfl
  · unfold px_mt
    repeat refine e_s rfl ?_
    refine e_c rfl (r_inI (D := d) (a := 0) (c := 15) (by decide) (by decide)) (by omega) ?_
    repeat refine e_s rfl ?_
    rw [h2.2.2.1]
    exact e_r rfl
theorem o_cnt1 (h : Inv xs L so dr ds I n cc tc rl sg tp ca kd nb ta ua wa tz) : ∃ v, px_mt (d + 2) 130 [.ref 0, .int 1] I J (dR so dr) (dS L ds) n q (some (.int v), I, J, dR so dr, dS L ds, n, q) ∧ px_mt (d + 2) 231 [.ref 31, .int 1] I J (dR so dr) (dS L ds) n q (some (.int v), I, J, dR so dr, dS L ds, n, q) := by
  obtain ⟨h0, h1, h2, h3, h4, h5, h6, h7, h8, h9, h10, h11, h12⟩ := h
  obtain ⟨a1, a2, a3, a4, a5, a6, a7, a8, a9, a10, a11⟩ := h1
  refine ⟨nI sg, ?_, ?_⟩
  · unfold px_mt
    repeat refine e_s rfl ?_
    rw [a8]
    exact e_r rfl
  · unfold px_mt
    repeat refine e_s rfl ?_
    refine e_c rfl (r_inI (D := d) (a := 0) (c := 15) (by decide) (by decide)) (by omega) ?_
    repeat refine e_s rfl ?_
    rw [a9]
    exact e_r rfl
theorem o_cnt2 (h : Inv xs L so dr ds I n cc tc rl sg tp ca kd nb ta ua wa tz) : ∃ v, px_mt (d + 2) 130 [.ref 0, .int 2] I J (dR so dr) (dS L ds) n q (some (.int v), I, J, dR so dr, dS L ds, n, q) ∧ px_mt (d + 2) 231 [.ref 31, .int 2] I J (dR so dr) (dS L ds) n q (some (.int v), I, J, dR so dr, dS L ds, n, q) := by
  obtain ⟨h0, h1, h2, h3, h4, h5, h6, h7, h8, h9, h10, h11, h12⟩ := h
  obtain ⟨a1, a2, a3, a4, a5, a6, a7, a8, a9, a10, a11⟩ := h1
  refine ⟨I 31 7, ?_, ?_⟩
  · unfold px_mt
    repeat refine e_s rfl ?_
    refine e_c rfl (pt_0 (d := d)) (by omega) ?_
    rw [a1]
    exact e_r rfl
  · unfold px_mt
    repeat refine e_s rfl ?_
    refine e_c rfl (r_inI (D := d) (a := 0) (c := 15) (by decide) (by decide)) (by omega) ?_
    repeat refine e_s rfl ?_
    exact e_r rfl
theorem o_cnt3 (h : Inv xs L so dr ds I n cc tc rl sg tp ca kd nb ta ua wa tz) : ∃ v, px_mt (d + 2) 130 [.ref 0, .int 3] I J (dR so dr) (dS L ds) n q (some (.int v), I, J, dR so dr, dS L ds, n, q) ∧ px_mt (d + 2) 231 [.ref 31, .int 3] I J (dR so dr) (dS L ds) n q (some (.int v), I, J, dR so dr, dS L ds, n, q) := by
  obtain ⟨h0, h1, h2, h3, h4, h5, h6, h7, h8, h9, h10, h11, h12⟩ := h
  obtain ⟨a1, a2, a3, a4, a5, a6, a7, a8, a9, a10, a11⟩ := h1
  refine ⟨I 31 8, ?_, ?_⟩
  · unfold px_mt
    repeat refine e_s rfl ?_
    refine e_c rfl (pt_1 (d := d)) (by omega) ?_
    rw [a2]
    exact e_r rfl
  · unfold px_mt
    repeat refine e_s rfl ?_
    refine e_c rfl (r_inI (D := d) (a := 0) (c := 15) (by decide) (by decide)) (by omega) ?_
    repeat refine e_s rfl ?_
    exact e_r rfl
theorem o_cnt4 (h : Inv xs L so dr ds I n cc tc rl sg tp ca kd nb ta ua wa tz) : ∃ v, px_mt (d + 2) 130 [.ref 0, .int 4] I J (dR so dr) (dS L ds) n q (some (.int v), I, J, dR so dr, dS L ds, n, q) ∧ px_mt (d + 2) 231 [.ref 31, .int 4] I J (dR so dr) (dS L ds) n q (some (.int v), I, J, dR so dr, dS L ds, n, q) := by
  obtain ⟨h0, h1, h2, h3, h4, h5, h6, h7, h8, h9, h10, h11, h12⟩ := h
  obtain ⟨a1, a2, a3, a4, a5, a6, a7, a8, a9, a10, a11⟩ := h1
  refine ⟨I 31 9, ?_, ?_⟩
  · unfold px_mt
    repeat refine e_s rfl ?_
    refine e_c rfl (pt_2 (d := d)) (by omega) ?_
    rw [a3]
    exact e_r rfl
  · unfold px_mt
    repeat refine e_s rfl ?_
    refine e_c rfl (r_inI (D := d) (a := 0) (c := 15) (by decide) (by decide)) (by omega) ?_
    repeat refine e_s rfl ?_
    exact e_r rfl
theorem o_cnt5 (h : Inv xs L so dr ds I n cc tc rl sg tp ca kd nb ta ua wa tz) : ∃ v, px_mt (d + 2) 130 [.ref 0, .int 5] I J (dR so dr) (dS L ds) n q (some (.int v), I, J, dR so dr, dS L ds, n, q) ∧ px_mt (d + 2) 231 [.ref 31, .int 5] I J (dR so dr) (dS L ds) n q (some (.int v), I, J, dR so dr, dS L ds, n, q) := by
  obtain ⟨h0, h1, h2, h3, h4, h5, h6, h7, h8, h9, h10, h11, h12⟩ := h
  obtain ⟨a1, a2, a3, a4, a5, a6, a7, a8, a9, a10, a11⟩ := h1
  refine ⟨I 31 10, ?_, ?_⟩
  · unfold px_mt
    repeat refine e_s rfl ?_
    refine e_c rfl (pt_3 (d := d)) (by omega) ?_
    rw [a4]
    exact e_r rfl
  · unfold px_mt
    repeat refine e_s rfl ?_
    refine e_c rfl (r_inI (D := d) (a := 0) (c := 15) (by decide) (by decide)) (by omega) ?_
    repeat refine e_s rfl ?_
    exact e_r rfl
theorem o_cnt6 (h : Inv xs L so dr ds I n cc tc rl sg tp ca kd nb ta ua wa tz) : ∃ v, px_mt (d + 2) 130 [.ref 0, .int 6] I J (dR so dr) (dS L ds) n q (some (.int v), I, J, dR so dr, dS L ds, n, q) ∧ px_mt (d + 2) 231 [.ref 31, .int 6] I J (dR so dr) (dS L ds) n q (some (.int v), I, J, dR so dr, dS L ds, n, q) := by
  obtain ⟨h0, h1, h2, h3, h4, h5, h6, h7, h8, h9, h10, h11, h12⟩ := h
  obtain ⟨a1, a2, a3, a4, a5, a6, a7, a8, a9, a10, a11⟩ := h1
  refine ⟨I 31 11, ?_, ?_⟩
  · unfold px_mt
    repeat refine e_s rfl ?_
    refine e_c rfl (pt_4 (d := d)) (by omega) ?_
    rw [a5]
    exact e_r rfl
  · unfold px_mt
    repeat refine e_s rfl ?_
    refine e_c rfl (r_inI (D := d) (a := 0) (c := 15) (by decide) (by decide)) (by omega) ?_
    repeat refine e_s rfl ?_
    exact e_r rfl
theorem o_cnt7 (h : Inv xs L so dr ds I n cc tc rl sg tp ca kd nb ta ua wa tz) : ∃ v, px_mt (d + 2) 130 [.ref 0, .int 7] I J (dR so dr) (dS L ds) n q (some (.int v), I, J, dR so dr, dS L ds, n, q) ∧ px_mt (d + 2) 231 [.ref 31, .int 7] I J (dR so dr) (dS L ds) n q (some (.int v), I, J, dR so dr, dS L ds, n, q) := by
  obtain ⟨h0, h1, h2, h3, h4, h5, h6, h7, h8, h9, h10, h11, h12⟩ := h
  obtain ⟨a1, a2, a3, a4, a5, a6, a7, a8, a9, a10, a11⟩ := h1
  refine ⟨nI tc, ?_, ?_⟩
  · unfold px_mt
    repeat refine e_s rfl ?_
    rw [h3.2.2.1]
    exact e_r rfl
  · unfold px_mt
    repeat refine e_s rfl ?_
    refine e_c rfl (r_inI (D := d) (a := 0) (c := 15) (by decide) (by decide)) (by omega) ?_
    repeat refine e_s rfl ?_
    rw [h3.2.2.2.1]
    exact e_r rfl
theorem o_cnt8 (h : Inv xs L so dr ds I n cc tc rl sg tp ca kd nb ta ua wa tz) : ∃ v, px_mt (d + 2) 130 [.ref 0, .int 8] I J (dR so dr) (dS L ds) n q (some (.int v), I, J, dR so dr, dS L ds, n, q) ∧ px_mt (d + 2) 231 [.ref 31, .int 8] I J (dR so dr) (dS L ds) n q (some (.int v), I, J, dR so dr, dS L ds, n, q) := by
  obtain ⟨h0, h1, h2, h3, h4, h5, h6, h7, h8, h9, h10, h11, h12⟩ := h
  obtain ⟨a1, a2, a3, a4, a5, a6, a7, a8, a9, a10, a11⟩ := h1
  refine ⟨nI tp, ?_, ?_⟩
  · unfold px_mt
    repeat refine e_s rfl ?_
    rw [h4.1]
    exact e_r rfl
  · unfold px_mt
    repeat refine e_s rfl ?_
    refine e_c rfl (r_inI (D := d) (a := 0) (c := 15) (by decide) (by decide)) (by omega) ?_
    repeat refine e_s rfl ?_
    rw [h4.2.1]
    exact e_r rfl
theorem o_cnt9 (h : Inv xs L so dr ds I n cc tc rl sg tp ca kd nb ta ua wa tz) : ∃ v, px_mt (d + 2) 130 [.ref 0, .int 9] I J (dR so dr) (dS L ds) n q (some (.int v), I, J, dR so dr, dS L ds, n, q) ∧ px_mt (d + 2) 231 [.ref 31, .int 9] I J (dR so dr) (dS L ds) n q (some (.int v), I, J, dR so dr, dS L ds, n, q) := by
  obtain ⟨h0, h1, h2, h3, h4, h5, h6, h7, h8, h9, h10, h11, h12⟩ := h
  obtain ⟨a1, a2, a3, a4, a5, a6, a7, a8, a9, a10, a11⟩ := h1
  refine ⟨nI rl, ?_, ?_⟩
  · unfold px_mt
    repeat refine e_s rfl ?_
    rw [a6]
    exact e_r rfl
  · unfold px_mt
    repeat refine e_s rfl ?_
    refine e_c rfl (r_inI (D := d) (a := 0) (c := 15) (by decide) (by decide)) (by omega) ?_
    repeat refine e_s rfl ?_
    rw [a7]
    exact e_r rfl
theorem r_signNo {i : Nat} (hg : I 2 6 = nI sg) (hi : sg ≤ i) (h6 : i < 1000) : px_mt (d + 1) 93 [.ref 2, .int (nI i)] I J (dR so dr) (dS L ds) n q (some (.int (-1)), I, J, dR so dr, dS L ds, n, q) := by
  unfold px_mt
  repeat refine e_s rfl ?_
  refine e_bf (nI_pos (by omega)) ?_
  repeat refine e_s rfl ?_
  rw [hg]
  refine e_bt (nI_le hi (by omega)) ?_
  refine e_s rfl ?_
  exact e_r rfl
theorem o_cnt10 (h : Inv xs L so dr ds I n cc tc rl sg tp ca kd nb ta ua wa tz) : ∃ v, px_mt (d + 2) 130 [.ref 0, .int 10] I J (dR so dr) (dS L ds) n q (some (.int v), I, J, dR so dr, dS L ds, n, q) ∧ px_mt (d + 2) 231 [.ref 31, .int 10] I J (dR so dr) (dS L ds) n q (some (.int v), I, J, dR so dr, dS L ds, n, q) := by
  obtain ⟨h0, h1, h2, h3, h4, h5, h6, h7, h8, h9, h10, h11, h12⟩ := h
  obtain ⟨a1, a2, a3, a4, a5, a6, a7, a8, a9, a10, a11⟩ := h1
  by_cases hs : 0 < sg
  · refine ⟨I 37 0, ?_, ?_⟩
    · unfold px_mt
      repeat refine e_s rfl ?_
      refine e_c rfl (r_signAt (d := d) (i := 0) (sc := 2) (hs := 3) rfl a8 rfl rfl hs a10) (by omega) ?_
      rw [a11 0 (by decide)]
      exact e_r rfl
    · unfold px_mt
      repeat refine e_s rfl ?_
      refine e_c rfl (r_inI (D := d) (a := 0) (c := 15) (by decide) (by decide)) (by omega) ?_
      repeat refine e_s rfl ?_
      rw [a9]
      refine e_bf (nI_ge (a := 0) hs (by omega)) ?_
      repeat refine e_s rfl ?_
      exact e_r rfl
  · refine ⟨-1, ?_, ?_⟩
    · unfold px_mt
      repeat refine e_s rfl ?_
      refine e_c rfl (r_signNo (d := d) (i := 0) a8 (by omega) (by decide)) (by omega) ?_
      exact e_r rfl
    · unfold px_mt
      repeat refine e_s rfl ?_
      refine e_c rfl (r_inI (D := d) (a := 0) (c := 15) (by decide) (by decide)) (by omega) ?_
      repeat refine e_s rfl ?_
      rw [a9]
      refine e_bt (nI_le (b := 0) (by omega) (by decide)) ?_
      repeat refine e_s rfl ?_
      exact e_r rfl
theorem o_cnt11 (h : Inv xs L so dr ds I n cc tc rl sg tp ca kd nb ta ua wa tz) : ∃ v, px_mt (d + 2) 130 [.ref 0, .int 11] I J (dR so dr) (dS L ds) n q (some (.int v), I, J, dR so dr, dS L ds, n, q) ∧ px_mt (d + 2) 231 [.ref 31, .int 11] I J (dR so dr) (dS L ds) n q (some (.int v), I, J, dR so dr, dS L ds, n, q) := by
  obtain ⟨h0, h1, h2, h3, h4, h5, h6, h7, h8, h9, h10, h11, h12⟩ := h
  obtain ⟨a1, a2, a3, a4, a5, a6, a7, a8, a9, a10, a11⟩ := h1
  by_cases hs : 1 < sg
  · refine ⟨I 37 1, ?_, ?_⟩
    · unfold px_mt
      repeat refine e_s rfl ?_
      refine e_c rfl (r_signAt (d := d) (i := 1) (sc := 2) (hs := 3) rfl a8 rfl rfl hs a10) (by omega) ?_
      rw [a11 1 (by decide)]
      exact e_r rfl
    · unfold px_mt
      repeat refine e_s rfl ?_
      refine e_c rfl (r_inI (D := d) (a := 0) (c := 15) (by decide) (by decide)) (by omega) ?_
      repeat refine e_s rfl ?_
      rw [a9]
      refine e_bf (nI_ge (a := 1) hs (by omega)) ?_
      repeat refine e_s rfl ?_
      exact e_r rfl
  · refine ⟨-1, ?_, ?_⟩
    · unfold px_mt
      repeat refine e_s rfl ?_
      refine e_c rfl (r_signNo (d := d) (i := 1) a8 (by omega) (by decide)) (by omega) ?_
      exact e_r rfl
    · unfold px_mt
      repeat refine e_s rfl ?_
      refine e_c rfl (r_inI (D := d) (a := 0) (c := 15) (by decide) (by decide)) (by omega) ?_
      repeat refine e_s rfl ?_
      rw [a9]
      refine e_bt (nI_le (b := 1) (by omega) (by decide)) ?_
      repeat refine e_s rfl ?_
      exact e_r rfl
theorem o_cnt12 (h : Inv xs L so dr ds I n cc tc rl sg tp ca kd nb ta ua wa tz) : ∃ v, px_mt (d + 2) 130 [.ref 0, .int 12] I J (dR so dr) (dS L ds) n q (some (.int v), I, J, dR so dr, dS L ds, n, q) ∧ px_mt (d + 2) 231 [.ref 31, .int 12] I J (dR so dr) (dS L ds) n q (some (.int v), I, J, dR so dr, dS L ds, n, q) := by
  obtain ⟨h0, h1, h2, h3, h4, h5, h6, h7, h8, h9, h10, h11, h12⟩ := h
  obtain ⟨a1, a2, a3, a4, a5, a6, a7, a8, a9, a10, a11⟩ := h1
  by_cases hs : 2 < sg
  · refine ⟨I 37 2, ?_, ?_⟩
    · unfold px_mt
      repeat refine e_s rfl ?_
      refine e_c rfl (r_signAt (d := d) (i := 2) (sc := 2) (hs := 3) rfl a8 rfl rfl hs a10) (by omega) ?_
      rw [a11 2 (by decide)]
      exact e_r rfl
    · unfold px_mt
      repeat refine e_s rfl ?_
      refine e_c rfl (r_inI (D := d) (a := 0) (c := 15) (by decide) (by decide)) (by omega) ?_
      repeat refine e_s rfl ?_
      rw [a9]
      refine e_bf (nI_ge (a := 2) hs (by omega)) ?_
      repeat refine e_s rfl ?_
      exact e_r rfl
  · refine ⟨-1, ?_, ?_⟩
    · unfold px_mt
      repeat refine e_s rfl ?_
      refine e_c rfl (r_signNo (d := d) (i := 2) a8 (by omega) (by decide)) (by omega) ?_
      exact e_r rfl
    · unfold px_mt
      repeat refine e_s rfl ?_
      refine e_c rfl (r_inI (D := d) (a := 0) (c := 15) (by decide) (by decide)) (by omega) ?_
      repeat refine e_s rfl ?_
      rw [a9]
      refine e_bt (nI_le (b := 2) (by omega) (by decide)) ?_
      repeat refine e_s rfl ?_
      exact e_r rfl
theorem o_cnt13 (h : Inv xs L so dr ds I n cc tc rl sg tp ca kd nb ta ua wa tz) : ∃ v, px_mt (d + 2) 130 [.ref 0, .int 13] I J (dR so dr) (dS L ds) n q (some (.int v), I, J, dR so dr, dS L ds, n, q) ∧ px_mt (d + 2) 231 [.ref 31, .int 13] I J (dR so dr) (dS L ds) n q (some (.int v), I, J, dR so dr, dS L ds, n, q) := by
  obtain ⟨h0, h1, h2, h3, h4, h5, h6, h7, h8, h9, h10, h11, h12⟩ := h
  obtain ⟨a1, a2, a3, a4, a5, a6, a7, a8, a9, a10, a11⟩ := h1
  by_cases hs : 3 < sg
  · refine ⟨I 37 3, ?_, ?_⟩
    · unfold px_mt
      repeat refine e_s rfl ?_
      refine e_c rfl (r_signAt (d := d) (i := 3) (sc := 2) (hs := 3) rfl a8 rfl rfl hs a10) (by omega) ?_
      rw [a11 3 (by decide)]
      exact e_r rfl
    · unfold px_mt
      repeat refine e_s rfl ?_
      refine e_c rfl (r_inI (D := d) (a := 0) (c := 15) (by decide) (by decide)) (by omega) ?_
      repeat refine e_s rfl ?_
      rw [a9]
      refine e_bf (nI_ge (a := 3) hs (by omega)) ?_
      repeat refine e_s rfl ?_
      exact e_r rfl
  · refine ⟨-1, ?_, ?_⟩
    · unfold px_mt
      repeat refine e_s rfl ?_
      refine e_c rfl (r_signNo (d := d) (i := 3) a8 (by omega) (by decide)) (by omega) ?_
      exact e_r rfl
    · unfold px_mt
      repeat refine e_s rfl ?_
      refine e_c rfl (r_inI (D := d) (a := 0) (c := 15) (by decide) (by decide)) (by omega) ?_
      repeat refine e_s rfl ?_
      rw [a9]
      refine e_bt (nI_le (b := 3) (by omega) (by decide)) ?_
      repeat refine e_s rfl ?_
      exact e_r rfl
theorem o_cnt14 (h : Inv xs L so dr ds I n cc tc rl sg tp ca kd nb ta ua wa tz) : ∃ v, px_mt (d + 2) 130 [.ref 0, .int 14] I J (dR so dr) (dS L ds) n q (some (.int v), I, J, dR so dr, dS L ds, n, q) ∧ px_mt (d + 2) 231 [.ref 31, .int 14] I J (dR so dr) (dS L ds) n q (some (.int v), I, J, dR so dr, dS L ds, n, q) := by
  obtain ⟨h0, h1, h2, h3, h4, h5, h6, h7, h8, h9, h10, h11, h12⟩ := h
  obtain ⟨a1, a2, a3, a4, a5, a6, a7, a8, a9, a10, a11⟩ := h1
  by_cases hs : 4 < sg
  · refine ⟨I 37 4, ?_, ?_⟩
    · unfold px_mt
      repeat refine e_s rfl ?_
      refine e_c rfl (r_signAt (d := d) (i := 4) (sc := 2) (hs := 3) rfl a8 rfl rfl hs a10) (by omega) ?_
      rw [a11 4 (by decide)]
      exact e_r rfl
    · unfold px_mt
      repeat refine e_s rfl ?_
      refine e_c rfl (r_inI (D := d) (a := 0) (c := 15) (by decide) (by decide)) (by omega) ?_
      repeat refine e_s rfl ?_
      rw [a9]
      refine e_bf (nI_ge (a := 4) hs (by omega)) ?_
      repeat refine e_s rfl ?_
      exact e_r rfl
  · refine ⟨-1, ?_, ?_⟩
    · unfold px_mt
      repeat refine e_s rfl ?_
      refine e_c rfl (r_signNo (d := d) (i := 4) a8 (by omega) (by decide)) (by omega) ?_
      exact e_r rfl
    · unfold px_mt
      repeat refine e_s rfl ?_
      refine e_c rfl (r_inI (D := d) (a := 0) (c := 15) (by decide) (by decide)) (by omega) ?_
      repeat refine e_s rfl ?_
      rw [a9]
      refine e_bt (nI_le (b := 4) (by omega) (by decide)) ?_
      repeat refine e_s rfl ?_
      exact e_r rfl
theorem o_cnt15 (h : Inv xs L so dr ds I n cc tc rl sg tp ca kd nb ta ua wa tz) : ∃ v, px_mt (d + 2) 130 [.ref 0, .int 15] I J (dR so dr) (dS L ds) n q (some (.int v), I, J, dR so dr, dS L ds, n, q) ∧ px_mt (d + 2) 231 [.ref 31, .int 15] I J (dR so dr) (dS L ds) n q (some (.int v), I, J, dR so dr, dS L ds, n, q) := by
  obtain ⟨h0, h1, h2, h3, h4, h5, h6, h7, h8, h9, h10, h11, h12⟩ := h
  obtain ⟨a1, a2, a3, a4, a5, a6, a7, a8, a9, a10, a11⟩ := h1
  by_cases hs : 5 < sg
  · refine ⟨I 37 5, ?_, ?_⟩
    · unfold px_mt
      repeat refine e_s rfl ?_
      refine e_c rfl (r_signAt (d := d) (i := 5) (sc := 2) (hs := 3) rfl a8 rfl rfl hs a10) (by omega) ?_
      rw [a11 5 (by decide)]
      exact e_r rfl
    · unfold px_mt
      repeat refine e_s rfl ?_
      refine e_c rfl (r_inI (D := d) (a := 0) (c := 15) (by decide) (by decide)) (by omega) ?_
      repeat refine e_s rfl ?_
      rw [a9]
      refine e_bf (nI_ge (a := 5) hs (by omega)) ?_
      repeat refine e_s rfl ?_
      exact e_r rfl
  · refine ⟨-1, ?_, ?_⟩
    · unfold px_mt
      repeat refine e_s rfl ?_
      refine e_c rfl (r_signNo (d := d) (i := 5) a8 (by omega) (by decide)) (by omega) ?_
      exact e_r rfl
    · unfold px_mt
      repeat refine e_s rfl ?_
      refine e_c rfl (r_inI (D := d) (a := 0) (c := 15) (by decide) (by decide)) (by omega) ?_
      repeat refine e_s rfl ?_
      rw [a9]
      refine e_bt (nI_le (b := 5) (by omega) (by decide)) ?_
      repeat refine e_s rfl ?_
      exact e_r rfl
theorem o_count (h : Inv xs L so dr ds I n cc tc rl sg tp ca kd nb ta ua wa tz) : ∃ v, px_mt (d + 2) 130 [.ref 0, .int x] I J (dR so dr) (dS L ds) n q (some (.int v), I, J, dR so dr, dS L ds, n, q) ∧ px_mt (d + 2) 231 [.ref 31, .int x] I J (dR so dr) (dS L ds) n q (some (.int v), I, J, dR so dr, dS L ds, n, q) := by
  rcases ix_or (x := x) (k := 16) (by decide) with g | ⟨j, hj, e⟩
  · refine ⟨-2, ?_, ?_⟩
    · unfold px_mt
      repeat refine e_s rfl ?_
      refine e_pc (sw_out g (by decide) (by decide)) ?_
      repeat refine e_s rfl ?_
      exact e_r rfl
    · unfold px_mt
      repeat refine e_s rfl ?_
      refine e_c rfl (r_inI (D := d) (a := 0) (c := 15) (by decide) (by decide)) (by omega) ?_
      rw [show inI 0 15 x = false from (in_lt (a := nI 16) 15 (by decide) (by decide)).symm.trans (out_k g)]
      repeat refine e_s rfl ?_
      exact e_r rfl
  · match j, hj with
    | 0, _ => rw [show x = 0 from e]; exact o_cnt0 h
    | 1, _ => rw [show x = 1 from e]; exact o_cnt1 h
    | 2, _ => rw [show x = 2 from e]; exact o_cnt2 h
    | 3, _ => rw [show x = 3 from e]; exact o_cnt3 h
    | 4, _ => rw [show x = 4 from e]; exact o_cnt4 h
    | 5, _ => rw [show x = 5 from e]; exact o_cnt5 h
    | 6, _ => rw [show x = 6 from e]; exact o_cnt6 h
    | 7, _ => rw [show x = 7 from e]; exact o_cnt7 h
    | 8, _ => rw [show x = 8 from e]; exact o_cnt8 h
    | 9, _ => rw [show x = 9 from e]; exact o_cnt9 h
    | 10, _ => rw [show x = 10 from e]; exact o_cnt10 h
    | 11, _ => rw [show x = 11 from e]; exact o_cnt11 h
    | 12, _ => rw [show x = 12 from e]; exact o_cnt12 h
    | 13, _ => rw [show x = 13 from e]; exact o_cnt13 h
    | 14, _ => rw [show x = 14 from e]; exact o_cnt14 h
    | 15, _ => rw [show x = 15 from e]; exact o_cnt15 h
    | j + 16, hj => exact absurd hj (by omega)
theorem ov_0 : px_mt (d + 1) 237 [.int 0] I J (dR so dr) (dS L ds) n q (some (.int (-1)), I, J, dR so dr, dS L ds, n, q) := by
  unfold px_mt
  repeat refine e_s rfl ?_
  exact e_r rfl
theorem ov_4 : px_mt (d + 1) 237 [.int 4] I J (dR so dr) (dS L ds) n q (some (.int (2)), I, J, dR so dr, dS L ds, n, q) := by
  unfold px_mt
  repeat refine e_s rfl ?_
  exact e_r rfl
theorem ov_3 : px_mt (d + 1) 237 [.int 3] I J (dR so dr) (dS L ds) n q (some (.int (1)), I, J, dR so dr, dS L ds, n, q) := by
  unfold px_mt
  repeat refine e_s rfl ?_
  exact e_r rfl
theorem ov_5 : px_mt (d + 1) 237 [.int 5] I J (dR so dr) (dS L ds) n q (some (.int (1)), I, J, dR so dr, dS L ds, n, q) := by
  unfold px_mt
  repeat refine e_s rfl ?_
  exact e_r rfl
theorem ov_1 : px_mt (d + 1) 237 [.int 1] I J (dR so dr) (dS L ds) n q (some (.int (0)), I, J, dR so dr, dS L ds, n, q) := by
  unfold px_mt
  repeat refine e_s rfl ?_
  exact e_r rfl
theorem ov_2 : px_mt (d + 1) 237 [.int 2] I J (dR so dr) (dS L ds) n q (some (.int (0)), I, J, dR so dr, dS L ds, n, q) := by
  unfold px_mt
  repeat refine e_s rfl ?_
  exact e_r rfl
def und0 (kd : Nat) : Bool := match kd with
  | 0 => true
  | 1 => true
  | 2 => true
  | 3 => true
  | 4 => true
  | 5 => true
  | _ => false
theorem iu_0 {c kd0 : Nat} (hk : kd0 ≤ 5) (hS : dS L ds c = (cls kd0, 2)) : px_mt (d + 1) 140 [.ref c, .int 0] I J (dR so dr) (dS L ds) n q (some (.int (bI (und0 kd0))), I, J, dR so dr, dS L ds, n, q) := by
  match kd0, hk with
  | 0, _ =>
    unfold px_mt
    repeat refine e_s rfl ?_
    exact e_r rfl
  | 1, _ =>
    unfold px_mt
    repeat refine e_s rfl ?_
    exact e_r rfl
  | 2, _ =>
    unfold px_mt
    repeat refine e_s rfl ?_
    exact e_r rfl
  | 3, _ =>
    unfold px_mt
    repeat refine e_s rfl ?_
    exact e_r rfl
  | 4, _ =>
    unfold px_mt
    repeat refine e_s rfl ?_
    exact e_r rfl
  | 5, _ =>
    unfold px_mt
    repeat refine e_s rfl ?_
    exact e_r rfl
theorem tk_0 {i kd0 : Nat} {v0 : Int32} (hk : kd0 ≤ 5) (hi : i < 7) (hv : I 36 i = v0) : px_ev (d + 2) 236 33 [some (.ref 31), some (.int (nI i)), some (.int 0), some (.int (nI kd0))] [] I J (dR so dr) (dS L ds) n q (some (.int (cond (und0 kd0) v0 (-13))), I, J, dR so dr, dS L ds, n, q) := by
  match kd0, hk with
  | 0, _ =>
    repeat refine e_s rfl ?_
    refine e_ia rfl rfl rfl hi (by decide) ?_
    rw [hv]
    repeat refine e_s rfl ?_
    exact e_r rfl
  | 1, _ =>
    repeat refine e_s rfl ?_
    refine e_c rfl (ov_1 (d := d)) (by omega) ?_
    repeat refine e_s rfl ?_
    refine e_ia rfl rfl rfl hi (by decide) ?_
    rw [hv]
    repeat refine e_s rfl ?_
    exact e_r rfl
  | 2, _ =>
    repeat refine e_s rfl ?_
    refine e_c rfl (ov_2 (d := d)) (by omega) ?_
    repeat refine e_s rfl ?_
    refine e_ia rfl rfl rfl hi (by decide) ?_
    rw [hv]
    repeat refine e_s rfl ?_
    exact e_r rfl
  | 3, _ =>
    repeat refine e_s rfl ?_
    refine e_c rfl (ov_3 (d := d)) (by omega) ?_
    repeat refine e_s rfl ?_
    refine e_c rfl (ov_1 (d := d)) (by omega) ?_
    repeat refine e_s rfl ?_
    refine e_ia rfl rfl rfl hi (by decide) ?_
    rw [hv]
    repeat refine e_s rfl ?_
    exact e_r rfl
  | 4, _ =>
    repeat refine e_s rfl ?_
    refine e_c rfl (ov_4 (d := d)) (by omega) ?_
    repeat refine e_s rfl ?_
    refine e_c rfl (ov_2 (d := d)) (by omega) ?_
    repeat refine e_s rfl ?_
    refine e_ia rfl rfl rfl hi (by decide) ?_
    rw [hv]
    repeat refine e_s rfl ?_
    exact e_r rfl
  | 5, _ =>
    repeat refine e_s rfl ?_
    refine e_c rfl (ov_5 (d := d)) (by omega) ?_
    repeat refine e_s rfl ?_
    refine e_c rfl (ov_1 (d := d)) (by omega) ?_
    repeat refine e_s rfl ?_
    refine e_ia rfl rfl rfl hi (by decide) ?_
    rw [hv]
    repeat refine e_s rfl ?_
    exact e_r rfl
theorem o_tak0 (h : Inv xs L so dr ds I n cc tc rl sg tp ca kd nb ta ua wa tz) : ∃ v, px_mt (d + 3) 139 [.ref 0, .int x, .int 0] I J (dR so dr) (dS L ds) n q (some (.int v), I, J, dR so dr, dS L ds, n, q) ∧ px_mt (d + 3) 236 [.ref 31, .int x, .int 0] I J (dR so dr) (dS L ds) n q (some (.int v), I, J, dR so dr, dS L ds, n, q) := by
  have c7 := h.2.2.1.1
  rcases ix_or (x := x) (k := cc) (by omega) with g | ⟨i, hi, rfl⟩
  · refine ⟨-11, ?_, ?_⟩
    · unfold px_mt
      repeat refine e_s rfl ?_
      refine e_c rfl (r_below (d := d)) (by omega) ?_
      repeat refine e_s rfl ?_
      refine e_c rfl (r_callerNo (d := d) h.2.2.1 g) (by omega) ?_
      repeat refine e_s rfl ?_
      exact e_r rfl
    · unfold px_mt
      repeat refine e_s rfl ?_
      refine e_c rfl (r_inI (D := d) (a := 0) (c := 5) (by decide) (by decide)) (by omega) ?_
      repeat refine e_s rfl ?_
      refine e_c rfl (r_isOne (d := d) h.2.2.1.2.2.1 c7) (by omega) ?_
      rw [out_k g]
      repeat refine e_s rfl ?_
      exact e_r rfl
  · obtain ⟨g1, g2, g3, g4, g5, g6, g7, g8⟩ := h.2.2.1.2.2.2 i hi
    refine ⟨cond (und0 (kd i)) (nI (nb i)) (-13), ?_, ?_⟩
    · unfold px_mt
      repeat refine e_s rfl ?_
      refine e_c rfl (r_below (d := d)) (by omega) ?_
      repeat refine e_s rfl ?_
      refine e_c rfl (r_callerAt (d := d) h.2.2.1 hi) (by omega) ?_
      repeat refine e_s rfl ?_
      refine e_c rfl (iu_0 (d := d) g3 g2) (by omega) ?_
      cases und0 (kd i) with
      | false =>
        repeat refine e_s rfl ?_
        exact e_r rfl
      | true =>
        repeat refine e_s rfl ?_
        refine e_gi rfl g2 ?_ ?_
        · clear g2
          revert g3
          generalize kd i = k
          intro g3
          match k, g3 with
          | 0, _ => rfl
          | 1, _ => rfl
          | 2, _ => rfl
          | 3, _ => rfl
          | 4, _ => rfl
          | 5, _ => rfl
        rw [g6]
        repeat refine e_s rfl ?_
        exact e_r rfl
    · unfold px_mt
      repeat refine e_s rfl ?_
      refine e_c rfl (r_inI (D := d) (a := 0) (c := 5) (by decide) (by decide)) (by omega) ?_
      repeat refine e_s rfl ?_
      refine e_c rfl (r_isOne (d := d) h.2.2.1.2.2.1 c7) (by omega) ?_
      rw [in_k hi (by omega)]
      repeat refine e_s rfl ?_
      refine e_ia rfl rfl rfl (show i < 7 by omega) (by decide) ?_
      rw [g7]
      refine e_s rfl ?_
      exact tk_0 (d := d + 1) g3 (by omega) g8
def und1 (kd : Nat) : Bool := match kd with
  | 0 => false
  | 1 => true
  | 2 => false
  | 3 => true
  | 4 => false
  | 5 => true
  | _ => false
theorem iu_1 {c kd0 : Nat} (hk : kd0 ≤ 5) (hS : dS L ds c = (cls kd0, 2)) : px_mt (d + 1) 140 [.ref c, .int 1] I J (dR so dr) (dS L ds) n q (some (.int (bI (und1 kd0))), I, J, dR so dr, dS L ds, n, q) := by
  match kd0, hk with
  | 0, _ =>
    unfold px_mt
    repeat refine e_s rfl ?_
    refine e_in (z := 0) rfl hS rfl ?_
    exact e_r rfl
  | 1, _ =>
    unfold px_mt
    repeat refine e_s rfl ?_
    refine e_in (z := 1) rfl hS rfl ?_
    exact e_r rfl
  | 2, _ =>
    unfold px_mt
    repeat refine e_s rfl ?_
    refine e_in (z := 0) rfl hS rfl ?_
    exact e_r rfl
  | 3, _ =>
    unfold px_mt
    repeat refine e_s rfl ?_
    refine e_in (z := 1) rfl hS rfl ?_
    exact e_r rfl
  | 4, _ =>
    unfold px_mt
    repeat refine e_s rfl ?_
    refine e_in (z := 0) rfl hS rfl ?_
    exact e_r rfl
  | 5, _ =>
    unfold px_mt
    repeat refine e_s rfl ?_
    refine e_in (z := 1) rfl hS rfl ?_
    exact e_r rfl
theorem tk_1 {i kd0 : Nat} {v0 : Int32} (hk : kd0 ≤ 5) (hi : i < 7) (hv : I 36 i = v0) : px_ev (d + 2) 236 33 [some (.ref 31), some (.int (nI i)), some (.int 1), some (.int (nI kd0))] [] I J (dR so dr) (dS L ds) n q (some (.int (cond (und1 kd0) v0 (-13))), I, J, dR so dr, dS L ds, n, q) := by
  match kd0, hk with
  | 0, _ =>
    repeat refine e_s rfl ?_
    refine e_c rfl (ov_0 (d := d)) (by omega) ?_
    repeat refine e_s rfl ?_
    exact e_r rfl
  | 1, _ =>
    repeat refine e_s rfl ?_
    refine e_ia rfl rfl rfl hi (by decide) ?_
    rw [hv]
    repeat refine e_s rfl ?_
    exact e_r rfl
  | 2, _ =>
    repeat refine e_s rfl ?_
    refine e_c rfl (ov_2 (d := d)) (by omega) ?_
    repeat refine e_s rfl ?_
    refine e_c rfl (ov_0 (d := d)) (by omega) ?_
    repeat refine e_s rfl ?_
    exact e_r rfl
  | 3, _ =>
    repeat refine e_s rfl ?_
    refine e_c rfl (ov_3 (d := d)) (by omega) ?_
    repeat refine e_s rfl ?_
    refine e_ia rfl rfl rfl hi (by decide) ?_
    rw [hv]
    repeat refine e_s rfl ?_
    exact e_r rfl
  | 4, _ =>
    repeat refine e_s rfl ?_
    refine e_c rfl (ov_4 (d := d)) (by omega) ?_
    repeat refine e_s rfl ?_
    refine e_c rfl (ov_2 (d := d)) (by omega) ?_
    repeat refine e_s rfl ?_
    refine e_c rfl (ov_0 (d := d)) (by omega) ?_
    repeat refine e_s rfl ?_
    exact e_r rfl
  | 5, _ =>
    repeat refine e_s rfl ?_
    refine e_c rfl (ov_5 (d := d)) (by omega) ?_
    repeat refine e_s rfl ?_
    refine e_ia rfl rfl rfl hi (by decide) ?_
    rw [hv]
    repeat refine e_s rfl ?_
    exact e_r rfl
theorem o_tak1 (h : Inv xs L so dr ds I n cc tc rl sg tp ca kd nb ta ua wa tz) : ∃ v, px_mt (d + 3) 139 [.ref 0, .int x, .int 1] I J (dR so dr) (dS L ds) n q (some (.int v), I, J, dR so dr, dS L ds, n, q) ∧ px_mt (d + 3) 236 [.ref 31, .int x, .int 1] I J (dR so dr) (dS L ds) n q (some (.int v), I, J, dR so dr, dS L ds, n, q) := by
  have c7 := h.2.2.1.1
  rcases ix_or (x := x) (k := cc) (by omega) with g | ⟨i, hi, rfl⟩
  · refine ⟨-11, ?_, ?_⟩
    · unfold px_mt
      repeat refine e_s rfl ?_
      refine e_c rfl (r_below (d := d)) (by omega) ?_
      repeat refine e_s rfl ?_
      refine e_c rfl (r_callerNo (d := d) h.2.2.1 g) (by omega) ?_
      repeat refine e_s rfl ?_
      exact e_r rfl
    · unfold px_mt
      repeat refine e_s rfl ?_
      refine e_c rfl (r_inI (D := d) (a := 0) (c := 5) (by decide) (by decide)) (by omega) ?_
      repeat refine e_s rfl ?_
      refine e_c rfl (r_isOne (d := d) h.2.2.1.2.2.1 c7) (by omega) ?_
      rw [out_k g]
      repeat refine e_s rfl ?_
      exact e_r rfl
  · obtain ⟨g1, g2, g3, g4, g5, g6, g7, g8⟩ := h.2.2.1.2.2.2 i hi
    refine ⟨cond (und1 (kd i)) (nI (nb i)) (-13), ?_, ?_⟩
    · unfold px_mt
      repeat refine e_s rfl ?_
      refine e_c rfl (r_below (d := d)) (by omega) ?_
      repeat refine e_s rfl ?_
      refine e_c rfl (r_callerAt (d := d) h.2.2.1 hi) (by omega) ?_
      repeat refine e_s rfl ?_
      refine e_c rfl (iu_1 (d := d) g3 g2) (by omega) ?_
      cases und1 (kd i) with
      | false =>
        repeat refine e_s rfl ?_
        exact e_r rfl
      | true =>
        repeat refine e_s rfl ?_
        refine e_gi rfl g2 ?_ ?_
        · clear g2
          revert g3
          generalize kd i = k
          intro g3
          match k, g3 with
          | 0, _ => rfl
          | 1, _ => rfl
          | 2, _ => rfl
          | 3, _ => rfl
          | 4, _ => rfl
          | 5, _ => rfl
        rw [g6]
        repeat refine e_s rfl ?_
        exact e_r rfl
    · unfold px_mt
      repeat refine e_s rfl ?_
      refine e_c rfl (r_inI (D := d) (a := 0) (c := 5) (by decide) (by decide)) (by omega) ?_
      repeat refine e_s rfl ?_
      refine e_c rfl (r_isOne (d := d) h.2.2.1.2.2.1 c7) (by omega) ?_
      rw [in_k hi (by omega)]
      repeat refine e_s rfl ?_
      refine e_ia rfl rfl rfl (show i < 7 by omega) (by decide) ?_
      rw [g7]
      refine e_s rfl ?_
      exact tk_1 (d := d + 1) g3 (by omega) g8
def und2 (kd : Nat) : Bool := match kd with
  | 0 => false
  | 1 => false
  | 2 => true
  | 3 => false
  | 4 => true
  | 5 => false
  | _ => false
theorem iu_2 {c kd0 : Nat} (hk : kd0 ≤ 5) (hS : dS L ds c = (cls kd0, 2)) : px_mt (d + 1) 140 [.ref c, .int 2] I J (dR so dr) (dS L ds) n q (some (.int (bI (und2 kd0))), I, J, dR so dr, dS L ds, n, q) := by
  match kd0, hk with
  | 0, _ =>
    unfold px_mt
    repeat refine e_s rfl ?_
    refine e_in (z := 0) rfl hS rfl ?_
    exact e_r rfl
  | 1, _ =>
    unfold px_mt
    repeat refine e_s rfl ?_
    refine e_in (z := 0) rfl hS rfl ?_
    exact e_r rfl
  | 2, _ =>
    unfold px_mt
    repeat refine e_s rfl ?_
    refine e_in (z := 1) rfl hS rfl ?_
    exact e_r rfl
  | 3, _ =>
    unfold px_mt
    repeat refine e_s rfl ?_
    refine e_in (z := 0) rfl hS rfl ?_
    exact e_r rfl
  | 4, _ =>
    unfold px_mt
    repeat refine e_s rfl ?_
    refine e_in (z := 1) rfl hS rfl ?_
    exact e_r rfl
  | 5, _ =>
    unfold px_mt
    repeat refine e_s rfl ?_
    refine e_in (z := 0) rfl hS rfl ?_
    exact e_r rfl
theorem tk_2 {i kd0 : Nat} {v0 : Int32} (hk : kd0 ≤ 5) (hi : i < 7) (hv : I 36 i = v0) : px_ev (d + 2) 236 33 [some (.ref 31), some (.int (nI i)), some (.int 2), some (.int (nI kd0))] [] I J (dR so dr) (dS L ds) n q (some (.int (cond (und2 kd0) v0 (-13))), I, J, dR so dr, dS L ds, n, q) := by
  match kd0, hk with
  | 0, _ =>
    repeat refine e_s rfl ?_
    refine e_c rfl (ov_0 (d := d)) (by omega) ?_
    repeat refine e_s rfl ?_
    exact e_r rfl
  | 1, _ =>
    repeat refine e_s rfl ?_
    refine e_c rfl (ov_1 (d := d)) (by omega) ?_
    repeat refine e_s rfl ?_
    refine e_c rfl (ov_0 (d := d)) (by omega) ?_
    repeat refine e_s rfl ?_
    exact e_r rfl
  | 2, _ =>
    repeat refine e_s rfl ?_
    refine e_ia rfl rfl rfl hi (by decide) ?_
    rw [hv]
    repeat refine e_s rfl ?_
    exact e_r rfl
  | 3, _ =>
    repeat refine e_s rfl ?_
    refine e_c rfl (ov_3 (d := d)) (by omega) ?_
    repeat refine e_s rfl ?_
    refine e_c rfl (ov_1 (d := d)) (by omega) ?_
    repeat refine e_s rfl ?_
    refine e_c rfl (ov_0 (d := d)) (by omega) ?_
    repeat refine e_s rfl ?_
    exact e_r rfl
  | 4, _ =>
    repeat refine e_s rfl ?_
    refine e_c rfl (ov_4 (d := d)) (by omega) ?_
    repeat refine e_s rfl ?_
    refine e_ia rfl rfl rfl hi (by decide) ?_
    rw [hv]
    repeat refine e_s rfl ?_
    exact e_r rfl
  | 5, _ =>
    repeat refine e_s rfl ?_
    refine e_c rfl (ov_5 (d := d)) (by omega) ?_
    repeat refine e_s rfl ?_
    refine e_c rfl (ov_1 (d := d)) (by omega) ?_
    repeat refine e_s rfl ?_
    refine e_c rfl (ov_0 (d := d)) (by omega) ?_
    repeat refine e_s rfl ?_
    exact e_r rfl
theorem o_tak2 (h : Inv xs L so dr ds I n cc tc rl sg tp ca kd nb ta ua wa tz) : ∃ v, px_mt (d + 3) 139 [.ref 0, .int x, .int 2] I J (dR so dr) (dS L ds) n q (some (.int v), I, J, dR so dr, dS L ds, n, q) ∧ px_mt (d + 3) 236 [.ref 31, .int x, .int 2] I J (dR so dr) (dS L ds) n q (some (.int v), I, J, dR so dr, dS L ds, n, q) := by
  have c7 := h.2.2.1.1
  rcases ix_or (x := x) (k := cc) (by omega) with g | ⟨i, hi, rfl⟩
  · refine ⟨-11, ?_, ?_⟩
    · unfold px_mt
      repeat refine e_s rfl ?_
      refine e_c rfl (r_below (d := d)) (by omega) ?_
      repeat refine e_s rfl ?_
      refine e_c rfl (r_callerNo (d := d) h.2.2.1 g) (by omega) ?_
      repeat refine e_s rfl ?_
      exact e_r rfl
    · unfold px_mt
      repeat refine e_s rfl ?_
      refine e_c rfl (r_inI (D := d) (a := 0) (c := 5) (by decide) (by decide)) (by omega) ?_
      repeat refine e_s rfl ?_
      refine e_c rfl (r_isOne (d := d) h.2.2.1.2.2.1 c7) (by omega) ?_
      rw [out_k g]
      repeat refine e_s rfl ?_
      exact e_r rfl
  · obtain ⟨g1, g2, g3, g4, g5, g6, g7, g8⟩ := h.2.2.1.2.2.2 i hi
    refine ⟨cond (und2 (kd i)) (nI (nb i)) (-13), ?_, ?_⟩
    · unfold px_mt
      repeat refine e_s rfl ?_
      refine e_c rfl (r_below (d := d)) (by omega) ?_
      repeat refine e_s rfl ?_
      refine e_c rfl (r_callerAt (d := d) h.2.2.1 hi) (by omega) ?_
      repeat refine e_s rfl ?_
      refine e_c rfl (iu_2 (d := d) g3 g2) (by omega) ?_
      cases und2 (kd i) with
      | false =>
        repeat refine e_s rfl ?_
        exact e_r rfl
      | true =>
        repeat refine e_s rfl ?_
        refine e_gi rfl g2 ?_ ?_
        · clear g2
          revert g3
          generalize kd i = k
          intro g3
          match k, g3 with
          | 0, _ => rfl
          | 1, _ => rfl
          | 2, _ => rfl
          | 3, _ => rfl
          | 4, _ => rfl
          | 5, _ => rfl
        rw [g6]
        repeat refine e_s rfl ?_
        exact e_r rfl
    · unfold px_mt
      repeat refine e_s rfl ?_
      refine e_c rfl (r_inI (D := d) (a := 0) (c := 5) (by decide) (by decide)) (by omega) ?_
      repeat refine e_s rfl ?_
      refine e_c rfl (r_isOne (d := d) h.2.2.1.2.2.1 c7) (by omega) ?_
      rw [in_k hi (by omega)]
      repeat refine e_s rfl ?_
      refine e_ia rfl rfl rfl (show i < 7 by omega) (by decide) ?_
      rw [g7]
      refine e_s rfl ?_
      exact tk_2 (d := d + 1) g3 (by omega) g8
def und3 (kd : Nat) : Bool := match kd with
  | 0 => false
  | 1 => false
  | 2 => false
  | 3 => true
  | 4 => false
  | 5 => false
  | _ => false
theorem iu_3 {c kd0 : Nat} (hk : kd0 ≤ 5) (hS : dS L ds c = (cls kd0, 2)) : px_mt (d + 1) 140 [.ref c, .int 3] I J (dR so dr) (dS L ds) n q (some (.int (bI (und3 kd0))), I, J, dR so dr, dS L ds, n, q) := by
  match kd0, hk with
  | 0, _ =>
    unfold px_mt
    repeat refine e_s rfl ?_
    refine e_in (z := 0) rfl hS rfl ?_
    exact e_r rfl
  | 1, _ =>
    unfold px_mt
    repeat refine e_s rfl ?_
    refine e_in (z := 0) rfl hS rfl ?_
    exact e_r rfl
  | 2, _ =>
    unfold px_mt
    repeat refine e_s rfl ?_
    refine e_in (z := 0) rfl hS rfl ?_
    exact e_r rfl
  | 3, _ =>
    unfold px_mt
    repeat refine e_s rfl ?_
    refine e_in (z := 1) rfl hS rfl ?_
    exact e_r rfl
  | 4, _ =>
    unfold px_mt
    repeat refine e_s rfl ?_
    refine e_in (z := 0) rfl hS rfl ?_
    exact e_r rfl
  | 5, _ =>
    unfold px_mt
    repeat refine e_s rfl ?_
    refine e_in (z := 0) rfl hS rfl ?_
    exact e_r rfl
theorem tk_3 {i kd0 : Nat} {v0 : Int32} (hk : kd0 ≤ 5) (hi : i < 7) (hv : I 36 i = v0) : px_ev (d + 2) 236 33 [some (.ref 31), some (.int (nI i)), some (.int 3), some (.int (nI kd0))] [] I J (dR so dr) (dS L ds) n q (some (.int (cond (und3 kd0) v0 (-13))), I, J, dR so dr, dS L ds, n, q) := by
  match kd0, hk with
  | 0, _ =>
    repeat refine e_s rfl ?_
    refine e_c rfl (ov_0 (d := d)) (by omega) ?_
    repeat refine e_s rfl ?_
    exact e_r rfl
  | 1, _ =>
    repeat refine e_s rfl ?_
    refine e_c rfl (ov_1 (d := d)) (by omega) ?_
    repeat refine e_s rfl ?_
    refine e_c rfl (ov_0 (d := d)) (by omega) ?_
    repeat refine e_s rfl ?_
    exact e_r rfl
  | 2, _ =>
    repeat refine e_s rfl ?_
    refine e_c rfl (ov_2 (d := d)) (by omega) ?_
    repeat refine e_s rfl ?_
    refine e_c rfl (ov_0 (d := d)) (by omega) ?_
    repeat refine e_s rfl ?_
    exact e_r rfl
  | 3, _ =>
    repeat refine e_s rfl ?_
    refine e_ia rfl rfl rfl hi (by decide) ?_
    rw [hv]
    repeat refine e_s rfl ?_
    exact e_r rfl
  | 4, _ =>
    repeat refine e_s rfl ?_
    refine e_c rfl (ov_4 (d := d)) (by omega) ?_
    repeat refine e_s rfl ?_
    refine e_c rfl (ov_2 (d := d)) (by omega) ?_
    repeat refine e_s rfl ?_
    refine e_c rfl (ov_0 (d := d)) (by omega) ?_
    repeat refine e_s rfl ?_
    exact e_r rfl
  | 5, _ =>
    repeat refine e_s rfl ?_
    refine e_c rfl (ov_5 (d := d)) (by omega) ?_
    repeat refine e_s rfl ?_
    refine e_c rfl (ov_1 (d := d)) (by omega) ?_
    repeat refine e_s rfl ?_
    refine e_c rfl (ov_0 (d := d)) (by omega) ?_
    repeat refine e_s rfl ?_
    exact e_r rfl
theorem o_tak3 (h : Inv xs L so dr ds I n cc tc rl sg tp ca kd nb ta ua wa tz) : ∃ v, px_mt (d + 3) 139 [.ref 0, .int x, .int 3] I J (dR so dr) (dS L ds) n q (some (.int v), I, J, dR so dr, dS L ds, n, q) ∧ px_mt (d + 3) 236 [.ref 31, .int x, .int 3] I J (dR so dr) (dS L ds) n q (some (.int v), I, J, dR so dr, dS L ds, n, q) := by
  have c7 := h.2.2.1.1
  rcases ix_or (x := x) (k := cc) (by omega) with g | ⟨i, hi, rfl⟩
  · refine ⟨-11, ?_, ?_⟩
    · unfold px_mt
      repeat refine e_s rfl ?_
      refine e_c rfl (r_below (d := d)) (by omega) ?_
      repeat refine e_s rfl ?_
      refine e_c rfl (r_callerNo (d := d) h.2.2.1 g) (by omega) ?_
      repeat refine e_s rfl ?_
      exact e_r rfl
    · unfold px_mt
      repeat refine e_s rfl ?_
      refine e_c rfl (r_inI (D := d) (a := 0) (c := 5) (by decide) (by decide)) (by omega) ?_
      repeat refine e_s rfl ?_
      refine e_c rfl (r_isOne (d := d) h.2.2.1.2.2.1 c7) (by omega) ?_
      rw [out_k g]
      repeat refine e_s rfl ?_
      exact e_r rfl
  · obtain ⟨g1, g2, g3, g4, g5, g6, g7, g8⟩ := h.2.2.1.2.2.2 i hi
    refine ⟨cond (und3 (kd i)) (nI (nb i)) (-13), ?_, ?_⟩
    · unfold px_mt
      repeat refine e_s rfl ?_
      refine e_c rfl (r_below (d := d)) (by omega) ?_
      repeat refine e_s rfl ?_
      refine e_c rfl (r_callerAt (d := d) h.2.2.1 hi) (by omega) ?_
      repeat refine e_s rfl ?_
      refine e_c rfl (iu_3 (d := d) g3 g2) (by omega) ?_
      cases und3 (kd i) with
      | false =>
        repeat refine e_s rfl ?_
        exact e_r rfl
      | true =>
        repeat refine e_s rfl ?_
        refine e_gi rfl g2 ?_ ?_
        · clear g2
          revert g3
          generalize kd i = k
          intro g3
          match k, g3 with
          | 0, _ => rfl
          | 1, _ => rfl
          | 2, _ => rfl
          | 3, _ => rfl
          | 4, _ => rfl
          | 5, _ => rfl
        rw [g6]
        repeat refine e_s rfl ?_
        exact e_r rfl
    · unfold px_mt
      repeat refine e_s rfl ?_
      refine e_c rfl (r_inI (D := d) (a := 0) (c := 5) (by decide) (by decide)) (by omega) ?_
      repeat refine e_s rfl ?_
      refine e_c rfl (r_isOne (d := d) h.2.2.1.2.2.1 c7) (by omega) ?_
      rw [in_k hi (by omega)]
      repeat refine e_s rfl ?_
      refine e_ia rfl rfl rfl (show i < 7 by omega) (by decide) ?_
      rw [g7]
      refine e_s rfl ?_
      exact tk_3 (d := d + 1) g3 (by omega) g8
def und4 (kd : Nat) : Bool := match kd with
  | 0 => false
  | 1 => false
  | 2 => false
  | 3 => false
  | 4 => true
  | 5 => false
  | _ => false
theorem iu_4 {c kd0 : Nat} (hk : kd0 ≤ 5) (hS : dS L ds c = (cls kd0, 2)) : px_mt (d + 1) 140 [.ref c, .int 4] I J (dR so dr) (dS L ds) n q (some (.int (bI (und4 kd0))), I, J, dR so dr, dS L ds, n, q) := by
  match kd0, hk with
  | 0, _ =>
    unfold px_mt
    repeat refine e_s rfl ?_
    refine e_in (z := 0) rfl hS rfl ?_
    exact e_r rfl
  | 1, _ =>
    unfold px_mt
    repeat refine e_s rfl ?_
    refine e_in (z := 0) rfl hS rfl ?_
    exact e_r rfl
  | 2, _ =>
    unfold px_mt
    repeat refine e_s rfl ?_
    refine e_in (z := 0) rfl hS rfl ?_
    exact e_r rfl
  | 3, _ =>
    unfold px_mt
    repeat refine e_s rfl ?_
    refine e_in (z := 0) rfl hS rfl ?_
    exact e_r rfl
  | 4, _ =>
    unfold px_mt
    repeat refine e_s rfl ?_
    refine e_in (z := 1) rfl hS rfl ?_
    exact e_r rfl
  | 5, _ =>
    unfold px_mt
    repeat refine e_s rfl ?_
    refine e_in (z := 0) rfl hS rfl ?_
    exact e_r rfl
theorem tk_4 {i kd0 : Nat} {v0 : Int32} (hk : kd0 ≤ 5) (hi : i < 7) (hv : I 36 i = v0) : px_ev (d + 2) 236 33 [some (.ref 31), some (.int (nI i)), some (.int 4), some (.int (nI kd0))] [] I J (dR so dr) (dS L ds) n q (some (.int (cond (und4 kd0) v0 (-13))), I, J, dR so dr, dS L ds, n, q) := by
  match kd0, hk with
  | 0, _ =>
    repeat refine e_s rfl ?_
    refine e_c rfl (ov_0 (d := d)) (by omega) ?_
    repeat refine e_s rfl ?_
    exact e_r rfl
  | 1, _ =>
    repeat refine e_s rfl ?_
    refine e_c rfl (ov_1 (d := d)) (by omega) ?_
    repeat refine e_s rfl ?_
    refine e_c rfl (ov_0 (d := d)) (by omega) ?_
    repeat refine e_s rfl ?_
    exact e_r rfl
  | 2, _ =>
    repeat refine e_s rfl ?_
    refine e_c rfl (ov_2 (d := d)) (by omega) ?_
    repeat refine e_s rfl ?_
    refine e_c rfl (ov_0 (d := d)) (by omega) ?_
    repeat refine e_s rfl ?_
    exact e_r rfl
  | 3, _ =>
    repeat refine e_s rfl ?_
    refine e_c rfl (ov_3 (d := d)) (by omega) ?_
    repeat refine e_s rfl ?_
    refine e_c rfl (ov_1 (d := d)) (by omega) ?_
    repeat refine e_s rfl ?_
    refine e_c rfl (ov_0 (d := d)) (by omega) ?_
    repeat refine e_s rfl ?_
    exact e_r rfl
  | 4, _ =>
    repeat refine e_s rfl ?_
    refine e_ia rfl rfl rfl hi (by decide) ?_
    rw [hv]
    repeat refine e_s rfl ?_
    exact e_r rfl
  | 5, _ =>
    repeat refine e_s rfl ?_
    refine e_c rfl (ov_5 (d := d)) (by omega) ?_
    repeat refine e_s rfl ?_
    refine e_c rfl (ov_1 (d := d)) (by omega) ?_
    repeat refine e_s rfl ?_
    refine e_c rfl (ov_0 (d := d)) (by omega) ?_
    repeat refine e_s rfl ?_
    exact e_r rfl
theorem o_tak4 (h : Inv xs L so dr ds I n cc tc rl sg tp ca kd nb ta ua wa tz) : ∃ v, px_mt (d + 3) 139 [.ref 0, .int x, .int 4] I J (dR so dr) (dS L ds) n q (some (.int v), I, J, dR so dr, dS L ds, n, q) ∧ px_mt (d + 3) 236 [.ref 31, .int x, .int 4] I J (dR so dr) (dS L ds) n q (some (.int v), I, J, dR so dr, dS L ds, n, q) := by
  have c7 := h.2.2.1.1
  rcases ix_or (x := x) (k := cc) (by omega) with g | ⟨i, hi, rfl⟩
  · refine ⟨-11, ?_, ?_⟩
    · unfold px_mt
      repeat refine e_s rfl ?_
      refine e_c rfl (r_below (d := d)) (by omega) ?_
      repeat refine e_s rfl ?_
      refine e_c rfl (r_callerNo (d := d) h.2.2.1 g) (by omega) ?_
      repeat refine e_s rfl ?_
      exact e_r rfl
    · unfold px_mt
      repeat refine e_s rfl ?_
      refine e_c rfl (r_inI (D := d) (a := 0) (c := 5) (by decide) (by decide)) (by omega) ?_
      repeat refine e_s rfl ?_
      refine e_c rfl (r_isOne (d := d) h.2.2.1.2.2.1 c7) (by omega) ?_
      rw [out_k g]
      repeat refine e_s rfl ?_
      exact e_r rfl
  · obtain ⟨g1, g2, g3, g4, g5, g6, g7, g8⟩ := h.2.2.1.2.2.2 i hi
    refine ⟨cond (und4 (kd i)) (nI (nb i)) (-13), ?_, ?_⟩
    · unfold px_mt
      repeat refine e_s rfl ?_
      refine e_c rfl (r_below (d := d)) (by omega) ?_
      repeat refine e_s rfl ?_
      refine e_c rfl (r_callerAt (d := d) h.2.2.1 hi) (by omega) ?_
      repeat refine e_s rfl ?_
      refine e_c rfl (iu_4 (d := d) g3 g2) (by omega) ?_
      cases und4 (kd i) with
      | false =>
        repeat refine e_s rfl ?_
        exact e_r rfl
      | true =>
        repeat refine e_s rfl ?_
        refine e_gi rfl g2 ?_ ?_
        · clear g2
          revert g3
          generalize kd i = k
          intro g3
          match k, g3 with
          | 0, _ => rfl
          | 1, _ => rfl
          | 2, _ => rfl
          | 3, _ => rfl
          | 4, _ => rfl
          | 5, _ => rfl
        rw [g6]
        repeat refine e_s rfl ?_
        exact e_r rfl
    · unfold px_mt
      repeat refine e_s rfl ?_
      refine e_c rfl (r_inI (D := d) (a := 0) (c := 5) (by decide) (by decide)) (by omega) ?_
      repeat refine e_s rfl ?_
      refine e_c rfl (r_isOne (d := d) h.2.2.1.2.2.1 c7) (by omega) ?_
      rw [in_k hi (by omega)]
      repeat refine e_s rfl ?_
      refine e_ia rfl rfl rfl (show i < 7 by omega) (by decide) ?_
      rw [g7]
      refine e_s rfl ?_
      exact tk_4 (d := d + 1) g3 (by omega) g8
def und5 (kd : Nat) : Bool := match kd with
  | 0 => false
  | 1 => false
  | 2 => false
  | 3 => false
  | 4 => false
  | 5 => true
  | _ => false
theorem iu_5 {c kd0 : Nat} (hk : kd0 ≤ 5) (hS : dS L ds c = (cls kd0, 2)) : px_mt (d + 1) 140 [.ref c, .int 5] I J (dR so dr) (dS L ds) n q (some (.int (bI (und5 kd0))), I, J, dR so dr, dS L ds, n, q) := by
  match kd0, hk with
  | 0, _ =>
    unfold px_mt
    repeat refine e_s rfl ?_
    refine e_in (z := 0) rfl hS rfl ?_
    exact e_r rfl
  | 1, _ =>
    unfold px_mt
    repeat refine e_s rfl ?_
    refine e_in (z := 0) rfl hS rfl ?_
    exact e_r rfl
  | 2, _ =>
    unfold px_mt
    repeat refine e_s rfl ?_
    refine e_in (z := 0) rfl hS rfl ?_
    exact e_r rfl
  | 3, _ =>
    unfold px_mt
    repeat refine e_s rfl ?_
    refine e_in (z := 0) rfl hS rfl ?_
    exact e_r rfl
  | 4, _ =>
    unfold px_mt
    repeat refine e_s rfl ?_
    refine e_in (z := 0) rfl hS rfl ?_
    exact e_r rfl
  | 5, _ =>
    unfold px_mt
    repeat refine e_s rfl ?_
    refine e_in (z := 1) rfl hS rfl ?_
    exact e_r rfl
theorem tk_5 {i kd0 : Nat} {v0 : Int32} (hk : kd0 ≤ 5) (hi : i < 7) (hv : I 36 i = v0) : px_ev (d + 2) 236 33 [some (.ref 31), some (.int (nI i)), some (.int 5), some (.int (nI kd0))] [] I J (dR so dr) (dS L ds) n q (some (.int (cond (und5 kd0) v0 (-13))), I, J, dR so dr, dS L ds, n, q) := by
  match kd0, hk with
  | 0, _ =>
    repeat refine e_s rfl ?_
    refine e_c rfl (ov_0 (d := d)) (by omega) ?_
    repeat refine e_s rfl ?_
    exact e_r rfl
  | 1, _ =>
    repeat refine e_s rfl ?_
    refine e_c rfl (ov_1 (d := d)) (by omega) ?_
    repeat refine e_s rfl ?_
    refine e_c rfl (ov_0 (d := d)) (by omega) ?_
    repeat refine e_s rfl ?_
    exact e_r rfl
  | 2, _ =>
    repeat refine e_s rfl ?_
    refine e_c rfl (ov_2 (d := d)) (by omega) ?_
    repeat refine e_s rfl ?_
    refine e_c rfl (ov_0 (d := d)) (by omega) ?_
    repeat refine e_s rfl ?_
    exact e_r rfl
  | 3, _ =>
    repeat refine e_s rfl ?_
    refine e_c rfl (ov_3 (d := d)) (by omega) ?_
    repeat refine e_s rfl ?_
    refine e_c rfl (ov_1 (d := d)) (by omega) ?_
    repeat refine e_s rfl ?_
    refine e_c rfl (ov_0 (d := d)) (by omega) ?_
    repeat refine e_s rfl ?_
    exact e_r rfl
  | 4, _ =>
    repeat refine e_s rfl ?_
    refine e_c rfl (ov_4 (d := d)) (by omega) ?_
    repeat refine e_s rfl ?_
    refine e_c rfl (ov_2 (d := d)) (by omega) ?_
    repeat refine e_s rfl ?_
    refine e_c rfl (ov_0 (d := d)) (by omega) ?_
    repeat refine e_s rfl ?_
    exact e_r rfl
  | 5, _ =>
    repeat refine e_s rfl ?_
    refine e_ia rfl rfl rfl hi (by decide) ?_
    rw [hv]
    repeat refine e_s rfl ?_
    exact e_r rfl
theorem o_tak5 (h : Inv xs L so dr ds I n cc tc rl sg tp ca kd nb ta ua wa tz) : ∃ v, px_mt (d + 3) 139 [.ref 0, .int x, .int 5] I J (dR so dr) (dS L ds) n q (some (.int v), I, J, dR so dr, dS L ds, n, q) ∧ px_mt (d + 3) 236 [.ref 31, .int x, .int 5] I J (dR so dr) (dS L ds) n q (some (.int v), I, J, dR so dr, dS L ds, n, q) := by
  have c7 := h.2.2.1.1
  rcases ix_or (x := x) (k := cc) (by omega) with g | ⟨i, hi, rfl⟩
  · refine ⟨-11, ?_, ?_⟩
    · unfold px_mt
      repeat refine e_s rfl ?_
      refine e_c rfl (r_below (d := d)) (by omega) ?_
      repeat refine e_s rfl ?_
      refine e_c rfl (r_callerNo (d := d) h.2.2.1 g) (by omega) ?_
      repeat refine e_s rfl ?_
      exact e_r rfl
    · unfold px_mt
      repeat refine e_s rfl ?_
      refine e_c rfl (r_inI (D := d) (a := 0) (c := 5) (by decide) (by decide)) (by omega) ?_
      repeat refine e_s rfl ?_
      refine e_c rfl (r_isOne (d := d) h.2.2.1.2.2.1 c7) (by omega) ?_
      rw [out_k g]
      repeat refine e_s rfl ?_
      exact e_r rfl
  · obtain ⟨g1, g2, g3, g4, g5, g6, g7, g8⟩ := h.2.2.1.2.2.2 i hi
    refine ⟨cond (und5 (kd i)) (nI (nb i)) (-13), ?_, ?_⟩
    · unfold px_mt
      repeat refine e_s rfl ?_
      refine e_c rfl (r_below (d := d)) (by omega) ?_
      repeat refine e_s rfl ?_
      refine e_c rfl (r_callerAt (d := d) h.2.2.1 hi) (by omega) ?_
      repeat refine e_s rfl ?_
      refine e_c rfl (iu_5 (d := d) g3 g2) (by omega) ?_
      cases und5 (kd i) with
      | false =>
        repeat refine e_s rfl ?_
        exact e_r rfl
      | true =>
        repeat refine e_s rfl ?_
        refine e_gi rfl g2 ?_ ?_
        · clear g2
          revert g3
          generalize kd i = k
          intro g3
          match k, g3 with
          | 0, _ => rfl
          | 1, _ => rfl
          | 2, _ => rfl
          | 3, _ => rfl
          | 4, _ => rfl
          | 5, _ => rfl
        rw [g6]
        repeat refine e_s rfl ?_
        exact e_r rfl
    · unfold px_mt
      repeat refine e_s rfl ?_
      refine e_c rfl (r_inI (D := d) (a := 0) (c := 5) (by decide) (by decide)) (by omega) ?_
      repeat refine e_s rfl ?_
      refine e_c rfl (r_isOne (d := d) h.2.2.1.2.2.1 c7) (by omega) ?_
      rw [in_k hi (by omega)]
      repeat refine e_s rfl ?_
      refine e_ia rfl rfl rfl (show i < 7 by omega) (by decide) ?_
      rw [g7]
      refine e_s rfl ?_
      exact tk_5 (d := d + 1) g3 (by omega) g8
theorem o_taken (h : Inv xs L so dr ds I n cc tc rl sg tp ca kd nb ta ua wa tz) : ∃ v, px_mt (d + 3) 139 [.ref 0, .int x, .int y] I J (dR so dr) (dS L ds) n q (some (.int v), I, J, dR so dr, dS L ds, n, q) ∧ px_mt (d + 3) 236 [.ref 31, .int x, .int y] I J (dR so dr) (dS L ds) n q (some (.int v), I, J, dR so dr, dS L ds, n, q) := by
  rcases ix_or (x := y) (k := 6) (by decide) with g | ⟨j, hj, e⟩
  · refine ⟨-2, ?_, ?_⟩
    · unfold px_mt
      repeat refine e_s rfl ?_
      refine e_c rfl (r_below (d := d)) (by omega) ?_
      rw [show decide (0 ≤ y ∧ y < 6) = false from out_k g]
      repeat refine e_s rfl ?_
      exact e_r rfl
    · unfold px_mt
      repeat refine e_s rfl ?_
      refine e_c rfl (r_inI (D := d) (a := 0) (c := 5) (by decide) (by decide)) (by omega) ?_
      rw [show inI 0 5 y = false from (in_lt (a := nI 6) 5 (by decide) (by decide)).symm.trans (out_k g)]
      repeat refine e_s rfl ?_
      exact e_r rfl
  · match j, hj with
    | 0, _ => rw [show y = 0 from e]; exact o_tak0 h
    | 1, _ => rw [show y = 1 from e]; exact o_tak1 h
    | 2, _ => rw [show y = 2 from e]; exact o_tak2 h
    | 3, _ => rw [show y = 3 from e]; exact o_tak3 h
    | 4, _ => rw [show y = 4 from e]; exact o_tak4 h
    | 5, _ => rw [show y = 5 from e]; exact o_tak5 h
end PXO1
