/-! cell, on both sides -/
section PXCE
variable {d D n q L cc tc rl sg tp s : Nat} {so : Option Nat} {dr : px_HR} {ds : px_HS} {I I0 : px_HI} {J : px_HJ} {xs : Nat → Int32} {ca kd nb ta ua wa tz : Nat → Nat} {x y z v : Int32}
theorem r_shPut0 {k m : Nat} (hs : s < 4) (hz : I (20 + 2 * s) 2 = nI m) (hu : I (20 + 2 * s) 1 = 0) (hk : k < m) (h40 : m ≤ 40) : px_mt (d + 1) 135 [.ref (20 + 2 * s), .int (nI k), .int z] I J (dR so dr) (dS L ds) n q (none, px_u I (21 + 2 * s) k (z.toInt8.toInt32), J, dR so dr, dS L ds, n, q) := by
  obtain ⟨s1, s2, s3, s4⟩ := sh_S (ds := ds) (L := L) (so := so) (dr := dr) hs
  unfold px_mt
  refine e_s rfl ?_
  refine e_s rfl ?_
  refine e_bf (nI_pos (by omega)) ?_
  refine e_s rfl ?_
  refine e_s rfl ?_
  refine e_gi rfl s1 rfl ?_
  rw [hz]
  refine e_s rfl ?_
  refine e_bf (nI_ge hk (by omega)) ?_
  refine e_s rfl ?_
  refine e_gr rfl s1 rfl s4 ?_
  refine e_s rfl ?_
  refine e_s rfl ?_
  refine e_gi rfl s1 rfl ?_
  rw [hu]
  repeat refine e_s rfl ?_
  refine e_is rfl s2 rfl (show k < 40 by omega) (by decide) ?_
  exact e_r rfl
theorem o_cell0 (h : Inv xs L so dr ds I n cc tc rl sg tp ca kd nb ta ua wa tz) {k m : Nat} (hs : s < 4) (q3 : I 45 s = 1) (q4 : I (20 + 2 * s) 1 = nI 0) (q5 : I 46 s = nI 0) (q6 : I (20 + 2 * s) 2 = nI m) (q7 : I 47 s = nI m) (q8 : ∀ j, j < m → I (21 + 2 * s) j = I 48 (40 * s + j)) (hk : k < m) (h40 : m ≤ 40) : ∃ I1 I2 v, px_mt (d + 3) 134 [.ref 0, .int (nI s), .int (nI k), .int z] I J (dR so dr) (dS L ds) n q (some (.int v), I1, J, dR so dr, dS L ds, n, q) ∧ px_mt (d + 3) 233 [.ref 31, .int (nI s), .int (nI k), .int z] I1 J (dR so dr) (dS L ds) n q (some (.int v), I2, J, dR so dr, dS L ds, n, q) ∧ Inv xs L so dr ds I2 n cc tc rl sg tp ca kd nb ta ua wa tz := by
  have hh := h
  obtain ⟨h0, h1, h2, h3, h4, h5, h6, h7, h8, h9, h10, h11, h12⟩ := h
  obtain ⟨s1, s2, s3, s4⟩ := sh_S (ds := ds) (L := L) (so := so) (dr := dr) hs
  refine ⟨px_u I (21 + 2 * s) k (z.toInt8.toInt32), px_u (px_u I (21 + 2 * s) k (z.toInt8.toInt32)) 48 (40 * s + k) (z.toInt8.toInt32), 1, ?_, ?_, hh.sheets (fun a j g => ?_) (fun s' hs' => ?_)⟩
  · unfold px_mt
    repeat refine e_s rfl ?_
    refine e_c rfl (r_sheetAt (d := d) hs) (by omega) ?_
    repeat refine e_s rfl ?_
    refine e_cv rfl rfl rfl s1 rfl rfl (r_miss (d := d) hs) (by omega) ?_
    rw [decide_eq_false (show ¬ I (20 + 2 * s) 1 = -1 by rw [q4]; decide)]
    repeat refine e_s rfl ?_
    refine e_gi rfl s1 rfl ?_
    rw [q6]
    refine e_c rfl (r_below (d := d)) (by omega) ?_
    rw [in_k hk (by omega)]
    repeat refine e_s rfl ?_
    refine e_cv rfl rfl rfl s1 rfl rfl (r_shPut0 (d := d) hs q6 q4 hk h40) (by omega) ?_
    repeat refine e_s rfl ?_
    exact e_r rfl
  · unfold px_mt
    repeat refine e_s rfl ?_
    refine e_c rfl (r_isSheet (d := d)) (by omega) ?_
    rw [in_k hs (by decide)]
    repeat refine e_s rfl ?_
    refine e_za rfl rfl rfl hs (by decide) ?_
    rw [u_ne (fun e => by omega), q3]
    repeat refine e_s rfl ?_
    refine e_ia rfl rfl rfl hs (by decide) ?_
    rw [u_ne (fun e => by omega), q7]
    repeat refine e_s rfl ?_
    refine e_c rfl (r_inI (D := d) (a := 0) (c := nI m - 1) (by decide) rfl) (by omega) ?_
    rw [← in_c0 (by omega), in_k hk (by omega)]
    repeat refine e_s rfl ?_
    refine e_ia rfl rfl rfl hs (by decide) ?_
    rw [u_ne (fun e => by omega), q5]
    repeat refine e_s rfl ?_
    rw [show (40 : Int32) * nI s = nI (40 * s) from pk_mul 40 s, nI_add]
    refine e_is rfl rfl rfl (show 40 * s + k < 160 by omega) (by decide) ?_
    repeat refine e_s rfl ?_
    exact e_r rfl
  · unfold sFt at g
    rw [u_ne (fun e => by omega), u_ne (fun e => by omega)]
  · by_cases e : s' = s
    · subst e
      refine Or.inr ⟨0, m, by omega, h40, ?_, ?_, ?_, ?_, ?_, fun j hj => ?_⟩
      · rw [u_ne (fun e => by omega), u_ne (fun e => by omega), q3]
      · rw [u_ne (fun e => by omega), u_ne (fun e => by omega), q4]
      · rw [u_ne (fun e => by omega), u_ne (fun e => by omega), q5]
      · rw [u_ne (fun e => by omega), u_ne (fun e => by omega), q6]
      · rw [u_ne (fun e => by omega), u_ne (fun e => by omega), q7]
      · by_cases e : j = k
        · subst e
          rw [u_ne (fun e => by omega), u_eq, u_eq]
        · rw [u_ne (fun e => by omega), u_ne (fun _ => e), u_ne (fun _ => by omega), u_ne (fun e => by omega), q8 j hj]
    · have fr : ∀ a j, (a = 45 ∨ a = 46 ∨ a = 47) ∧ j = s' ∨ a = 20 + 2 * s' ∨ a = 21 + 2 * s' ∨ a = 48 ∧ (40 * s' ≤ j ∧ j < 40 * s' + 40) → px_u (px_u I (21 + 2 * s) k (z.toInt8.toInt32)) 48 (40 * s + k) (z.toInt8.toInt32) a j = I a j := fun a j g => by
        rw [u_ne (fun e => by omega), u_ne (fun e => by omega)]
      rcases h6 s' hs' with ⟨q1, q2, q3⟩ | ⟨so', z', q1, q2, q3, q4, q5, q6, q7, q8⟩
      · exact Or.inl ⟨(fr _ _ (by omega)).trans q1, (fr _ _ (by omega)).trans q2, (fr _ _ (by omega)).trans q3⟩
      · exact Or.inr ⟨so', z', q1, q2, (fr _ _ (by omega)).trans q3, (fr _ _ (by omega)).trans q4, (fr _ _ (by omega)).trans q5, (fr _ _ (by omega)).trans q6, (fr _ _ (by omega)).trans q7, fun j hj => (fr _ _ (by omega)).trans ((q8 j hj).trans (fr _ _ (by omega)).symm)⟩
theorem r_shPut1 {k m : Nat} (hs : s < 4) (hz : I (20 + 2 * s) 2 = nI m) (hu : I (20 + 2 * s) 1 = 1) (hk : k < m) (h40 : m ≤ 40) : px_mt (d + 1) 135 [.ref (20 + 2 * s), .int (nI k), .int z] I J (dR so dr) (dS L ds) n q (none, px_u I (21 + 2 * s) k (z.toInt16.toInt32), J, dR so dr, dS L ds, n, q) := by
  obtain ⟨s1, s2, s3, s4⟩ := sh_S (ds := ds) (L := L) (so := so) (dr := dr) hs
  unfold px_mt
  refine e_s rfl ?_
  refine e_s rfl ?_
  refine e_bf (nI_pos (by omega)) ?_
  refine e_s rfl ?_
  refine e_s rfl ?_
  refine e_gi rfl s1 rfl ?_
  rw [hz]
  refine e_s rfl ?_
  refine e_bf (nI_ge hk (by omega)) ?_
  refine e_s rfl ?_
  refine e_gr rfl s1 rfl s4 ?_
  refine e_s rfl ?_
  refine e_s rfl ?_
  refine e_gi rfl s1 rfl ?_
  rw [hu]
  repeat refine e_s rfl ?_
  refine e_gi rfl s1 rfl ?_
  rw [hu]
  repeat refine e_s rfl ?_
  refine e_is rfl s2 rfl (show k < 40 by omega) (by decide) ?_
  exact e_r rfl
theorem o_cell1 (h : Inv xs L so dr ds I n cc tc rl sg tp ca kd nb ta ua wa tz) {k m : Nat} (hs : s < 4) (q3 : I 45 s = 1) (q4 : I (20 + 2 * s) 1 = nI 1) (q5 : I 46 s = nI 1) (q6 : I (20 + 2 * s) 2 = nI m) (q7 : I 47 s = nI m) (q8 : ∀ j, j < m → I (21 + 2 * s) j = I 48 (40 * s + j)) (hk : k < m) (h40 : m ≤ 40) : ∃ I1 I2 v, px_mt (d + 3) 134 [.ref 0, .int (nI s), .int (nI k), .int z] I J (dR so dr) (dS L ds) n q (some (.int v), I1, J, dR so dr, dS L ds, n, q) ∧ px_mt (d + 3) 233 [.ref 31, .int (nI s), .int (nI k), .int z] I1 J (dR so dr) (dS L ds) n q (some (.int v), I2, J, dR so dr, dS L ds, n, q) ∧ Inv xs L so dr ds I2 n cc tc rl sg tp ca kd nb ta ua wa tz := by
  have hh := h
  obtain ⟨h0, h1, h2, h3, h4, h5, h6, h7, h8, h9, h10, h11, h12⟩ := h
  obtain ⟨s1, s2, s3, s4⟩ := sh_S (ds := ds) (L := L) (so := so) (dr := dr) hs
  refine ⟨px_u I (21 + 2 * s) k (z.toInt16.toInt32), px_u (px_u I (21 + 2 * s) k (z.toInt16.toInt32)) 48 (40 * s + k) (z.toInt16.toInt32), 1, ?_, ?_, hh.sheets (fun a j g => ?_) (fun s' hs' => ?_)⟩
  · unfold px_mt
    repeat refine e_s rfl ?_
    refine e_c rfl (r_sheetAt (d := d) hs) (by omega) ?_
    repeat refine e_s rfl ?_
    refine e_cv rfl rfl rfl s1 rfl rfl (r_miss (d := d) hs) (by omega) ?_
    rw [decide_eq_false (show ¬ I (20 + 2 * s) 1 = -1 by rw [q4]; decide)]
    repeat refine e_s rfl ?_
    refine e_gi rfl s1 rfl ?_
    rw [q6]
    refine e_c rfl (r_below (d := d)) (by omega) ?_
    rw [in_k hk (by omega)]
    repeat refine e_s rfl ?_
    refine e_cv rfl rfl rfl s1 rfl rfl (r_shPut1 (d := d) hs q6 q4 hk h40) (by omega) ?_
    repeat refine e_s rfl ?_
    exact e_r rfl
  · unfold px_mt
    repeat refine e_s rfl ?_
    refine e_c rfl (r_isSheet (d := d)) (by omega) ?_
    rw [in_k hs (by decide)]
    repeat refine e_s rfl ?_
    refine e_za rfl rfl rfl hs (by decide) ?_
    rw [u_ne (fun e => by omega), q3]
    repeat refine e_s rfl ?_
    refine e_ia rfl rfl rfl hs (by decide) ?_
    rw [u_ne (fun e => by omega), q7]
    repeat refine e_s rfl ?_
    refine e_c rfl (r_inI (D := d) (a := 0) (c := nI m - 1) (by decide) rfl) (by omega) ?_
    rw [← in_c0 (by omega), in_k hk (by omega)]
    repeat refine e_s rfl ?_
    refine e_ia rfl rfl rfl hs (by decide) ?_
    rw [u_ne (fun e => by omega), q5]
    repeat refine e_s rfl ?_
    refine e_ia rfl rfl rfl hs (by decide) ?_
    rw [u_ne (fun e => by omega), q5]
    repeat refine e_s rfl ?_
    rw [show (40 : Int32) * nI s = nI (40 * s) from pk_mul 40 s, nI_add]
    refine e_is rfl rfl rfl (show 40 * s + k < 160 by omega) (by decide) ?_
    repeat refine e_s rfl ?_
    exact e_r rfl
  · unfold sFt at g
    rw [u_ne (fun e => by omega), u_ne (fun e => by omega)]
  · by_cases e : s' = s
    · subst e
      refine Or.inr ⟨1, m, by omega, h40, ?_, ?_, ?_, ?_, ?_, fun j hj => ?_⟩
      · rw [u_ne (fun e => by omega), u_ne (fun e => by omega), q3]
      · rw [u_ne (fun e => by omega), u_ne (fun e => by omega), q4]
      · rw [u_ne (fun e => by omega), u_ne (fun e => by omega), q5]
      · rw [u_ne (fun e => by omega), u_ne (fun e => by omega), q6]
      · rw [u_ne (fun e => by omega), u_ne (fun e => by omega), q7]
      · by_cases e : j = k
        · subst e
          rw [u_ne (fun e => by omega), u_eq, u_eq]
        · rw [u_ne (fun e => by omega), u_ne (fun _ => e), u_ne (fun _ => by omega), u_ne (fun e => by omega), q8 j hj]
    · have fr : ∀ a j, (a = 45 ∨ a = 46 ∨ a = 47) ∧ j = s' ∨ a = 20 + 2 * s' ∨ a = 21 + 2 * s' ∨ a = 48 ∧ (40 * s' ≤ j ∧ j < 40 * s' + 40) → px_u (px_u I (21 + 2 * s) k (z.toInt16.toInt32)) 48 (40 * s + k) (z.toInt16.toInt32) a j = I a j := fun a j g => by
        rw [u_ne (fun e => by omega), u_ne (fun e => by omega)]
      rcases h6 s' hs' with ⟨q1, q2, q3⟩ | ⟨so', z', q1, q2, q3, q4, q5, q6, q7, q8⟩
      · exact Or.inl ⟨(fr _ _ (by omega)).trans q1, (fr _ _ (by omega)).trans q2, (fr _ _ (by omega)).trans q3⟩
      · exact Or.inr ⟨so', z', q1, q2, (fr _ _ (by omega)).trans q3, (fr _ _ (by omega)).trans q4, (fr _ _ (by omega)).trans q5, (fr _ _ (by omega)).trans q6, (fr _ _ (by omega)).trans q7, fun j hj => (fr _ _ (by omega)).trans ((q8 j hj).trans (fr _ _ (by omega)).symm)⟩
theorem r_shPut2 {k m : Nat} (hs : s < 4) (hz : I (20 + 2 * s) 2 = nI m) (hu : I (20 + 2 * s) 1 = 2) (hk : k < m) (h40 : m ≤ 40) : px_mt (d + 1) 135 [.ref (20 + 2 * s), .int (nI k), .int z] I J (dR so dr) (dS L ds) n q (none, px_u I (21 + 2 * s) k (z), J, dR so dr, dS L ds, n, q) := by
  obtain ⟨s1, s2, s3, s4⟩ := sh_S (ds := ds) (L := L) (so := so) (dr := dr) hs
  unfold px_mt
  refine e_s rfl ?_
  refine e_s rfl ?_
  refine e_bf (nI_pos (by omega)) ?_
  refine e_s rfl ?_
  refine e_s rfl ?_
  refine e_gi rfl s1 rfl ?_
  rw [hz]
  refine e_s rfl ?_
  refine e_bf (nI_ge hk (by omega)) ?_
  refine e_s rfl ?_
  refine e_gr rfl s1 rfl s4 ?_
  refine e_s rfl ?_
  refine e_s rfl ?_
  refine e_gi rfl s1 rfl ?_
  rw [hu]
  repeat refine e_s rfl ?_
  refine e_gi rfl s1 rfl ?_
  rw [hu]
  repeat refine e_s rfl ?_
  refine e_is rfl s2 rfl (show k < 40 by omega) (by decide) ?_
  exact e_r rfl
theorem o_cell2 (h : Inv xs L so dr ds I n cc tc rl sg tp ca kd nb ta ua wa tz) {k m : Nat} (hs : s < 4) (q3 : I 45 s = 1) (q4 : I (20 + 2 * s) 1 = nI 2) (q5 : I 46 s = nI 2) (q6 : I (20 + 2 * s) 2 = nI m) (q7 : I 47 s = nI m) (q8 : ∀ j, j < m → I (21 + 2 * s) j = I 48 (40 * s + j)) (hk : k < m) (h40 : m ≤ 40) : ∃ I1 I2 v, px_mt (d + 3) 134 [.ref 0, .int (nI s), .int (nI k), .int z] I J (dR so dr) (dS L ds) n q (some (.int v), I1, J, dR so dr, dS L ds, n, q) ∧ px_mt (d + 3) 233 [.ref 31, .int (nI s), .int (nI k), .int z] I1 J (dR so dr) (dS L ds) n q (some (.int v), I2, J, dR so dr, dS L ds, n, q) ∧ Inv xs L so dr ds I2 n cc tc rl sg tp ca kd nb ta ua wa tz := by
  have hh := h
  obtain ⟨h0, h1, h2, h3, h4, h5, h6, h7, h8, h9, h10, h11, h12⟩ := h
  obtain ⟨s1, s2, s3, s4⟩ := sh_S (ds := ds) (L := L) (so := so) (dr := dr) hs
  refine ⟨px_u I (21 + 2 * s) k (z), px_u (px_u I (21 + 2 * s) k (z)) 48 (40 * s + k) (z), 1, ?_, ?_, hh.sheets (fun a j g => ?_) (fun s' hs' => ?_)⟩
  · unfold px_mt
    repeat refine e_s rfl ?_
    refine e_c rfl (r_sheetAt (d := d) hs) (by omega) ?_
    repeat refine e_s rfl ?_
    refine e_cv rfl rfl rfl s1 rfl rfl (r_miss (d := d) hs) (by omega) ?_
    rw [decide_eq_false (show ¬ I (20 + 2 * s) 1 = -1 by rw [q4]; decide)]
    repeat refine e_s rfl ?_
    refine e_gi rfl s1 rfl ?_
    rw [q6]
    refine e_c rfl (r_below (d := d)) (by omega) ?_
    rw [in_k hk (by omega)]
    repeat refine e_s rfl ?_
    refine e_cv rfl rfl rfl s1 rfl rfl (r_shPut2 (d := d) hs q6 q4 hk h40) (by omega) ?_
    repeat refine e_s rfl ?_
    exact e_r rfl
  · unfold px_mt
    repeat refine e_s rfl ?_
    refine e_c rfl (r_isSheet (d := d)) (by omega) ?_
    rw [in_k hs (by decide)]
    repeat refine e_s rfl ?_
    refine e_za rfl rfl rfl hs (by decide) ?_
    rw [u_ne (fun e => by omega), q3]
    repeat refine e_s rfl ?_
    refine e_ia rfl rfl rfl hs (by decide) ?_
    rw [u_ne (fun e => by omega), q7]
    repeat refine e_s rfl ?_
    refine e_c rfl (r_inI (D := d) (a := 0) (c := nI m - 1) (by decide) rfl) (by omega) ?_
    rw [← in_c0 (by omega), in_k hk (by omega)]
    repeat refine e_s rfl ?_
    refine e_ia rfl rfl rfl hs (by decide) ?_
    rw [u_ne (fun e => by omega), q5]
    repeat refine e_s rfl ?_
    refine e_ia rfl rfl rfl hs (by decide) ?_
    rw [u_ne (fun e => by omega), q5]
    repeat refine e_s rfl ?_
    rw [show (40 : Int32) * nI s = nI (40 * s) from pk_mul 40 s, nI_add]
    refine e_is rfl rfl rfl (show 40 * s + k < 160 by omega) (by decide) ?_
    repeat refine e_s rfl ?_
    exact e_r rfl
  · unfold sFt at g
    rw [u_ne (fun e => by omega), u_ne (fun e => by omega)]
  · by_cases e : s' = s
    · subst e
      refine Or.inr ⟨2, m, by omega, h40, ?_, ?_, ?_, ?_, ?_, fun j hj => ?_⟩
      · rw [u_ne (fun e => by omega), u_ne (fun e => by omega), q3]
      · rw [u_ne (fun e => by omega), u_ne (fun e => by omega), q4]
      · rw [u_ne (fun e => by omega), u_ne (fun e => by omega), q5]
      · rw [u_ne (fun e => by omega), u_ne (fun e => by omega), q6]
      · rw [u_ne (fun e => by omega), u_ne (fun e => by omega), q7]
      · by_cases e : j = k
        · subst e
          rw [u_ne (fun e => by omega), u_eq, u_eq]
        · rw [u_ne (fun e => by omega), u_ne (fun _ => e), u_ne (fun _ => by omega), u_ne (fun e => by omega), q8 j hj]
    · have fr : ∀ a j, (a = 45 ∨ a = 46 ∨ a = 47) ∧ j = s' ∨ a = 20 + 2 * s' ∨ a = 21 + 2 * s' ∨ a = 48 ∧ (40 * s' ≤ j ∧ j < 40 * s' + 40) → px_u (px_u I (21 + 2 * s) k (z)) 48 (40 * s + k) (z) a j = I a j := fun a j g => by
        rw [u_ne (fun e => by omega), u_ne (fun e => by omega)]
      rcases h6 s' hs' with ⟨q1, q2, q3⟩ | ⟨so', z', q1, q2, q3, q4, q5, q6, q7, q8⟩
      · exact Or.inl ⟨(fr _ _ (by omega)).trans q1, (fr _ _ (by omega)).trans q2, (fr _ _ (by omega)).trans q3⟩
      · exact Or.inr ⟨so', z', q1, q2, (fr _ _ (by omega)).trans q3, (fr _ _ (by omega)).trans q4, (fr _ _ (by omega)).trans q5, (fr _ _ (by omega)).trans q6, (fr _ _ (by omega)).trans q7, fun j hj => (fr _ _ (by omega)).trans ((q8 j hj).trans (fr _ _ (by omega)).symm)⟩
theorem o_cell (h : Inv xs L so dr ds I n cc tc rl sg tp ca kd nb ta ua wa tz) : ∃ I1 I2 v, px_mt (d + 3) 134 [.ref 0, .int x, .int y, .int z] I J (dR so dr) (dS L ds) n q (some (.int v), I1, J, dR so dr, dS L ds, n, q) ∧ px_mt (d + 3) 233 [.ref 31, .int x, .int y, .int z] I1 J (dR so dr) (dS L ds) n q (some (.int v), I2, J, dR so dr, dS L ds, n, q) ∧ Inv xs L so dr ds I2 n cc tc rl sg tp ca kd nb ta ua wa tz := by
  rcases ix_or (x := x) (k := 4) (by decide) with g | ⟨s, hs, rfl⟩
  · refine ⟨I, I, -2, ?_, ?_, h⟩
    · unfold px_mt
      repeat refine e_s rfl ?_
      refine e_c rfl (r_sheetNo (d := d) g) (by omega) ?_
      repeat refine e_s rfl ?_
      exact e_r rfl
    · unfold px_mt
      repeat refine e_s rfl ?_
      refine e_c rfl (r_isSheet (d := d)) (by omega) ?_
      rw [out_k g]
      repeat refine e_s rfl ?_
      exact e_r rfl
  · obtain ⟨s1, s2, s3, s4⟩ := sh_S (ds := ds) (L := L) (so := so) (dr := dr) hs
    rcases h.2.2.2.2.2.2.1 s hs with ⟨q1, q2, q3⟩ | ⟨u, m, q1, q2, q3, q4, q5, q6, q7, q8⟩
    · refine ⟨I, I, -11, ?_, ?_, h⟩
      · unfold px_mt
        repeat refine e_s rfl ?_
        refine e_c rfl (r_sheetAt (d := d) hs) (by omega) ?_
        repeat refine e_s rfl ?_
        refine e_cv rfl rfl rfl s1 rfl rfl (r_miss (d := d) hs) (by omega) ?_
        rw [decide_eq_true q2]
        repeat refine e_s rfl ?_
        exact e_r rfl
      · unfold px_mt
        repeat refine e_s rfl ?_
        refine e_c rfl (r_isSheet (d := d)) (by omega) ?_
        rw [in_k hs (by decide)]
        repeat refine e_s rfl ?_
        refine e_za rfl rfl rfl hs (by decide) ?_
        rw [q1]
        repeat refine e_s rfl ?_
        exact e_r rfl
    · rcases ix_or (x := y) (k := m) (by omega) with g | ⟨k, hk, rfl⟩
      · have hne : ¬ I (20 + 2 * s) 1 = -1 := by
          rw [q4]
          match u, q1 with
          | 0, _ => decide
          | 1, _ => decide
          | 2, _ => decide
        refine ⟨I, I, -12, ?_, ?_, h⟩
        · unfold px_mt
          repeat refine e_s rfl ?_
          refine e_c rfl (r_sheetAt (d := d) hs) (by omega) ?_
          repeat refine e_s rfl ?_
          refine e_cv rfl rfl rfl s1 rfl rfl (r_miss (d := d) hs) (by omega) ?_
          rw [decide_eq_false hne]
          repeat refine e_s rfl ?_
          refine e_gi rfl s1 rfl ?_
          rw [q6]
          refine e_c rfl (r_below (d := d)) (by omega) ?_
          rw [out_k g]
          repeat refine e_s rfl ?_
          exact e_r rfl
        · unfold px_mt
          repeat refine e_s rfl ?_
          refine e_c rfl (r_isSheet (d := d)) (by omega) ?_
          rw [in_k hs (by decide)]
          repeat refine e_s rfl ?_
          refine e_za rfl rfl rfl hs (by decide) ?_
          rw [q3]
          repeat refine e_s rfl ?_
          refine e_ia rfl rfl rfl hs (by decide) ?_
          rw [q7]
          repeat refine e_s rfl ?_
          refine e_c rfl (r_inI (D := d) (a := 0) (c := nI m - 1) (by decide) rfl) (by omega) ?_
          rw [← in_c0 (by omega), out_k g]
          repeat refine e_s rfl ?_
          exact e_r rfl
      · match u, q1 with
        | 0, _ => exact o_cell0 h hs q3 q4 q5 q6 q7 q8 hk q2
        | 1, _ => exact o_cell1 h hs q3 q4 q5 q6 q7 q8 hk q2
        | 2, _ => exact o_cell2 h hs q3 q4 q5 q6 q7 q8 hk q2
end PXCE
