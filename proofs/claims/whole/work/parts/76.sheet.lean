/-! sheets: what the calls share; sheet, on both sides -/
section PXSH
variable {d D n q L cc tc rl sg tp s : Nat} {so : Option Nat} {dr : px_HR} {ds : px_HS} {I I0 : px_HI} {J : px_HJ} {xs : Nat → Int32} {ca kd nb ta ua wa tz : Nat → Nat} {x y z v : Int32}
theorem sh_S (hs : s < 4) : dS L ds (20 + 2 * s) = (18, 3) ∧ dS L ds (21 + 2 * s) = (100, 40) ∧ dR so dr 16 s = some (20 + 2 * s) ∧ dR so dr (20 + 2 * s) 0 = some (21 + 2 * s) := by
  match s, hs with
  | 0, _ => exact ⟨rfl, rfl, rfl, rfl⟩
  | 1, _ => exact ⟨rfl, rfl, rfl, rfl⟩
  | 2, _ => exact ⟨rfl, rfl, rfl, rfl⟩
  | 3, _ => exact ⟨rfl, rfl, rfl, rfl⟩
theorem r_sheetAt (hs : s < 4) : px_mt (d + 2) 113 [.ref 0, .int (nI s)] I J (dR so dr) (dS L ds) n q (some (.ref (20 + 2 * s)), I, J, dR so dr, dS L ds, n, q) := by
  unfold px_mt
  repeat refine e_s rfl ?_
  refine e_c rfl (r_below (d := d)) (by omega) ?_
  rw [show decide (0 ≤ nI s ∧ nI s < Int32.ofNat (dS L ds 16).snd) = true from in_k (k := 4) hs (by decide)]
  repeat refine e_s rfl ?_
  refine e_aa rfl rfl rfl hs (by decide) (sh_S (ds := ds) (L := L) hs).2.2.1 ?_
  repeat refine e_s rfl ?_
  exact e_r rfl
theorem r_sheetNo (g : x < 0 ∨ nI 4 ≤ x) : px_mt (d + 2) 113 [.ref 0, .int x] I J (dR so dr) (dS L ds) n q (some .null, I, J, dR so dr, dS L ds, n, q) := by
  unfold px_mt
  repeat refine e_s rfl ?_
  refine e_c rfl (r_below (d := d)) (by omega) ?_
  rw [show decide (0 ≤ x ∧ x < Int32.ofNat (dS L ds 16).snd) = false from out_k g]
  repeat refine e_s rfl ?_
  exact e_r rfl
theorem r_isSheet : px_mt (d + 2) 219 [.int x] I J (dR so dr) (dS L ds) n q (some (.int (bI (decide (0 ≤ x ∧ x < nI 4)))), I, J, dR so dr, dS L ds, n, q) := by
  unfold px_mt
  repeat refine e_s rfl ?_
  refine e_c rfl (r_inI (D := d) (a := 0) (c := 3) (by decide) (by decide)) (by omega) ?_
  rw [in_lt (a := nI 4) (b := 3) 3 (by decide) (by decide)]
  cases inI 0 3 x with
  | false => exact e_r rfl
  | true => exact e_r rfl
theorem r_miss (hs : s < 4) : px_mt (d + 1) 114 [.ref (20 + 2 * s)] I J (dR so dr) (dS L ds) n q (some (.int (bI (decide (I (20 + 2 * s) 1 = -1)))), I, J, dR so dr, dS L ds, n, q) := by
  obtain ⟨s1, s2, s3, s4⟩ := sh_S (ds := ds) (L := L) (so := so) (dr := dr) hs
  unfold px_mt
  refine e_s rfl ?_
  refine e_gi rfl s1 rfl ?_
  refine e_s rfl ?_
  refine e_s rfl ?_
  by_cases e : I (20 + 2 * s) 1 = -1
  · refine e_bf (fun g => g e) ?_
    rw [decide_eq_true e]
    repeat refine e_s rfl ?_
    exact e_r rfl
  · refine e_bt e ?_
    rw [decide_eq_false e]
    repeat refine e_s rfl ?_
    exact e_r rfl
theorem r_shAt {i z : Nat} (hs : s < 4) (hz : I (20 + 2 * s) 2 = nI z) (hi : i < z) (h40 : z ≤ 40) : px_mt (d + 1) 116 [.ref (20 + 2 * s), .int (nI i)] I J (dR so dr) (dS L ds) n q (some (.int (I (21 + 2 * s) i)), I, J, dR so dr, dS L ds, n, q) := by
  obtain ⟨s1, s2, s3, s4⟩ := sh_S (ds := ds) (L := L) (so := so) (dr := dr) hs
  unfold px_mt
  refine e_s rfl ?_
  refine e_s rfl ?_
  refine e_bf (nI_pos (by omega)) ?_
  refine e_s rfl ?_
  refine e_s rfl ?_
  refine e_gi rfl s1 rfl ?_
  rw [hz]
  refine e_s rfl ?_
  refine e_bf (nI_ge hi (by omega)) ?_
  refine e_s rfl ?_
  refine e_gr rfl s1 rfl s4 ?_
  refine e_s rfl ?_
  refine e_ia rfl s2 rfl (show i < 40 by omega) (by decide) ?_
  refine e_s rfl ?_
  exact e_r rfl
theorem w_fill {a : Nat} (hS : dS L ds a = (100, 40)) : ∀ k i (I : px_HI), i + k = 40 → ∃ I', px_ev (d + 1) 133 5 [some (.ref a), some (.int 0), some (.int (nI i)), some (.int (nI 40))] [] I J (dR so dr) (dS L ds) n q (none, I', J, dR so dr, dS L ds, n, q) ∧ (∀ j, i ≤ j → j < 40 → I' a j = 0) ∧ ∀ b j, (b = a → j < i) → I' b j = I b j
  | 0, i, I, hi => by
    refine ⟨I, ?_, fun j h1 h2 => by omega, fun _ _ _ => rfl⟩
    repeat refine e_s rfl ?_
    refine e_bt (nI_le (by omega) (by omega)) ?_
    exact e_r rfl
  | k + 1, i, I, hi => by
    obtain ⟨I', h1, h2, h3⟩ := w_fill hS k (i + 1) (px_u I a i 0) (by omega)
    refine ⟨I', ?_, fun j g1 g2 => ?_, fun b j g => ?_⟩
    · repeat refine e_s rfl ?_
      refine e_bf (nI_ge (by omega) (by omega)) ?_
      refine e_s rfl ?_
      refine e_s rfl ?_
      refine e_s rfl ?_
      refine e_is rfl hS rfl (show i < 40 by omega) (by decide) ?_
      refine e_s rfl ?_
      refine e_s rfl ?_
      rw [nI_1]
      exact h1
    · by_cases e : j = i
      · subst e
        rw [h3 a j (fun _ => by omega), u_eq]
      · exact h2 j (by omega) g2
    · rw [h3 b j (fun e => by have := g e; omega), u_ne (fun e => by have := g e; omega)]
theorem r_become (hs : s < 4) : ∃ I', px_mt (d + 2) 132 [.ref (20 + 2 * s), .int x, .int y] I J (dR so dr) (dS L ds) n q (none, I', J, dR so dr, dS L ds, n, q) ∧ I' (20 + 2 * s) 1 = x ∧ I' (20 + 2 * s) 2 = y ∧ (∀ j, j < 40 → I' (21 + 2 * s) j = 0) ∧ ∀ b j, b ≠ 20 + 2 * s → b ≠ 21 + 2 * s → I' b j = I b j := by
  obtain ⟨s1, s2, s3, s4⟩ := sh_S (ds := ds) (L := L) (so := so) (dr := dr) hs
  obtain ⟨I', h1, h2, h3⟩ := w_fill (d := d) (n := n) (q := q) (J := J) (so := so) (dr := dr) s2 40 0 (px_u (px_u I (20 + 2 * s) 1 x) (20 + 2 * s) 2 y) (by omega)
  refine ⟨I', ?_, ?_, ?_, fun j hj => h2 j (by omega) hj, fun b j g1 g2 => ?_⟩
  · unfold px_mt
    refine e_s rfl ?_
    refine e_s rfl ?_
    refine e_pi rfl s1 rfl rfl ?_
    refine e_s rfl ?_
    refine e_s rfl ?_
    refine e_pi rfl s1 rfl rfl ?_
    refine e_s rfl ?_
    refine e_gr rfl s1 rfl s4 ?_
    refine e_s rfl ?_
    refine e_c rfl (k := 133) (d' := d + 1) (v := none) (I1 := I') (J1 := J) (R1 := dR so dr) (S1 := dS L ds) (n1 := n) (q1 := q) ?_ (by omega) ?_
    · unfold px_mt
      refine e_s rfl ?_
      refine e_s rfl ?_
      refine e_s rfl ?_
      refine e_al rfl s2 rfl ?_
      refine e_s rfl ?_
      exact h1
    · exact e_r rfl
  · rw [h3 _ _ (fun e => by omega), u_ne (fun _ => by decide), u_eq]
  · rw [h3 _ _ (fun e => by omega), u_eq]
  · rw [h3 _ _ (fun e => absurd e g2), u_ne (fun e => absurd e g1), u_ne (fun e => absurd e g1)]
theorem w_mz {z : Nat} (hs : s < 4) (hz : z ≤ 40) (hy : ¬ y < 0) : ∀ k i (I : px_HI), i + k = z → ∃ I', px_ev (d + 1) 232 77 [some (.ref 31), some (.int (nI s)), some (.int y), some (.int (nI z)), some (.int (nI i))] [] I J (dR so dr) (dS L ds) n q (some (.int 1), I', J, dR so dr, dS L ds, n, q) ∧ (∀ j, i ≤ j → j < z → I' 48 (40 * s + j) = 0) ∧ ∀ b j, (b = 48 → j < 40 * s + i ∨ 40 * s + z ≤ j) → I' b j = I b j
  | 0, i, I, hi => by
    refine ⟨I, ?_, fun j h1 h2 => by omega, fun _ _ _ => rfl⟩
    repeat refine e_s rfl ?_
    refine e_bt (nI_le (by omega) (by omega)) ?_
    repeat refine e_s rfl ?_
    exact e_r rfl
  | k + 1, i, I, hi => by
    obtain ⟨I', h1, h2, h3⟩ := w_mz hs hz hy k (i + 1) (px_u I 48 (40 * s + i) 0) (by omega)
    refine ⟨I', ?_, fun j g1 g2 => ?_, fun b j g => ?_⟩
    · repeat refine e_s rfl ?_
      refine e_bf (nI_ge (by omega) (by omega)) ?_
      repeat refine e_s rfl ?_
      refine e_bf hy ?_
      repeat refine e_s rfl ?_
      rw [show (40 : Int32) * nI s = nI (40 * s) from pk_mul 40 s, nI_add]
      refine e_is rfl rfl rfl (show 40 * s + i < 160 by omega) (by decide) ?_
      refine e_s rfl ?_
      refine e_s rfl ?_
      rw [nI_1]
      exact h1
    · by_cases e : j = i
      · subst e
        rw [h3 48 _ (fun _ => by omega), u_eq]
      · exact h2 j (by omega) g2
    · rw [h3 b j (fun e => by have := g e; omega), u_ne (fun e => by have := g e; omega)]
theorem o_sheet (h : Inv xs L so dr ds I n cc tc rl sg tp ca kd nb ta ua wa tz) : ∃ I1 I2 v, px_mt (d + 3) 131 [.ref 0, .int x, .int y, .int z] I J (dR so dr) (dS L ds) n q (some (.int v), I1, J, dR so dr, dS L ds, n, q) ∧ px_mt (d + 3) 232 [.ref 31, .int x, .int y, .int z] I1 J (dR so dr) (dS L ds) n q (some (.int v), I2, J, dR so dr, dS L ds, n, q) ∧ Inv xs L so dr ds I2 n cc tc rl sg tp ca kd nb ta ua wa tz := by
  have hh := h
  obtain ⟨h0, h1, h2, h3, h4, h5, h6, h7, h8, h9, h10, h11, h12⟩ := h
  rcases ix_or (x := x) (k := 4) (by decide) with g | ⟨s, hs, rfl⟩
  · refine ⟨I, I, -2, ?_, ?_, hh⟩
    · unfold px_mt
      repeat refine e_s rfl ?_
      refine e_c rfl (r_sheetNo (d := d) g) (by omega) ?_
      repeat refine e_s rfl ?_
      exact e_r rfl
    · unfold px_mt
      repeat refine e_s rfl ?_
      refine e_c rfl (r_isSheet (d := d)) (by omega) ?_
      rw [out_k g]
      repeat refine e_s rfl ?_
      exact e_r rfl
  · by_cases e1 : y = -1
    · subst e1
      obtain ⟨I1, k1, k2, k3, k4, k5⟩ := r_become (d := d) (x := -1) (y := 0) (n := n) (q := q) (J := J) (so := so) (dr := dr) (L := L) (ds := ds) (I := I) hs
      refine ⟨I1, px_u (px_u (px_u I1 45 s 0) 46 s (-1)) 47 s z, 1, ?_, ?_, hh.sheets (fun a j g => ?_) (fun s' hs' => ?_)⟩
      · unfold px_mt
        repeat refine e_s rfl ?_
        refine e_c rfl (r_sheetAt (d := d) hs) (by omega) ?_
        repeat refine e_s rfl ?_
        refine e_cv rfl rfl rfl (sh_S (so := so) (dr := dr) hs).1 rfl rfl k1 (by omega) ?_
        repeat refine e_s rfl ?_
        exact e_r rfl
      · unfold px_mt
        repeat refine e_s rfl ?_
        refine e_c rfl (r_isSheet (d := d)) (by omega) ?_
        rw [in_k hs (by decide)]
        repeat refine e_s rfl ?_
        refine e_c rfl (r_inI (D := d) (a := -1) (c := 2) (by decide) (by decide)) (by omega) ?_
        repeat refine e_s rfl ?_
        refine e_zs rfl rfl rfl hs (by decide) (Or.inl rfl) ?_
        repeat refine e_s rfl ?_
        refine e_is rfl rfl rfl hs (by decide) ?_
        repeat refine e_s rfl ?_
        refine e_is rfl rfl rfl hs (by decide) ?_
        repeat refine e_s rfl ?_
        refine e_b (fun g => ?_) (fun g => ?_)
        · repeat refine e_s rfl ?_
          exact e_r rfl
        · repeat refine e_s rfl ?_
          exact e_r rfl
      · unfold sFt at g
        rw [u_ne (fun e => by omega), u_ne (fun e => by omega), u_ne (fun e => by omega)]
        exact k5 a j (by omega) (by omega)
      · by_cases e : s' = s
        · subst e
          refine Or.inl ⟨?_, ?_, ?_⟩
          · rw [u_ne (fun e => by omega), u_ne (fun e => by omega), u_eq]
          · rw [u_ne (fun e => by omega), u_ne (fun e => by omega), u_ne (fun e => by omega), k2]
          · rw [u_ne (fun e => by omega), u_ne (fun e => by omega), u_ne (fun e => by omega), k3]
        · have fr : ∀ a j, (a = 45 ∨ a = 46 ∨ a = 47) ∧ j = s' ∨ a = 48 ∨ a = 20 + 2 * s' ∨ a = 21 + 2 * s' → px_u (px_u (px_u I1 45 s 0) 46 s (-1)) 47 s z a j = I a j := fun a j g => by
            rw [u_ne (fun e => by omega), u_ne (fun e => by omega), u_ne (fun e => by omega)]
            exact k5 a j (by omega) (by omega)
          rcases h6 s' hs' with ⟨q1, q2, q3⟩ | ⟨so', z', q1, q2, q3, q4, q5, q6, q7, q8⟩
          · exact Or.inl ⟨(fr _ _ (by omega)).trans q1, (fr _ _ (by omega)).trans q2, (fr _ _ (by omega)).trans q3⟩
          · exact Or.inr ⟨so', z', q1, q2, (fr _ _ (by omega)).trans q3, (fr _ _ (by omega)).trans q4, (fr _ _ (by omega)).trans q5, (fr _ _ (by omega)).trans q6, (fr _ _ (by omega)).trans q7, fun j hj => (fr _ _ (by omega)).trans ((q8 j hj).trans (fr _ _ (by omega)).symm)⟩
    · rcases ix_or (x := y) (k := 3) (by decide) with g | ⟨u, hu, rfl⟩
      · have ein : inI (-1) 2 y = false := by
          unfold inI
          refine decide_eq_false (fun g' => ?_)
          rcases g with g | g
          · rw [Int32.le_iff_toInt_le, show (-1 : Int32).toInt = -1 by decide] at g'
            rw [Int32.lt_iff_toInt_lt, show (0 : Int32).toInt = 0 by decide] at g
            exact e1 (Int32.toInt_inj.mp ((show y.toInt = -1 by omega).trans (by decide)))
          · rw [Int32.le_iff_toInt_le, Int32.le_iff_toInt_le, show (2 : Int32).toInt = 2 by decide] at g'
            rw [Int32.le_iff_toInt_le, show (nI 3).toInt = 3 by decide] at g
            omega
        refine ⟨I, I, -2, ?_, ?_, hh⟩
        · unfold px_mt
          repeat refine e_s rfl ?_
          refine e_c rfl (r_sheetAt (d := d) hs) (by omega) ?_
          repeat refine e_s rfl ?_
          refine e_bf e1 ?_
          repeat refine e_s rfl ?_
          refine e_c rfl (r_below (d := d)) (by omega) ?_
          rw [show decide (0 ≤ y ∧ y < 3) = false from out_k g]
          repeat refine e_s rfl ?_
          exact e_r rfl
        · unfold px_mt
          repeat refine e_s rfl ?_
          refine e_c rfl (r_isSheet (d := d)) (by omega) ?_
          rw [in_k hs (by decide)]
          repeat refine e_s rfl ?_
          refine e_c rfl (r_inI (D := d) (a := -1) (c := 2) (by decide) (by decide)) (by omega) ?_
          rw [ein]
          repeat refine e_s rfl ?_
          exact e_r rfl
      · have ein : inI (-1) 2 (nI u) = true := by
          match u, hu with
          | 0, _ => rfl
          | 1, _ => rfl
          | 2, _ => rfl
        have u0 : ¬ nI u < 0 := nI_pos (by omega)
        by_cases z40 : z ≤ 40
        · by_cases z0 : z < 0
          · refine ⟨I, I, -14, ?_, ?_, hh⟩
            · unfold px_mt
              repeat refine e_s rfl ?_
              refine e_c rfl (r_sheetAt (d := d) hs) (by omega) ?_
              repeat refine e_s rfl ?_
              refine e_bf e1 ?_
              repeat refine e_s rfl ?_
              refine e_c rfl (r_below (d := d)) (by omega) ?_
              rw [show decide (0 ≤ nI u ∧ nI u < 3) = true from in_k (k := 3) hu (by decide)]
              repeat refine e_s rfl ?_
              refine e_bt e1 ?_
              repeat refine e_s rfl ?_
              refine e_bt z40 ?_
              repeat refine e_s rfl ?_
              refine e_bf (Int32.not_le.mpr z0) ?_
              repeat refine e_s rfl ?_
              exact e_r rfl
            · unfold px_mt
              repeat refine e_s rfl ?_
              refine e_c rfl (r_isSheet (d := d)) (by omega) ?_
              rw [in_k hs (by decide)]
              repeat refine e_s rfl ?_
              refine e_c rfl (r_inI (D := d) (a := -1) (c := 2) (by decide) (by decide)) (by omega) ?_
              rw [ein]
              repeat refine e_s rfl ?_
              refine e_bf u0 ?_
              repeat refine e_s rfl ?_
              refine e_bt z40 ?_
              repeat refine e_s rfl ?_
              refine e_bf u0 ?_
              repeat refine e_s rfl ?_
              refine e_bf (Int32.not_le.mpr z0) ?_
              repeat refine e_s rfl ?_
              exact e_r rfl
          · obtain ⟨k, hk, rfl⟩ := nI_of2 (M := 40) (n := 40) (by decide) z0 z40
            obtain ⟨I1, k1, k2, k3, k4, k5⟩ := r_become (d := d) (x := nI u) (y := nI k) (n := n) (q := q) (J := J) (so := so) (dr := dr) (L := L) (ds := ds) (I := I) hs
            obtain ⟨I2, m1, m2, m3⟩ := w_mz (d := d + 2) (n := n) (q := q) (J := J) (so := so) (dr := dr) (L := L) (ds := ds) (y := nI u) (z := k) hs hk u0 k 0 (px_u (px_u (px_u I1 45 s 1) 46 s (nI u)) 47 s (nI k)) (by omega)
            refine ⟨I1, I2, 1, ?_, ?_, hh.sheets (fun a j g => ?_) (fun s' hs' => ?_)⟩
            · unfold px_mt
              repeat refine e_s rfl ?_
              refine e_c rfl (r_sheetAt (d := d) hs) (by omega) ?_
              repeat refine e_s rfl ?_
              refine e_bf e1 ?_
              repeat refine e_s rfl ?_
              refine e_c rfl (r_below (d := d)) (by omega) ?_
              rw [show decide (0 ≤ nI u ∧ nI u < 3) = true from in_k (k := 3) hu (by decide)]
              repeat refine e_s rfl ?_
              refine e_bt e1 ?_
              repeat refine e_s rfl ?_
              refine e_bt z40 ?_
              repeat refine e_s rfl ?_
              refine e_bt (Int32.not_lt.mp z0) ?_
              repeat refine e_s rfl ?_
              refine e_cv rfl rfl rfl (sh_S (so := so) (dr := dr) hs).1 rfl rfl k1 (by omega) ?_
              repeat refine e_s rfl ?_
              exact e_r rfl
            · unfold px_mt
              repeat refine e_s rfl ?_
              refine e_c rfl (r_isSheet (d := d)) (by omega) ?_
              rw [in_k hs (by decide)]
              repeat refine e_s rfl ?_
              refine e_c rfl (r_inI (D := d) (a := -1) (c := 2) (by decide) (by decide)) (by omega) ?_
              rw [ein]
              repeat refine e_s rfl ?_
              refine e_bf u0 ?_
              repeat refine e_s rfl ?_
              refine e_bt z40 ?_
              repeat refine e_s rfl ?_
              refine e_bf u0 ?_
              repeat refine e_s rfl ?_
              refine e_bt (Int32.not_lt.mp z0) ?_
              repeat refine e_s rfl ?_
              refine e_bf u0 ?_
              repeat refine e_s rfl ?_
              refine e_zs rfl rfl rfl hs (by decide) (Or.inr rfl) ?_
              repeat refine e_s rfl ?_
              refine e_is rfl rfl rfl hs (by decide) ?_
              repeat refine e_s rfl ?_
              refine e_is rfl rfl rfl hs (by decide) ?_
              refine e_s rfl ?_
              refine e_s rfl ?_
              exact m1
            · unfold sFt at g
              rw [m3 a j (fun e => by omega), u_ne (fun e => by omega), u_ne (fun e => by omega), u_ne (fun e => by omega)]
              exact k5 a j (by omega) (by omega)
            · by_cases e : s' = s
              · subst e
                refine Or.inr ⟨u, k, by omega, hk, ?_, ?_, ?_, ?_, ?_, fun j hj => ?_⟩
                · rw [m3 _ _ (fun e => by omega), u_ne (fun e => by omega), u_ne (fun e => by omega), u_eq]
                · rw [m3 _ _ (fun e => by omega), u_ne (fun e => by omega), u_ne (fun e => by omega), u_ne (fun e => by omega), k2]
                · rw [m3 _ _ (fun e => by omega), u_ne (fun e => by omega), u_eq]
                · rw [m3 _ _ (fun e => by omega), u_ne (fun e => by omega), u_ne (fun e => by omega), u_ne (fun e => by omega), k3]
                · rw [m3 _ _ (fun e => by omega), u_eq]
                · rw [m3 _ _ (fun e => by omega), u_ne (fun e => by omega), u_ne (fun e => by omega), u_ne (fun e => by omega), k4 j (by omega), m2 j (by omega) hj]
              · have fr : ∀ a j, (a = 45 ∨ a = 46 ∨ a = 47) ∧ j = s' ∨ a = 20 + 2 * s' ∨ a = 21 + 2 * s' ∨ a = 48 ∧ (40 * s' ≤ j ∧ j < 40 * s' + 40) → I2 a j = I a j := fun a j g => by
                  rw [m3 a j (fun e => by omega), u_ne (fun e => by omega), u_ne (fun e => by omega), u_ne (fun e => by omega)]
                  exact k5 a j (by omega) (by omega)
                rcases h6 s' hs' with ⟨q1, q2, q3⟩ | ⟨so', z', q1, q2, q3, q4, q5, q6, q7, q8⟩
                · exact Or.inl ⟨(fr _ _ (by omega)).trans q1, (fr _ _ (by omega)).trans q2, (fr _ _ (by omega)).trans q3⟩
                · exact Or.inr ⟨so', z', q1, q2, (fr _ _ (by omega)).trans q3, (fr _ _ (by omega)).trans q4, (fr _ _ (by omega)).trans q5, (fr _ _ (by omega)).trans q6, (fr _ _ (by omega)).trans q7, fun j hj => (fr _ _ (by omega)).trans ((q8 j hj).trans (fr _ _ (by omega)).symm)⟩
        · refine ⟨I, I, -2, ?_, ?_, hh⟩
          · unfold px_mt
            repeat refine e_s rfl ?_
            refine e_c rfl (r_sheetAt (d := d) hs) (by omega) ?_
            repeat refine e_s rfl ?_
            refine e_bf e1 ?_
            repeat refine e_s rfl ?_
            refine e_c rfl (r_below (d := d)) (by omega) ?_
            rw [show decide (0 ≤ nI u ∧ nI u < 3) = true from in_k (k := 3) hu (by decide)]
            repeat refine e_s rfl ?_
            refine e_bt e1 ?_
            repeat refine e_s rfl ?_
            refine e_bf z40 ?_
            repeat refine e_s rfl ?_
            exact e_r rfl
          · unfold px_mt
            repeat refine e_s rfl ?_
            refine e_c rfl (r_isSheet (d := d)) (by omega) ?_
            rw [in_k hs (by decide)]
            repeat refine e_s rfl ?_
            refine e_c rfl (r_inI (D := d) (a := -1) (c := 2) (by decide) (by decide)) (by omega) ?_
            rw [ein]
            repeat refine e_s rfl ?_
            refine e_bf u0 ?_
            repeat refine e_s rfl ?_
            refine e_bf z40 ?_
            repeat refine e_s rfl ?_
            exact e_r rfl
end PXSH
