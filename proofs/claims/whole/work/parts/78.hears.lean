/-! hears, on both sides -/
theorem sub1 {a b : Nat} : nI a - nI b - 1 = nI a - nI (b + 1) := by
  rw [← nI_1]
  simp only [Int32.sub_eq_add_neg, Int32.neg_add, Int32.add_assoc]
section PXHR
variable {d D n q L cc tc rl sg tp s : Nat} {so : Option Nat} {dr : px_HR} {ds : px_HS} {I I0 : px_HI} {J : px_HJ} {xs : Nat → Int32} {ca kd nb ta ua wa tz : Nat → Nat} {x y z v w : Int32}
theorem r_hearC (e26 : I 2 6 = nI sg) (s6 : sg ≤ 6) : (inI 0 3 x = true ∧ sg < 6 → px_mt (d + 2) 57 [.ref 0, .int x] I J (dR so dr) (dS L ds) n q (some (.int (nI (sg + 1))), px_u (px_u I 3 sg x) 2 6 (nI (sg + 1)), J, dR so dr, dS L ds, n, q)) ∧ (¬ (inI 0 3 x = true ∧ sg < 6) → ∃ v, v ≤ 0 ∧ px_mt (d + 2) 57 [.ref 0, .int x] I J (dR so dr) (dS L ds) n q (some (.int v), I, J, dR so dr, dS L ds, n, q)) := by
  have ein : decide (0 ≤ x ∧ x < 4) = inI 0 3 x := in_lt 3 (by decide) (by decide)
  constructor
  · rintro ⟨hin, hs6⟩
    unfold px_mt
    repeat refine e_s rfl ?_
    refine e_c rfl (r_below (d := d)) (by omega) ?_
    rw [ein, hin]
    repeat refine e_s rfl ?_
    rw [e26]
    refine e_bt (nI_lt (b := 6) hs6 (by decide)) ?_
    repeat refine e_s rfl ?_
    refine e_c rfl (r_sadd_2 (d := d) e26 hs6) (by omega) ?_
    repeat refine e_s rfl ?_
    exact e_r rfl
  · intro hn
    cases hin : inI 0 3 x with
    | false =>
      refine ⟨-2, by decide, ?_⟩
      unfold px_mt
      repeat refine e_s rfl ?_
      refine e_c rfl (r_below (d := d)) (by omega) ?_
      rw [ein, hin]
      repeat refine e_s rfl ?_
      exact e_r rfl
    | true =>
      have hs : sg = 6 := by
        by_cases e : sg < 6
        · exact absurd ⟨hin, e⟩ hn
        · omega
      refine ⟨-4, by decide, ?_⟩
      unfold px_mt
      repeat refine e_s rfl ?_
      refine e_c rfl (r_below (d := d)) (by omega) ?_
      rw [ein, hin]
      repeat refine e_s rfl ?_
      rw [e26]
      refine e_bf (nI_nlt (b := 6) (by omega) (by omega)) ?_
      refine e_s rfl ?_
      exact e_r rfl
theorem r_hearM (e16 : I 31 16 = nI sg) (s6 : sg ≤ 6) : (inI 0 3 x = true ∧ sg < 6 → px_mt (d + 2) 147 [.ref 31, .int x] I J (dR so dr) (dS L ds) n q (some (.int (nI (sg + 1))), px_u (px_u I 37 sg x) 31 16 (nI (sg + 1)), J, dR so dr, dS L ds, n, q)) ∧ (¬ (inI 0 3 x = true ∧ sg < 6) → ∃ v, v ≤ 0 ∧ px_mt (d + 2) 147 [.ref 31, .int x] I J (dR so dr) (dS L ds) n q (some (.int v), I, J, dR so dr, dS L ds, n, q)) := by
  constructor
  · rintro ⟨hin, hs6⟩
    unfold px_mt
    repeat refine e_s rfl ?_
    refine e_c rfl (r_inI (D := d) (a := 0) (c := 3) (by decide) (by decide)) (by omega) ?_
    rw [hin]
    repeat refine e_s rfl ?_
    rw [e16]
    refine e_bt (fun g => absurd ((nI_eq (b := 6) (by omega) (by omega)).mp g) (by omega)) ?_
    repeat refine e_s rfl ?_
    rw [e16]
    refine e_is rfl rfl rfl hs6 (by decide) ?_
    repeat refine e_s rfl ?_
    rw [show px_u I 37 sg x 31 16 = nI sg from e16, nI_1]
    exact e_r rfl
  · intro hn
    cases hin : inI 0 3 x with
    | false =>
      refine ⟨-2, by decide, ?_⟩
      unfold px_mt
      repeat refine e_s rfl ?_
      refine e_c rfl (r_inI (D := d) (a := 0) (c := 3) (by decide) (by decide)) (by omega) ?_
      rw [hin]
      repeat refine e_s rfl ?_
      exact e_r rfl
    | true =>
      have hs : sg = 6 := by
        by_cases e : sg < 6
        · exact absurd ⟨hin, e⟩ hn
        · omega
      refine ⟨-4, by decide, ?_⟩
      unfold px_mt
      repeat refine e_s rfl ?_
      refine e_c rfl (r_inI (D := d) (a := 0) (c := 3) (by decide) (by decide)) (by omega) ?_
      rw [hin]
      repeat refine e_s rfl ?_
      rw [e16]
      refine e_bf (fun g => g (by rw [hs]; rfl)) ?_
      refine e_s rfl ?_
      exact e_r rfl
theorem w_hrs {N m : Nat} (hs : s < 4) (hN : N ≤ 6) (hm : m ≤ 40) : ∀ k i t sg (Ic : px_HI), i + k = N → sg ≤ 6 → t ≤ i → Ic 2 6 = nI sg → Ic (20 + 2 * s) 2 = nI m → ∃ v Ic' sg', sg' ≤ 6 ∧ Ic' 2 6 = nI sg' ∧ (∀ a j, a ≠ 3 → (a = 2 → j ≠ 6) → Ic' a j = Ic a j) ∧ px_ev (d + 3) 138 64 [some (.ref 0), some (.int (nI s)), some (.int y), some (.int w), some (.int (nI N)), some (.ref (20 + 2 * s)), some (.int (nI t)), some (.int (nI i))] [] Ic J (dR so dr) (dS L ds) n q (some (.int v), Ic', J, dR so dr, dS L ds, n, q) ∧ ∀ Im : px_HI, Im 31 16 = nI sg → (∀ j, j < 6 → Ic 3 j = Im 37 j) → Im 47 s = nI m → (∀ j, j < m → Ic (21 + 2 * s) j = Im 48 (40 * s + j)) → ∃ Im', px_ev (d + 3) 235 75 [some (.ref 31), some (.int (nI s)), some (.int y), some (.int w), some (.int (nI N)), some (.int (nI t)), some (.int (nI i))] [] Im J (dR so dr) (dS L ds) n q (some (.int v), Im', J, dR so dr, dS L ds, n, q) ∧ Im' 31 16 = nI sg' ∧ (∀ j, j < 6 → Ic' 3 j = Im' 37 j) ∧ ∀ a j, a ≠ 37 → (a = 31 → j ≠ 16) → Im' a j = Im a j
  | 0, i, t, sg, Ic, hi, h6, ht, e26, e22 => by
    refine ⟨nI t, Ic, sg, h6, e26, fun _ _ _ _ => rfl, ?_, fun Im f1 f2 f3 f4 => ⟨Im, ?_, f1, f2, fun _ _ _ _ => rfl⟩⟩
    · repeat refine e_s rfl ?_
      refine e_bt (nI_le (by omega) (by omega)) ?_
      repeat refine e_s rfl ?_
      exact e_r rfl
    · repeat refine e_s rfl ?_
      refine e_bt (nI_le (by omega) (by omega)) ?_
      repeat refine e_s rfl ?_
      exact e_r rfl
  | k + 1, i, t, sg, Ic, hi, h6, ht, e26, e22 => by
    obtain ⟨s1, s2, s3, s4⟩ := sh_S (ds := ds) (L := L) (so := so) (dr := dr) hs
    have cz : (nI m - nI i).toInt = (m : Int) - i := pk_sub_toInt (by omega) (by omega)
    have cz1 : (nI m - nI (i + 1)).toInt = (m : Int) - (i + 1 : Nat) := pk_sub_toInt (by omega) (by omega)
    by_cases hw : w < 0
    · refine ⟨-12, Ic, sg, h6, e26, fun _ _ _ _ => rfl, ?_, fun Im f1 f2 f3 f4 => ⟨Im, ?_, f1, f2, fun _ _ _ _ => rfl⟩⟩
      · repeat refine e_s rfl ?_
        refine e_bf (nI_ge (by omega) (by omega)) ?_
        repeat refine e_s rfl ?_
        refine e_bt hw ?_
        repeat refine e_s rfl ?_
        exact e_r rfl
      · repeat refine e_s rfl ?_
        refine e_bf (nI_ge (by omega) (by omega)) ?_
        repeat refine e_s rfl ?_
        refine e_bt hw ?_
        repeat refine e_s rfl ?_
        exact e_r rfl
    · by_cases hw2 : w < nI m - nI i
      · obtain ⟨f, hf, hwf⟩ : ∃ f, f + i < m ∧ w = nI f := by
          obtain ⟨f, hf, e⟩ := nI_of hw
          have hw3 := hw2
          rw [e, Int32.lt_iff_toInt_lt, nI_toInt hf, cz] at hw3
          exact ⟨f, by omega, e⟩
        have mle : w ≤ nI m - nI i - 1 := by
          rw [hwf, sub1, Int32.le_iff_toInt_le, nI_toInt (by omega), cz1]
          omega
        by_cases hok : inI 0 3 (Ic (21 + 2 * s) (f + i)) = true ∧ sg < 6
        · obtain ⟨v, Ic', sg', r1, r2, r3, r4, r5⟩ := w_hrs hs hN hm k (i + 1) (t + 1) (sg + 1) (px_u (px_u Ic 3 sg (Ic (21 + 2 * s) (f + i))) 2 6 (nI (sg + 1))) (by omega) (by omega) (by omega) (by rw [u_eq]) (by rw [u_ne (fun e => by omega), u_ne (fun e => by omega), e22])
          refine ⟨v, Ic', sg', r1, r2, fun a j g1 g2 => ?_, ?_, fun Im f1 f2 f3 f4 => ?_⟩
          · rw [r3 a j g1 g2, u_ne g2, u_ne (fun e => absurd e g1)]
          · repeat refine e_s rfl ?_
            refine e_bf (nI_ge (by omega) (by omega)) ?_
            repeat refine e_s rfl ?_
            refine e_bf hw ?_
            repeat refine e_s rfl ?_
            refine e_gi rfl s1 rfl ?_
            rw [e22]
            repeat refine e_s rfl ?_
            refine e_bt hw2 ?_
            repeat refine e_s rfl ?_
            rw [show w + nI i = nI (f + i) from by rw [hwf, nI_add]]
            refine e_cv rfl rfl rfl s1 rfl rfl (r_shAt (d := d) hs e22 hf hm) (by omega) ?_
            refine e_c rfl ((r_hearC (d := d) e26 h6).1 hok) (by omega) ?_
            refine e_s rfl ?_
            refine e_bf (nI_nle (by omega) (by omega)) ?_
            refine e_s rfl ?_
            refine e_s rfl ?_
            refine e_s rfl ?_
            rw [nI_1, nI_1]
            exact r4
          · obtain ⟨Im', p1, p2, p3, p4⟩ := r5 (px_u (px_u Im 37 sg (Ic (21 + 2 * s) (f + i))) 31 16 (nI (sg + 1))) (by rw [u_eq]) (fun j hj => by
              rw [u_ne (fun e => by omega)]
              by_cases e : j = sg
              · subst e
                rw [u_eq, u_ne (fun e => by omega), u_eq]
              · rw [u_ne (fun _ => e), u_ne (fun e => by omega), u_ne (fun _ => e), f2 j hj]) (by rw [u_ne (fun e => by omega), u_ne (fun e => by omega), f3]) (fun j hj => by rw [u_ne (fun e => by omega), u_ne (fun e => by omega), u_ne (fun e => by omega), u_ne (fun e => by omega), f4 j hj])
            refine ⟨Im', ?_, p2, p3, fun a j g1 g2 => ?_⟩
            · repeat refine e_s rfl ?_
              refine e_bf (nI_ge (by omega) (by omega)) ?_
              repeat refine e_s rfl ?_
              refine e_bf hw ?_
              repeat refine e_s rfl ?_
              refine e_ia rfl rfl rfl hs (by decide) ?_
              rw [f3]
              repeat refine e_s rfl ?_
              refine e_bt mle ?_
              repeat refine e_s rfl ?_
              rw [show (40 : Int32) * nI s + w + nI i = nI (40 * s + f + i) from by rw [hwf, show (40 : Int32) * nI s = nI (40 * s) from pk_mul 40 s, nI_add, nI_add]]
              refine e_ia rfl rfl rfl (show 40 * s + f + i < 160 by omega) (by decide) ?_
              rw [show Im 48 (40 * s + f + i) = Ic (21 + 2 * s) (f + i) from by rw [f4 (f + i) hf, Nat.add_assoc]]
              refine e_c rfl ((r_hearM (d := d) f1 h6).1 hok) (by omega) ?_
              refine e_s rfl ?_
              refine e_bf (nI_nle (by omega) (by omega)) ?_
              refine e_s rfl ?_
              refine e_s rfl ?_
              refine e_s rfl ?_
              refine e_s rfl ?_
              refine e_s rfl ?_
              refine e_s rfl ?_
              rw [nI_1, nI_1]
              exact p1
            · rw [p4 a j g1 g2, u_ne g2, u_ne (fun e => absurd e g1)]
        · obtain ⟨v1, v2, v3⟩ := (r_hearC (d := d) (n := n) (q := q) (L := L) (so := so) (dr := dr) (ds := ds) (J := J) (x := Ic (21 + 2 * s) (f + i)) e26 h6).2 hok
          obtain ⟨v, Ic', sg', r1, r2, r3, r4, r5⟩ := w_hrs hs hN hm k (i + 1) t sg Ic (by omega) (by omega) (by omega) e26 e22
          refine ⟨v, Ic', sg', r1, r2, r3, ?_, fun Im f1 f2 f3 f4 => ?_⟩
          · repeat refine e_s rfl ?_
            refine e_bf (nI_ge (by omega) (by omega)) ?_
            repeat refine e_s rfl ?_
            refine e_bf hw ?_
            repeat refine e_s rfl ?_
            refine e_gi rfl s1 rfl ?_
            rw [e22]
            repeat refine e_s rfl ?_
            refine e_bt hw2 ?_
            repeat refine e_s rfl ?_
            rw [show w + nI i = nI (f + i) from by rw [hwf, nI_add]]
            refine e_cv rfl rfl rfl s1 rfl rfl (r_shAt (d := d) hs e22 hf hm) (by omega) ?_
            refine e_c rfl v3 (by omega) ?_
            refine e_s rfl ?_
            refine e_bt v2 ?_
            refine e_s rfl ?_
            refine e_s rfl ?_
            rw [nI_1]
            exact r4
          · obtain ⟨u1, u2, u3⟩ := (r_hearM (d := d) (n := n) (q := q) (L := L) (so := so) (dr := dr) (ds := ds) (J := J) (x := Ic (21 + 2 * s) (f + i)) f1 h6).2 hok
            obtain ⟨Im', p1, p2, p3, p4⟩ := r5 Im f1 f2 f3 f4
            refine ⟨Im', ?_, p2, p3, p4⟩
            repeat refine e_s rfl ?_
            refine e_bf (nI_ge (by omega) (by omega)) ?_
            repeat refine e_s rfl ?_
            refine e_bf hw ?_
            repeat refine e_s rfl ?_
            refine e_ia rfl rfl rfl hs (by decide) ?_
            rw [f3]
            repeat refine e_s rfl ?_
            refine e_bt mle ?_
            repeat refine e_s rfl ?_
            rw [show (40 : Int32) * nI s + w + nI i = nI (40 * s + f + i) from by rw [hwf, show (40 : Int32) * nI s = nI (40 * s) from pk_mul 40 s, nI_add, nI_add]]
            refine e_ia rfl rfl rfl (show 40 * s + f + i < 160 by omega) (by decide) ?_
            rw [show Im 48 (40 * s + f + i) = Ic (21 + 2 * s) (f + i) from by rw [f4 (f + i) hf, Nat.add_assoc]]
            refine e_c rfl u3 (by omega) ?_
            refine e_s rfl ?_
            refine e_bt u2 ?_
            refine e_s rfl ?_
            refine e_s rfl ?_
            refine e_s rfl ?_
            refine e_s rfl ?_
            refine e_s rfl ?_
            rw [Int32.add_zero, nI_1]
            exact p1
      · refine ⟨-12, Ic, sg, h6, e26, fun _ _ _ _ => rfl, ?_, fun Im f1 f2 f3 f4 => ⟨Im, ?_, f1, f2, fun _ _ _ _ => rfl⟩⟩
        · repeat refine e_s rfl ?_
          refine e_bf (nI_ge (by omega) (by omega)) ?_
          repeat refine e_s rfl ?_
          refine e_bf hw ?_
          repeat refine e_s rfl ?_
          refine e_gi rfl s1 rfl ?_
          rw [e22]
          repeat refine e_s rfl ?_
          refine e_bf hw2 ?_
          repeat refine e_s rfl ?_
          exact e_r rfl
        · repeat refine e_s rfl ?_
          refine e_bf (nI_ge (by omega) (by omega)) ?_
          repeat refine e_s rfl ?_
          refine e_bf hw ?_
          repeat refine e_s rfl ?_
          refine e_ia rfl rfl rfl hs (by decide) ?_
          rw [f3]
          repeat refine e_s rfl ?_
          refine e_bf (fun g => ?_) ?_
          · rw [sub1, Int32.le_iff_toInt_le, cz1] at g
            rw [Int32.lt_iff_toInt_lt, cz] at hw2
            omega
          repeat refine e_s rfl ?_
          exact e_r rfl
theorem o_hears (h : Inv xs L so dr ds I n cc tc rl sg tp ca kd nb ta ua wa tz) : ∃ I1 I2 v' sg', px_mt (d + 3) 138 [.ref 0, .int x, .int y, .int w, .int v] I J (dR so dr) (dS L ds) n q (some (.int v'), I1, J, dR so dr, dS L ds, n, q) ∧ px_mt (d + 3) 235 [.ref 31, .int x, .int y, .int w, .int v] I1 J (dR so dr) (dS L ds) n q (some (.int v'), I2, J, dR so dr, dS L ds, n, q) ∧ Inv xs L so dr ds I2 n cc tc rl sg' tp ca kd nb ta ua wa tz := by
  have hh := h
  obtain ⟨h0, h1, h2, h3, h4, h5, h6, h7, h8, h9, h10, h11, h12⟩ := h
  obtain ⟨a1, a2, a3, a4, a5, a6, a7, a8, a9, a10, a11⟩ := h1
  rcases ix_or (x := x) (k := 4) (by decide) with g | ⟨s, hs, rfl⟩
  · refine ⟨I, I, -2, sg, ?_, ?_, hh⟩
    · unfold px_mt
      repeat refine e_s rfl ?_
      refine e_c rfl (r_sheetNo (d := d) g) (by omega) ?_
      repeat refine e_s rfl ?_
      exact e_r rfl
    · unfold px_mt
      repeat refine e_s rfl ?_
      refine e_c rfl (r_isSheet (d := d)) (by omega) ?_
      rw [out_k g]
      repeat refine e_s rfl ?_
      exact e_r rfl
  obtain ⟨s1, s2, s3, s4⟩ := sh_S (ds := ds) (L := L) (so := so) (dr := dr) hs
  have ey : decide (0 ≤ y ∧ y < 3) = inI 0 2 y := in_lt 2 (by decide) (by decide)
  cases hy : inI 0 2 y with
  | false =>
    refine ⟨I, I, -2, sg, ?_, ?_, hh⟩
    · unfold px_mt
      repeat refine e_s rfl ?_
      refine e_c rfl (r_sheetAt (d := d) hs) (by omega) ?_
      repeat refine e_s rfl ?_
      refine e_c rfl (r_below (d := d)) (by omega) ?_
      rw [ey, hy]
      repeat refine e_s rfl ?_
      exact e_r rfl
    · unfold px_mt
      repeat refine e_s rfl ?_
      refine e_c rfl (r_isSheet (d := d)) (by omega) ?_
      rw [in_k hs (by decide)]
      repeat refine e_s rfl ?_
      refine e_c rfl (r_inI (D := d) (a := 0) (c := 2) (by decide) (by decide)) (by omega) ?_
      rw [hy]
      repeat refine e_s rfl ?_
      exact e_r rfl
  | true =>
  rcases ix_or (x := v) (k := 7) (by decide) with g | ⟨N, hN, rfl⟩
  · refine ⟨I, I, -2, sg, ?_, ?_, hh⟩
    · unfold px_mt
      repeat refine e_s rfl ?_
      refine e_c rfl (r_sheetAt (d := d) hs) (by omega) ?_
      repeat refine e_s rfl ?_
      refine e_c rfl (r_below (d := d)) (by omega) ?_
      rw [ey, hy]
      repeat refine e_s rfl ?_
      rcases g with g | g
      · refine e_bt g ?_
        repeat refine e_s rfl ?_
        exact e_r rfl
      · refine e_bf (Int32.not_lt.mpr (Int32.le_trans (by decide) g)) ?_
        repeat refine e_s rfl ?_
        refine e_bf (fun g' => absurd (Int32.le_trans g g') (by decide)) ?_
        repeat refine e_s rfl ?_
        exact e_r rfl
    · unfold px_mt
      repeat refine e_s rfl ?_
      refine e_c rfl (r_isSheet (d := d)) (by omega) ?_
      rw [in_k hs (by decide)]
      repeat refine e_s rfl ?_
      refine e_c rfl (r_inI (D := d) (a := 0) (c := 2) (by decide) (by decide)) (by omega) ?_
      rw [hy]
      repeat refine e_s rfl ?_
      refine e_c rfl (r_inI (D := d) (a := 0) (c := 6) (by decide) (by decide)) (by omega) ?_
      rw [show inI 0 6 v = false from (in_lt (a := nI 7) 6 (by decide) (by decide)).symm.trans (out_k g)]
      repeat refine e_s rfl ?_
      exact e_r rfl
  have vN0 : ¬ nI N < 0 := nI_pos (by omega)
  have vN6 : nI N ≤ 6 := nI_le (b := 6) (by omega) (by decide)
  have ein : inI 0 6 (nI N) = true := (in_lt (a := nI 7) 6 (by decide) (by decide)).symm.trans (in_k hN (by decide))
  rcases h6 s hs with ⟨q1, q2, q3⟩ | ⟨u, m, q1, q2, q3, q4, q5, q6, q7, q8⟩
  · refine ⟨I, I, -11, sg, ?_, ?_, hh⟩
    · unfold px_mt
      repeat refine e_s rfl ?_
      refine e_c rfl (r_sheetAt (d := d) hs) (by omega) ?_
      repeat refine e_s rfl ?_
      refine e_c rfl (r_below (d := d)) (by omega) ?_
      rw [ey, hy]
      repeat refine e_s rfl ?_
      refine e_bf vN0 ?_
      repeat refine e_s rfl ?_
      refine e_bt vN6 ?_
      repeat refine e_s rfl ?_
      refine e_cv rfl rfl rfl s1 rfl rfl (r_miss (d := d) hs) (by omega) ?_
      rw [decide_eq_true q2]
      repeat refine e_s rfl ?_
      exact e_r rfl
    · unfold px_mt
      repeat refine e_s rfl ?_
      refine e_c rfl (r_isSheet (d := d)) (by omega) ?_
      rw [in_k hs (by decide)]
      repeat refine e_s rfl ?_
      refine e_c rfl (r_inI (D := d) (a := 0) (c := 2) (by decide) (by decide)) (by omega) ?_
      rw [hy]
      repeat refine e_s rfl ?_
      refine e_c rfl (r_inI (D := d) (a := 0) (c := 6) (by decide) (by decide)) (by omega) ?_
      rw [ein]
      repeat refine e_s rfl ?_
      refine e_za rfl rfl rfl hs (by decide) ?_
      rw [q1]
      repeat refine e_s rfl ?_
      refine e_za rfl rfl rfl hs (by decide) ?_
      rw [q1]
      repeat refine e_s rfl ?_
      exact e_r rfl
  have hne : ¬ I (20 + 2 * s) 1 = -1 := by
    rw [q4]
    match u, q1 with
    | 0, _ => decide
    | 1, _ => decide
    | 2, _ => decide
  by_cases eu : nI u = y
  · obtain ⟨v, Ic', sg', r1, r2, r3, r4, r5⟩ := w_hrs (d := d) (n := n) (q := q) (L := L) (so := so) (dr := dr) (ds := ds) (J := J) (y := y) (w := w) hs (show N ≤ 6 by omega) q2 N 0 0 sg I (by omega) a10 (by omega) a8 q6
    have fI : ∀ a j, a ≠ 3 → a ≠ 2 → Ic' a j = I a j := fun a j g1 g2 => r3 a j g1 (fun e => absurd e g2)
    obtain ⟨Im', p1, p2, p3, p4⟩ := r5 Ic' ((fI 31 16 (by omega) (by omega)).trans a9) (fun j hj => (a11 j hj).trans (fI 37 j (by omega) (by omega)).symm) ((fI 47 s (by omega) (by omega)).trans q7) (fun j hj => (q8 j hj).trans (fI 48 _ (by omega) (by omega)).symm)
    refine ⟨Ic', Im', v, sg', ?_, ?_, hh.house (fun a j g => ?_) h0 ?_⟩
    · unfold px_mt
      repeat refine e_s rfl ?_
      refine e_c rfl (r_sheetAt (d := d) hs) (by omega) ?_
      repeat refine e_s rfl ?_
      refine e_c rfl (r_below (d := d)) (by omega) ?_
      rw [ey, hy]
      repeat refine e_s rfl ?_
      refine e_bf vN0 ?_
      repeat refine e_s rfl ?_
      refine e_bt vN6 ?_
      repeat refine e_s rfl ?_
      refine e_cv rfl rfl rfl s1 rfl rfl (r_miss (d := d) hs) (by omega) ?_
      rw [decide_eq_false hne]
      repeat refine e_s rfl ?_
      refine e_gi rfl s1 rfl ?_
      rw [q4]
      repeat refine e_s rfl ?_
      refine e_bt eu ?_
      refine e_s rfl ?_
      refine e_s rfl ?_
      refine e_s rfl ?_
      refine e_s rfl ?_
      exact r4
    · unfold px_mt
      repeat refine e_s rfl ?_
      refine e_c rfl (r_isSheet (d := d)) (by omega) ?_
      rw [in_k hs (by decide)]
      repeat refine e_s rfl ?_
      refine e_c rfl (r_inI (D := d) (a := 0) (c := 2) (by decide) (by decide)) (by omega) ?_
      rw [hy]
      repeat refine e_s rfl ?_
      refine e_c rfl (r_inI (D := d) (a := 0) (c := 6) (by decide) (by decide)) (by omega) ?_
      rw [ein]
      repeat refine e_s rfl ?_
      refine e_za rfl rfl rfl hs (by decide) ?_
      rw [fI 45 s (by omega) (by omega), q3]
      repeat refine e_s rfl ?_
      refine e_ia rfl rfl rfl hs (by decide) ?_
      rw [fI 46 s (by omega) (by omega), q5]
      repeat refine e_s rfl ?_
      refine e_bt eu ?_
      repeat refine e_s rfl ?_
      refine e_za rfl rfl rfl hs (by decide) ?_
      rw [fI 45 s (by omega) (by omega), q3]
      refine e_s rfl ?_
      refine e_s rfl ?_
      refine e_s rfl ?_
      refine e_s rfl ?_
      refine e_s rfl ?_
      exact p1
    · unfold hFt at g
      rw [p4 a j (by omega) (by omega), fI a j (by omega) (by omega)]
    · have fM : ∀ a j, a ≠ 37 → a ≠ 3 → (a = 31 → j ≠ 16) → (a = 2 → j ≠ 6) → Im' a j = I a j := fun a j g1 g2 g3 g4 => (p4 a j g1 g3).trans (r3 a j g2 g4)
      refine ⟨?_, ?_, ?_, ?_, ?_, ?_, ?_, (p4 2 6 (by decide) (by decide)).trans r2, p2, r1, fun j hj => (p4 3 j (by decide) (fun e => by omega)).trans (p3 j hj)⟩
      · rw [fM 2 0 (by decide) (by decide) (by decide) (by decide), fM 31 7 (by decide) (by decide) (by decide) (by decide), a1]
      · rw [fM 2 1 (by decide) (by decide) (by decide) (by decide), fM 31 8 (by decide) (by decide) (by decide) (by decide), a2]
      · rw [fM 2 2 (by decide) (by decide) (by decide) (by decide), fM 31 9 (by decide) (by decide) (by decide) (by decide), a3]
      · rw [fM 2 3 (by decide) (by decide) (by decide) (by decide), fM 31 10 (by decide) (by decide) (by decide) (by decide), a4]
      · rw [fM 2 4 (by decide) (by decide) (by decide) (by decide), fM 31 11 (by decide) (by decide) (by decide) (by decide), a5]
      · rw [fM 2 5 (by decide) (by decide) (by decide) (by decide), a6]
      · rw [fM 31 4 (by decide) (by decide) (by decide) (by decide), a7]
  · refine ⟨I, I, -13, sg, ?_, ?_, hh⟩
    · unfold px_mt
      repeat refine e_s rfl ?_
      refine e_c rfl (r_sheetAt (d := d) hs) (by omega) ?_
      repeat refine e_s rfl ?_
      refine e_c rfl (r_below (d := d)) (by omega) ?_
      rw [ey, hy]
      repeat refine e_s rfl ?_
      refine e_bf vN0 ?_
      repeat refine e_s rfl ?_
      refine e_bt vN6 ?_
      repeat refine e_s rfl ?_
      refine e_cv rfl rfl rfl s1 rfl rfl (r_miss (d := d) hs) (by omega) ?_
      rw [decide_eq_false hne]
      repeat refine e_s rfl ?_
      refine e_gi rfl s1 rfl ?_
      rw [q4]
      repeat refine e_s rfl ?_
      refine e_bf eu ?_
      repeat refine e_s rfl ?_
      exact e_r rfl
    · unfold px_mt
      repeat refine e_s rfl ?_
      refine e_c rfl (r_isSheet (d := d)) (by omega) ?_
      rw [in_k hs (by decide)]
      repeat refine e_s rfl ?_
      refine e_c rfl (r_inI (D := d) (a := 0) (c := 2) (by decide) (by decide)) (by omega) ?_
      rw [hy]
      repeat refine e_s rfl ?_
      refine e_c rfl (r_inI (D := d) (a := 0) (c := 6) (by decide) (by decide)) (by omega) ?_
      rw [ein]
      repeat refine e_s rfl ?_
      refine e_za rfl rfl rfl hs (by decide) ?_
      rw [q3]
      repeat refine e_s rfl ?_
      refine e_ia rfl rfl rfl hs (by decide) ?_
      rw [q5]
      repeat refine e_s rfl ?_
      refine e_bf eu ?_
      repeat refine e_s rfl ?_
      exact e_r rfl
end PXHR
