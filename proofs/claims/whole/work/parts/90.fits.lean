/-! fits, on both sides -/
section PXFT
variable {d D n q L cc tc rl sg tp c k s m : Nat} {so : Option Nat} {dr R : px_HR} {ds S : px_HS} {I I0 : px_HI} {J : px_HJ} {xs : Nat → Int32} {ca kd nb ta ua wa tz : Nat → Nat} {x y z v w : Int32} {W : Nat → Int64} {f : Nat → Int32}
theorem w_ftA (hs : s < 4) (hm : m ≤ 6) : ∀ k i (I : px_HI), i + k = m → I (20 + 2 * s) 2 = nI m → (∀ j, I (21 + 2 * s) j = f j) → I 4 6 = nI i → (∀ j, j < i → I 5 j = f j) → ∃ I', (∀ r, px_ev (d + 2) 122 63 [some (.ref 0), some (.int (nI s)), some (.ref (20 + 2 * s)), some (.int 0), some (.int (nI m)), none] [] I' J (dR so dr) (dS L ds) n q r → px_ev (d + 2) 122 35 [some (.ref 0), some (.int (nI s)), some (.ref (20 + 2 * s)), some (.int 0), some (.int (nI i)), none] [] I J (dR so dr) (dS L ds) n q r) ∧ I' 4 6 = nI m ∧ (∀ j, j < m → I' 5 j = f j) ∧ ∀ a j, a ≠ 5 → (a = 4 → j ≠ 6) → I' a j = I a j
  | 0, i, I, hi, e2, e3, g6, g5 => by
    obtain ⟨s1, s2, s3, s4⟩ := sh_S (ds := ds) (L := L) (so := so) (dr := dr) hs
    have e : i = m := by omega
    subst e
    refine ⟨I, fun r kk => ?_, g6, g5, fun _ _ _ _ => rfl⟩
    refine e_s rfl ?_
    refine e_s rfl ?_
    refine e_gi rfl s1 rfl ?_
    rw [e2]
    refine e_s rfl ?_
    refine e_bt (nI_le (by omega) (by omega)) ?_
    exact kk
  | k + 1, i, I, hi, e2, e3, g6, g5 => by
    obtain ⟨s1, s2, s3, s4⟩ := sh_S (ds := ds) (L := L) (so := so) (dr := dr) hs
    obtain ⟨I', r1, r2, r3, r4⟩ := w_ftA hs hm k (i + 1) (px_u (px_u I 5 i (f i)) 4 6 (nI (i + 1))) (by omega) (by rw [u_ne (by omega), u_ne (by omega), e2]) (fun j => by rw [u_ne (by omega), u_ne (by omega), e3]) u_eq (fun j hj => by
      rw [u_ne (by omega)]
      by_cases e : j = i
      · subst e
        rw [u_eq]
      · rw [u_ne (fun _ => e), g5 j (by omega)])
    refine ⟨I', fun r kk => ?_, r2, r3, fun a j g1 g2 => ?_⟩
    · repeat refine e_s rfl ?_
      refine e_gi rfl s1 rfl ?_
      rw [e2]
      refine e_s rfl ?_
      refine e_bf (nI_ge (by omega) (by omega)) ?_
      repeat refine e_s rfl ?_
      refine e_cv (d' := 1) rfl rfl rfl s1 rfl rfl (r_shAt (d := 0) (i := i) hs e2 (by omega) (by omega)) (by omega) ?_
      rw [e3]
      refine e_c (d' := 1) rfl (r_sadd_4 (d := 0) g6 (show i < 6 by omega)) (by omega) ?_
      refine e_s rfl ?_
      refine e_s rfl ?_
      rw [nI_1]
      exact r1 r kk
    · rw [r4 a j g1 g2, u_ne g2, u_ne (fun e => absurd e g1)]
theorem w_btC (hc : I 0 1 = nI cc) (h7 : cc ≤ 7) (hW : ∀ t, t < cc → J 17 t = W t) : ∀ k i (a : Int32), i + k = cc → px_ev (d + 1) 122 77 [some (.ref 0), some (.int (nI s)), some (.ref (20 + 2 * s)), some (.int 0), some (.int a), some (.int (nI i))] [] I J (dR so dr) (dS L ds) n q (some (.int (btS (fun t => decide (0 < W t)) k i a)), I, J, dR so dr, dS L ds, n, q)
  | 0, i, a, hi => by
    repeat refine e_s rfl ?_
    rw [hc]
    refine e_bt (nI_le (by omega) (by omega)) ?_
    repeat refine e_s rfl ?_
    exact e_r rfl
  | k + 1, i, a, hi => by
    repeat refine e_s rfl ?_
    rw [hc]
    refine e_bf (nI_ge (by omega) (by omega)) ?_
    repeat refine e_s rfl ?_
    refine e_la rfl rfl rfl (show i < 7 by omega) (by decide) ?_
    rw [hW i (by omega)]
    refine e_s rfl ?_
    refine e_s rfl ?_
    refine e_s rfl ?_
    unfold btS
    refine e_b (fun h => ?_) (fun h => ?_)
    · rw [decide_eq_false (lg_le_not_lt ((lg_cmp_le _ _).mp h))]
      refine e_s rfl ?_
      refine e_s rfl ?_
      rw [nI_1]
      exact w_btC hc h7 hW k (i + 1) a (by omega)
    · rw [decide_eq_true ((lg_cmp_gt _ _).mp (Int32.not_le.mp h))]
      refine e_s rfl ?_
      refine e_s rfl ?_
      refine e_s rfl ?_
      refine e_s rfl ?_
      refine e_s rfl ?_
      refine e_s rfl ?_
      refine e_s rfl ?_
      refine e_s rfl ?_
      rw [nI_1]
      exact w_btC hc h7 hW k (i + 1) _ (by omega)
theorem w_btM (hc : I 31 14 = nI cc) (h7 : cc ≤ 7) (hW : ∀ t, t < cc → J 38 t = W t) : ∀ k i (a : Int32), i + k = cc → px_ev (d + 1) 224 28 [some (.ref 31), some (.int (nI s)), some (.int 0), some (.int a), some (.int (nI i))] [] I J (dR so dr) (dS L ds) n q (some (.int (btS (fun t => decide (0 < W t)) k i a)), I, J, dR so dr, dS L ds, n, q)
  | 0, i, a, hi => by
    repeat refine e_s rfl ?_
    rw [hc]
    refine e_bt (nI_le (by omega) (by omega)) ?_
    repeat refine e_s rfl ?_
    exact e_r rfl
  | k + 1, i, a, hi => by
    repeat refine e_s rfl ?_
    rw [hc]
    refine e_bf (nI_ge (by omega) (by omega)) ?_
    repeat refine e_s rfl ?_
    refine e_la rfl rfl rfl (show i < 7 by omega) (by decide) ?_
    rw [hW i (by omega)]
    refine e_s rfl ?_
    refine e_s rfl ?_
    refine e_s rfl ?_
    unfold btS
    refine e_b (fun h => ?_) (fun h => ?_)
    · rw [decide_eq_false (lg_le_not_lt ((lg_cmp_le _ _).mp h))]
      refine e_s rfl ?_
      refine e_s rfl ?_
      refine e_s rfl ?_
      refine e_s rfl ?_
      refine e_s rfl ?_
      refine e_s rfl ?_
      refine e_s rfl ?_
      rw [nI_1, or_sh]
      exact w_btM hc h7 hW k (i + 1) a (by omega)
    · rw [decide_eq_true ((lg_cmp_gt _ _).mp (Int32.not_le.mp h))]
      refine e_s rfl ?_
      refine e_s rfl ?_
      refine e_s rfl ?_
      refine e_s rfl ?_
      refine e_s rfl ?_
      refine e_s rfl ?_
      refine e_s rfl ?_
      refine e_s rfl ?_
      rw [nI_1]
      exact w_btM hc h7 hW k (i + 1) _ (by omega)
theorem o_fits (h : Inv xs L so dr ds I n cc tc rl sg tp ca kd nb ta ua wa tz) : ∃ I1 J1 I2 J2 v, px_mt (D + 84) 122 [.ref 0, .int x] I J (dR so dr) (dS L ds) n q (some (.int v), I1, J1, dR so dr, dS L ds, n, q) ∧ px_mt (D + 84) 224 [.ref 31, .int x] I1 J1 (dR so dr) (dS L ds) n q (some (.int v), I2, J2, dR so dr, dS L ds, n, q) ∧ Inv xs L so dr ds I2 n cc tc rl sg tp ca kd nb ta ua wa tz := by
  rcases ix_or (x := x) (k := 4) (by decide) with g | ⟨s, hs, rfl⟩
  · refine ⟨I, J, I, J, -2, ?_, ?_, h⟩
    · unfold px_mt
      repeat refine e_s rfl ?_
      refine e_c rfl (r_sheetNo (d := 0) g) (by omega) ?_
      repeat refine e_s rfl ?_
      refine e_c rfl (k := 120) (d' := 1) (v := some (.int (-2))) (I1 := I) (J1 := J) (R1 := dR so dr) (S1 := dS L ds) (n1 := n) (q1 := q) ?_ (by omega) ?_
      · unfold px_mt
        repeat refine e_s rfl ?_
        exact e_r rfl
      · repeat refine e_s rfl ?_
        exact e_r rfl
    · unfold px_mt
      repeat refine e_s rfl ?_
      refine e_c rfl (k := 222) (d' := 3) (v := some (.int (-2))) (I1 := I) (J1 := J) (R1 := dR so dr) (S1 := dS L ds) (n1 := n) (q1 := q) ?_ (by omega) ?_
      · unfold px_mt
        repeat refine e_s rfl ?_
        refine e_c rfl (r_isSheet (d := 0)) (by omega) ?_
        rw [out_k g]
        repeat refine e_s rfl ?_
        exact e_r rfl
      · repeat refine e_s rfl ?_
        exact e_r rfl
  obtain ⟨s1, s2, s3, s4⟩ := sh_S (ds := ds) (L := L) (so := so) (dr := dr) hs
  rcases h.2.2.2.2.2.2.1 s hs with ⟨q1, q2, q3⟩ | ⟨u, m, q1, q2, q3, q4, q5, q6, q7, q8⟩
  · refine ⟨I, J, I, J, -11, ?_, ?_, h⟩
    · unfold px_mt
      repeat refine e_s rfl ?_
      refine e_c rfl (r_sheetAt (d := 0) hs) (by omega) ?_
      repeat refine e_s rfl ?_
      refine e_c rfl (k := 120) (d' := 2) (v := some (.int (-11))) (I1 := I) (J1 := J) (R1 := dR so dr) (S1 := dS L ds) (n1 := n) (q1 := q) ?_ (by omega) ?_
      · unfold px_mt
        repeat refine e_s rfl ?_
        refine e_cv rfl rfl rfl s1 rfl rfl (r_miss (d := 0) hs) (by omega) ?_
        rw [decide_eq_true q2]
        repeat refine e_s rfl ?_
        exact e_r rfl
      · repeat refine e_s rfl ?_
        exact e_r rfl
    · unfold px_mt
      repeat refine e_s rfl ?_
      refine e_c rfl (k := 222) (d' := 3) (v := some (.int (-11))) (I1 := I) (J1 := J) (R1 := dR so dr) (S1 := dS L ds) (n1 := n) (q1 := q) ?_ (by omega) ?_
      · unfold px_mt
        repeat refine e_s rfl ?_
        refine e_c rfl (r_isSheet (d := 0)) (by omega) ?_
        rw [in_k hs (by decide)]
        repeat refine e_s rfl ?_
        refine e_za rfl rfl rfl hs (by decide) ?_
        rw [q1]
        repeat refine e_s rfl ?_
        exact e_r rfl
      · repeat refine e_s rfl ?_
        exact e_r rfl
  have hne : ¬ I (20 + 2 * s) 1 = -1 := by
    rw [q4]
    match u, q1 with
    | 0, _ => decide
    | 1, _ => decide
    | 2, _ => decide
  have erf : rfS (fun j => I 48 (40 * s + j)) m = rfS (I (21 + 2 * s)) m := by
    unfold rfS
    rw [okS_c m 0 (fun j hj => (q8 j (by omega)).symm)]
  by_cases hr : rfS (I (21 + 2 * s)) m = 0
  · have hm : m ≤ 6 := by
      by_cases g : m ≤ 6
      · exact g
      · unfold rfS at hr
        rw [if_neg g] at hr
        exact absurd hr (by decide)
    obtain ⟨Ia, b1, b2, b3, b4, b5⟩ := r_unh_4_2 (d := 0) (n := n) (q := q) (L := L) (so := so) (dr := dr) (ds := ds) (I := I) (J := J)
    have fb : kpF wa tc I Ia := fun a j g => b5 a j (fun e => g (Or.inl e)) (fun e => g (Or.inr (Or.inl e)))
    obtain ⟨Ib, c1, c2, c3, c4⟩ := w_ftA (d := D + 82) (n := n) (q := q) (L := L) (so := so) (dr := dr) (ds := ds) (J := J) (f := I (21 + 2 * s)) hs hm m 0 Ia (by omega) ((b5 _ _ (by omega) (by omega)).trans q6) (fun j => b5 _ _ (by omega) (by omega)) b3 (fun j hj => by omega)
    have fb2 : kpF wa tc Ia Ib := fun a j g => c4 a j (fun e => g (Or.inr (Or.inl e))) (fun e => absurd (Or.inl e) g)
    have hb := (h.keep fb).keep fb2
    obtain ⟨a1, a2, a3, a4, a5, a6, a7, a8, a9, a10, a11⟩ := h.2.1
    have d4 : ∀ j, j < 6 → Ib 4 j = I 2 j := fun j hj => (c4 4 j (by omega) (by omega)).trans (b2 j hj)
    obtain ⟨I1, J1, k1, k2, k3, k4, k5, k6, k7, k8⟩ := q_tho (d := 0) (q := q) (J := J) (rl' := rl) (sg' := m) hb h.1 ((d4 5 (by decide)).trans a6) c2 hm
    obtain ⟨_, _, _, _, e32⟩ := mW_k h (fb.trans fb2)
    have eW : gW Ib tz kd nb (Ib 4 0) (Ib 4 1) (Ib 4 2) (Ib 4 3) (Ib 4 4) rl m (Ib 5) = gW I tz kd nb (I 31 7) (I 31 8) (I 31 9) (I 31 10) (I 31 11) rl m (I (21 + 2 * s)) := by
      rw [d4 0 (by decide), d4 1 (by decide), d4 2 (by decide), d4 3 (by decide), d4 4 (by decide), a1, a2, a3, a4, a5]
      exact gW_c e32 c3
    rw [eW] at k5
    have f1 := (fb.trans fb2).trans k2
    have h' := h.keep f1
    have lo : ∀ a j, 30 < a → a < 49 → a ≠ 31 → a ≠ 41 → I1 a j = I a j := fun a j g1 g2 g3 g4 => f1.lo h (by omega) (by omega) (by omega) (by omega) (by omega) (by omega) (by omega)
    have e31 : ∀ j, j < 12 → I1 31 j = I 31 j := fun j hj => f1.lo h (by omega) (by omega) (by omega) (by omega) (by omega) (by omega) (by omega)
    obtain ⟨I2, J2, m1, m2, m3, m4⟩ := m_alone (D := D) (q := q) (J := J1) (m := m) h' hs hm
    have eW2 : gW I1 tz kd nb (I1 31 7) (I1 31 8) (I1 31 9) (I1 31 10) (I1 31 11) rl m (fun j => I1 48 (40 * s + j)) = gW I tz kd nb (I 31 7) (I 31 8) (I 31 9) (I 31 10) (I 31 11) rl m (I (21 + 2 * s)) := by
      rw [e31 7 (by omega), e31 8 (by omega), e31 9 (by omega), e31 10 (by omega), e31 11 (by omega)]
      exact gW_c (fun j => lo 32 j (by omega) (by omega) (by omega) (by omega)) (fun j hj => by rw [lo 48 _ (by omega) (by omega) (by omega) (by omega), q8 j (by omega)])
    rw [eW2] at m3
    have h'' := h'.keep m2
    refine ⟨I1, J1, I2, J2, btS (fun t => decide (0 < gW I tz kd nb (I 31 7) (I 31 8) (I 31 9) (I 31 10) (I 31 11) rl m (I (21 + 2 * s)) t)) cc 0 0, ?_, ?_, h''⟩
    · unfold px_mt
      repeat refine e_s rfl ?_
      refine e_c rfl (r_sheetAt (d := 0) hs) (by omega) ?_
      repeat refine e_s rfl ?_
      refine e_c rfl (r_refC (d := 0) hs q2 hne q6) (by omega) ?_
      rw [hr]
      repeat refine e_s rfl ?_
      refine e_c rfl b1 (by omega) ?_
      refine e_s rfl ?_
      refine e_s rfl ?_
      refine c1 _ ?_
      repeat refine e_s rfl ?_
      refine e_c rfl k1 (by omega) ?_
      refine e_s rfl ?_
      refine e_s rfl ?_
      refine e_s rfl ?_
      refine e_s rfl ?_
      exact w_btC h'.2.2.1.2.1 h'.2.2.1.1 k5 cc 0 0 (by omega)
    · have hrM := r_refM (d := 0) (n := n) (q := q) (L := L) (so := so) (dr := dr) (ds := ds) (J := J1) (I := I1) hs q2 ((lo 45 s (by omega) (by omega) (by omega) (by omega)).trans q3) ((lo 47 s (by omega) (by omega) (by omega) (by omega)).trans q7)
      rw [show (fun j => I1 48 (40 * s + j)) = fun j => I 48 (40 * s + j) from funext (fun j => lo 48 _ (by omega) (by omega) (by omega) (by omega)), erf, hr] at hrM
      unfold px_mt
      repeat refine e_s rfl ?_
      refine e_c rfl hrM (by omega) ?_
      repeat refine e_s rfl ?_
      refine e_ia rfl rfl rfl hs (by decide) ?_
      rw [lo 47 s (by omega) (by omega) (by omega) (by omega), q7]
      refine e_c rfl m1 (by omega) ?_
      refine e_s rfl ?_
      refine e_s rfl ?_
      refine e_s rfl ?_
      refine e_s rfl ?_
      exact w_btM h''.2.2.1.2.2.1 h''.2.2.1.1 m3 cc 0 0 (by omega)
  · refine ⟨I, J, I, J, rfS (I (21 + 2 * s)) m, ?_, ?_, h⟩
    · unfold px_mt
      repeat refine e_s rfl ?_
      refine e_c rfl (r_sheetAt (d := 0) hs) (by omega) ?_
      repeat refine e_s rfl ?_
      refine e_c rfl (r_refC (d := 0) hs q2 hne q6) (by omega) ?_
      repeat refine e_s rfl ?_
      refine e_bf hr ?_
      refine e_s rfl ?_
      exact e_r rfl
    · have hrM := r_refM (d := 0) (n := n) (q := q) (L := L) (so := so) (dr := dr) (ds := ds) (J := J) (I := I) hs q2 q3 q7
      rw [erf] at hrM
      unfold px_mt
      repeat refine e_s rfl ?_
      refine e_c rfl hrM (by omega) ?_
      repeat refine e_s rfl ?_
      refine e_bf hr ?_
      refine e_s rfl ?_
      exact e_r rfl
end PXFT
